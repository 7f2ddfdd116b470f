set_option maxHeartbeats 4000000 in
set_option maxRecDepth 100000 in
theorem Rd_readInto_L11_ok {p : Program} {l : Launch} {e : Env} {R : Room} {s : State} {m : MethodId} {args : Array Value} {below : List Frame} {meth : Method} {c : Code} {D : va_G} {ad : Nat → Nat} {cI cB : ClassId} {A : Nat → Prop} {cells slots : Nat} {Q : State → Prop} (X : Cx p R s m args meth c jR2 prog_8_method_4_code 6 6 D ad cI cB A cells slots) (fu : Nat) (q0 : Nat) (hl_q0 : q0 < 116) (hc_q0 : jv_cls q0 = 3) (kont : (Int32 → Sg → Option Sg)) {K : Sg → Prop} (hQ : RV p l e R s m args below meth c 6 D ad cI cB A cells slots Q prog_8_method_4_code K) (hk : ∀ (l2 : Int32) (σ : Sg), wpO (kont l2 σ) K → V p l e R s m args below meth c 6 D A cells slots Q (wl ad cI cB σ) 51 [(0, Value.ref (ad 4)), (1, Value.ref (ad q0)), (2, Value.int l2)] []) : ∀ (n : Nat) (l2 : Int32) (σ : Sg), wpO (Rd_readInto_L11 fu q0 kont n l2 σ) K → V p l e R s m args below meth c 6 D A cells slots Q (wl ad cI cB σ) 11 [(0, Value.ref (ad 4)), (1, Value.ref (ad q0)), (2, Value.int l2)] [] := by
  intro n
  induction n with
  | zero =>
    intro l2 σ h
    exact (wp_none h).elim
  | succ n ih =>
    intro l2 σ h
    rw [Rd_readInto_L11] at h
    refine V_iload_n X 2 d_Rd_readInto_11 rfl ?_
    refine V_aload_n X 0 d_Rd_readInto_12 rfl ?_
    refine V_getI X 2 2 rfl ji2 (by decide) (by decide) (by decide) fl_Rd_19 d_Rd_readInto_13 (by decide) (by decide) (by decide) ?_
    refine V_icmp_ge X 51 d_Rd_readInto_16 (by decide) h (fun c2 h => ?_) (fun c2 h => ?_)
    · skip
      exact hk l2 σ h
    · skip
      refine V_iconst (v := 3) X d_Rd_readInto_19 (by decide) ?_
      refine V_iload_n X 2 d_Rd_readInto_20 rfl ?_
      refine V_imul X d_Rd_readInto_21 ?_
      refine V_istore_n X [(3, Value.int ((3 : Int32) * l2)), (0, Value.ref (ad 4)), (1, Value.ref (ad q0)), (2, Value.int l2)] d_Rd_readInto_22 (by decide) rfl ?_
      refine V_aload_n X 2 d_Rd_readInto_23 rfl ?_
      refine V_aload_n X 1 d_Rd_readInto_24 rfl ?_
      refine V_getR X 2 0 1 rfl ji2 (by decide) (by decide) (by decide) fl_Rd_9 d_Rd_readInto_25 (by decide) (by decide) (by decide) (by decide) ?_
      refine V_iload_n X 0 d_Rd_readInto_28 rfl ?_
      refine V_cI X h (fun r3 q => C_V (q := 1) X [Value.int ((3 : Int32) * l2)] mt_Pg_digit ms_Pg_digit ml_Rd_47 (k_Pg_digit σ ((3 : Int32) * l2) r3 q) rfl rfl (by omega) (Nat.le_of_ble_eq_true rfl) rfl (by decide) (by decide) (by decide) d_Rd_readInto_29) (fun r3 h => ?_)
      refine V_aload_n X 1 d_Rd_readInto_32 rfl ?_
      refine V_getR X 2 0 1 rfl ji2 (by decide) (by decide) (by decide) fl_Rd_9 d_Rd_readInto_33 (by decide) (by decide) (by decide) (by decide) ?_
      refine V_iload_n X 0 d_Rd_readInto_36 rfl ?_
      refine V_iconst (v := 1) X d_Rd_readInto_37 (by decide) ?_
      refine V_iadd X d_Rd_readInto_38 ?_
      refine V_cI X h (fun r4 q => C_V (q := 1) X [Value.int (((3 : Int32) * l2) + (1 : Int32))] mt_Pg_digit ms_Pg_digit ml_Rd_47 (k_Pg_digit σ (((3 : Int32) * l2) + (1 : Int32)) r4 q) rfl rfl (by omega) (Nat.le_of_ble_eq_true rfl) rfl (by decide) (by decide) (by decide) d_Rd_readInto_39) (fun r4 h => ?_)
      refine V_cV X h (fun s5 q => C_V (q := 3) X [Value.int r3, Value.int r4] mt_Sh_addTree ms_Sh_addTree ml_Rd_50 (k_Sh_addTree σ q0 hl_q0 hc_q0 r3 r4 s5 q) rfl rfl (by omega) (Nat.le_of_ble_eq_true rfl) rfl hl_q0 hc_q0 (by decide) d_Rd_readInto_42) (fun s5 h => ?_)
      refine V_iinc X 3 (l2 + (1 : Int32)) [(2, Value.int (l2 + (1 : Int32))), (3, Value.int ((3 : Int32) * l2)), (0, Value.ref (ad 4)), (1, Value.ref (ad q0))] d_Rd_readInto_45 rfl (by first | rfl | decide) (by decide) rfl ?_
      refine V_goto X 11 d_Rd_readInto_48 (by decide) ?_
      refine V_sub (lv' := [(0, Value.ref (ad 4)), (1, Value.ref (ad q0)), (2, Value.int (l2 + (1 : Int32)))]) [2, 3, 0] rfl ?_
      exact ih (l2 + (1 : Int32)) s5 h
set_option maxHeartbeats 4000000 in
set_option maxRecDepth 100000 in
theorem Rd_readInto_L53_ok {p : Program} {l : Launch} {e : Env} {R : Room} {s : State} {m : MethodId} {args : Array Value} {below : List Frame} {meth : Method} {c : Code} {D : va_G} {ad : Nat → Nat} {cI cB : ClassId} {A : Nat → Prop} {cells slots : Nat} {Q : State → Prop} (X : Cx p R s m args meth c jR2 prog_8_method_4_code 6 6 D ad cI cB A cells slots) (fu : Nat) (q0 : Nat) (hl_q0 : q0 < 116) (hc_q0 : jv_cls q0 = 3) (kont : (Int32 → Sg → Option Sg)) {K : Sg → Prop} (hQ : RV p l e R s m args below meth c 6 D ad cI cB A cells slots Q prog_8_method_4_code K) (hk : ∀ (l2 : Int32) (σ : Sg), wpO (kont l2 σ) K → V p l e R s m args below meth c 6 D A cells slots Q (wl ad cI cB σ) 153 [(0, Value.ref (ad 4)), (1, Value.ref (ad q0)), (2, Value.int l2)] []) : ∀ (n : Nat) (l2 : Int32) (σ : Sg), wpO (Rd_readInto_L53 fu q0 kont n l2 σ) K → V p l e R s m args below meth c 6 D A cells slots Q (wl ad cI cB σ) 53 [(0, Value.ref (ad 4)), (1, Value.ref (ad q0)), (2, Value.int l2)] [] := by
  intro n
  induction n with
  | zero =>
    intro l2 σ h
    exact (wp_none h).elim
  | succ n ih =>
    intro l2 σ h
    rw [Rd_readInto_L53] at h
    refine V_iload_n X 2 d_Rd_readInto_53 rfl ?_
    refine V_aload_n X 0 d_Rd_readInto_54 rfl ?_
    refine V_getI X 2 3 rfl ji2 (by decide) (by decide) (by decide) fl_Rd_22 d_Rd_readInto_55 (by decide) (by decide) (by decide) ?_
    refine V_icmp_ge X 153 d_Rd_readInto_58 (by decide) h (fun c8 h => ?_) (fun c8 h => ?_)
    · skip
      exact hk l2 σ h
    · skip
      refine V_iconst (v := 3) X d_Rd_readInto_61 (by decide) ?_
      refine V_aload_n X 0 d_Rd_readInto_62 rfl ?_
      refine V_getI X 2 2 rfl ji2 (by decide) (by decide) (by decide) fl_Rd_19 d_Rd_readInto_63 (by decide) (by decide) (by decide) ?_
      refine V_imul X d_Rd_readInto_66 ?_
      refine V_iconst (v := 5) X d_Rd_readInto_67 (by decide) ?_
      refine V_iload_n X 2 d_Rd_readInto_68 rfl ?_
      refine V_imul X d_Rd_readInto_69 ?_
      refine V_iadd X d_Rd_readInto_70 ?_
      refine V_istore_n X [(3, Value.int (((3 : Int32) * (gF σ 4 2)) + ((5 : Int32) * l2))), (0, Value.ref (ad 4)), (1, Value.ref (ad q0)), (2, Value.int l2)] d_Rd_readInto_71 (by decide) rfl ?_
      refine V_ldcS X d_Rd_readInto_72 ?_
      refine V_aload_n X 1 d_Rd_readInto_74 rfl ?_
      refine V_getR X 2 0 1 rfl ji2 (by decide) (by decide) (by decide) fl_Rd_9 d_Rd_readInto_75 (by decide) (by decide) (by decide) (by decide) ?_
      refine V_iload_n X 0 d_Rd_readInto_78 rfl ?_
      refine V_cI X h (fun r9 q => C_V (q := 1) X [Value.int (((3 : Int32) * (gF σ 4 2)) + ((5 : Int32) * l2))] mt_Pg_code ms_Pg_code ml_Rd_31 (k_Pg_code σ (((3 : Int32) * (gF σ 4 2)) + ((5 : Int32) * l2)) r9 q) rfl rfl (by omega) (Nat.le_of_ble_eq_true rfl) rfl (by decide) (by decide) (by decide) d_Rd_readInto_79) (fun r9 h => ?_)
      refine V_i2c X d_Rd_readInto_82 ?_
      refine V_kidx X ml_Rd_56 d_Rd_readInto_83 (by decide) (Nat.le_of_ble_eq_true rfl) ?_
      refine V_istore X [(4, Value.int (kIndex ((r9.toUInt32 % 65536).toInt32))), (3, Value.int (((3 : Int32) * (gF σ 4 2)) + ((5 : Int32) * l2))), (0, Value.ref (ad 4)), (1, Value.ref (ad q0)), (2, Value.int l2)] d_Rd_readInto_86 (by decide) rfl ?_
      refine V_aload_n X 2 d_Rd_readInto_88 rfl ?_
      refine V_getR X 2 0 1 rfl ji2 (by decide) (by decide) (by decide) fl_Rd_9 d_Rd_readInto_89 (by decide) (by decide) (by decide) (by decide) ?_
      refine V_iload_n X 1 d_Rd_readInto_92 rfl ?_
      refine V_iconst (v := 3) X d_Rd_readInto_93 (by decide) ?_
      refine V_iadd X d_Rd_readInto_94 ?_
      refine V_cI X h (fun r10 q => C_V (q := 1) X [Value.int ((((3 : Int32) * (gF σ 4 2)) + ((5 : Int32) * l2)) + (3 : Int32))] mt_Pg_code ms_Pg_code ml_Rd_31 (k_Pg_code σ ((((3 : Int32) * (gF σ 4 2)) + ((5 : Int32) * l2)) + (3 : Int32)) r10 q) rfl rfl (by omega) (Nat.le_of_ble_eq_true rfl) rfl (by decide) (by decide) (by decide) d_Rd_readInto_95) (fun r10 h => ?_)
      refine V_bipush (v := 45) X d_Rd_readInto_98 (by decide) ?_
      refine V_icmp_ne X 107 d_Rd_readInto_100 (by decide) h (fun c11 h => ?_) (fun c11 h => ?_)
      · skip
        refine V_aload_n X 2 d_Rd_readInto_107 rfl ?_
        refine V_getR X 2 0 1 rfl ji2 (by decide) (by decide) (by decide) fl_Rd_9 d_Rd_readInto_108 (by decide) (by decide) (by decide) (by decide) ?_
        refine V_iload_n X 1 d_Rd_readInto_111 rfl ?_
        refine V_iconst (v := 3) X d_Rd_readInto_112 (by decide) ?_
        refine V_iadd X d_Rd_readInto_113 ?_
        refine V_cI X h (fun r12 q => C_V (q := 1) X [Value.int ((((3 : Int32) * (gF σ 4 2)) + ((5 : Int32) * l2)) + (3 : Int32))] mt_Pg_digit ms_Pg_digit ml_Rd_47 (k_Pg_digit σ ((((3 : Int32) * (gF σ 4 2)) + ((5 : Int32) * l2)) + (3 : Int32)) r12 q) rfl rfl (by omega) (Nat.le_of_ble_eq_true rfl) rfl (by decide) (by decide) (by decide) d_Rd_readInto_114) (fun r12 h => ?_)
        refine V_istore X [(5, Value.int r12), (4, Value.int (kIndex ((r9.toUInt32 % 65536).toInt32))), (3, Value.int (((3 : Int32) * (gF σ 4 2)) + ((5 : Int32) * l2))), (0, Value.ref (ad 4)), (1, Value.ref (ad q0)), (2, Value.int l2)] d_Rd_readInto_117 (by decide) rfl ?_
        refine V_aload_n X 4 d_Rd_readInto_119 rfl ?_
        refine V_iload X 1 d_Rd_readInto_120 rfl ?_
        refine V_aload_n X 3 d_Rd_readInto_122 rfl ?_
        refine V_getR X 2 0 1 rfl ji2 (by decide) (by decide) (by decide) fl_Rd_9 d_Rd_readInto_123 (by decide) (by decide) (by decide) (by decide) ?_
        refine V_iload_n X 2 d_Rd_readInto_126 rfl ?_
        refine V_iconst (v := 1) X d_Rd_readInto_127 (by decide) ?_
        refine V_iadd X d_Rd_readInto_128 ?_
        refine V_cI X h (fun r13 q => C_V (q := 1) X [Value.int ((((3 : Int32) * (gF σ 4 2)) + ((5 : Int32) * l2)) + (1 : Int32))] mt_Pg_digit ms_Pg_digit ml_Rd_47 (k_Pg_digit σ ((((3 : Int32) * (gF σ 4 2)) + ((5 : Int32) * l2)) + (1 : Int32)) r13 q) rfl rfl (by omega) (Nat.le_of_ble_eq_true rfl) rfl (by decide) (by decide) (by decide) d_Rd_readInto_129) (fun r13 h => ?_)
        refine V_aload_n X 3 d_Rd_readInto_132 rfl ?_
        refine V_getR X 2 0 1 rfl ji2 (by decide) (by decide) (by decide) fl_Rd_9 d_Rd_readInto_133 (by decide) (by decide) (by decide) (by decide) ?_
        refine V_iload_n X 2 d_Rd_readInto_136 rfl ?_
        refine V_iconst (v := 2) X d_Rd_readInto_137 (by decide) ?_
        refine V_iadd X d_Rd_readInto_138 ?_
        refine V_cI X h (fun r14 q => C_V (q := 1) X [Value.int ((((3 : Int32) * (gF σ 4 2)) + ((5 : Int32) * l2)) + (2 : Int32))] mt_Pg_digit ms_Pg_digit ml_Rd_47 (k_Pg_digit σ ((((3 : Int32) * (gF σ 4 2)) + ((5 : Int32) * l2)) + (2 : Int32)) r14 q) rfl rfl (by omega) (Nat.le_of_ble_eq_true rfl) rfl (by decide) (by decide) (by decide) d_Rd_readInto_139) (fun r14 h => ?_)
        refine V_iload X 0 d_Rd_readInto_142 rfl ?_
        refine V_cV X h (fun s15 q => C_V (q := 3) X [Value.int (kIndex ((r9.toUInt32 % 65536).toInt32)), Value.int r13, Value.int r14, Value.int r12] mt_Sh_addSuit ms_Sh_addSuit ml_Rd_61 (k_Sh_addSuit fu σ q0 hl_q0 hc_q0 (kIndex ((r9.toUInt32 % 65536).toInt32)) r13 r14 r12 s15 q) rfl rfl (by omega) (Nat.le_of_ble_eq_true rfl) rfl hl_q0 hc_q0 (by decide) d_Rd_readInto_144) (fun s15 h => ?_)
        refine V_iinc X 5 (l2 + (1 : Int32)) [(2, Value.int (l2 + (1 : Int32))), (5, Value.int r12), (4, Value.int (kIndex ((r9.toUInt32 % 65536).toInt32))), (3, Value.int (((3 : Int32) * (gF σ 4 2)) + ((5 : Int32) * l2))), (0, Value.ref (ad 4)), (1, Value.ref (ad q0))] d_Rd_readInto_147 rfl (by first | rfl | decide) (by decide) rfl ?_
        refine V_goto X 53 d_Rd_readInto_150 (by decide) ?_
        refine V_sub (lv' := [(0, Value.ref (ad 4)), (1, Value.ref (ad q0)), (2, Value.int (l2 + (1 : Int32)))]) [4, 5, 0] rfl ?_
        exact ih (l2 + (1 : Int32)) s15 h
      · skip
        refine V_iconst (v := -1) X d_Rd_readInto_103 (by decide) ?_
        refine V_goto X 117 d_Rd_readInto_104 (by decide) ?_
        refine V_istore X [(5, Value.int (-1 : Int32)), (4, Value.int (kIndex ((r9.toUInt32 % 65536).toInt32))), (3, Value.int (((3 : Int32) * (gF σ 4 2)) + ((5 : Int32) * l2))), (0, Value.ref (ad 4)), (1, Value.ref (ad q0)), (2, Value.int l2)] d_Rd_readInto_117 (by decide) rfl ?_
        refine V_aload_n X 4 d_Rd_readInto_119 rfl ?_
        refine V_iload X 1 d_Rd_readInto_120 rfl ?_
        refine V_aload_n X 3 d_Rd_readInto_122 rfl ?_
        refine V_getR X 2 0 1 rfl ji2 (by decide) (by decide) (by decide) fl_Rd_9 d_Rd_readInto_123 (by decide) (by decide) (by decide) (by decide) ?_
        refine V_iload_n X 2 d_Rd_readInto_126 rfl ?_
        refine V_iconst (v := 1) X d_Rd_readInto_127 (by decide) ?_
        refine V_iadd X d_Rd_readInto_128 ?_
        refine V_cI X h (fun r16 q => C_V (q := 1) X [Value.int ((((3 : Int32) * (gF σ 4 2)) + ((5 : Int32) * l2)) + (1 : Int32))] mt_Pg_digit ms_Pg_digit ml_Rd_47 (k_Pg_digit σ ((((3 : Int32) * (gF σ 4 2)) + ((5 : Int32) * l2)) + (1 : Int32)) r16 q) rfl rfl (by omega) (Nat.le_of_ble_eq_true rfl) rfl (by decide) (by decide) (by decide) d_Rd_readInto_129) (fun r16 h => ?_)
        refine V_aload_n X 3 d_Rd_readInto_132 rfl ?_
        refine V_getR X 2 0 1 rfl ji2 (by decide) (by decide) (by decide) fl_Rd_9 d_Rd_readInto_133 (by decide) (by decide) (by decide) (by decide) ?_
        refine V_iload_n X 2 d_Rd_readInto_136 rfl ?_
        refine V_iconst (v := 2) X d_Rd_readInto_137 (by decide) ?_
        refine V_iadd X d_Rd_readInto_138 ?_
        refine V_cI X h (fun r17 q => C_V (q := 1) X [Value.int ((((3 : Int32) * (gF σ 4 2)) + ((5 : Int32) * l2)) + (2 : Int32))] mt_Pg_digit ms_Pg_digit ml_Rd_47 (k_Pg_digit σ ((((3 : Int32) * (gF σ 4 2)) + ((5 : Int32) * l2)) + (2 : Int32)) r17 q) rfl rfl (by omega) (Nat.le_of_ble_eq_true rfl) rfl (by decide) (by decide) (by decide) d_Rd_readInto_139) (fun r17 h => ?_)
        refine V_iload X 0 d_Rd_readInto_142 rfl ?_
        refine V_cV X h (fun s18 q => C_V (q := 3) X [Value.int (kIndex ((r9.toUInt32 % 65536).toInt32)), Value.int r16, Value.int r17, Value.int (-1 : Int32)] mt_Sh_addSuit ms_Sh_addSuit ml_Rd_61 (k_Sh_addSuit fu σ q0 hl_q0 hc_q0 (kIndex ((r9.toUInt32 % 65536).toInt32)) r16 r17 (-1 : Int32) s18 q) rfl rfl (by omega) (Nat.le_of_ble_eq_true rfl) rfl hl_q0 hc_q0 (by decide) d_Rd_readInto_144) (fun s18 h => ?_)
        refine V_iinc X 5 (l2 + (1 : Int32)) [(2, Value.int (l2 + (1 : Int32))), (5, Value.int (-1 : Int32)), (4, Value.int (kIndex ((r9.toUInt32 % 65536).toInt32))), (3, Value.int (((3 : Int32) * (gF σ 4 2)) + ((5 : Int32) * l2))), (0, Value.ref (ad 4)), (1, Value.ref (ad q0))] d_Rd_readInto_147 rfl (by first | rfl | decide) (by decide) rfl ?_
        refine V_goto X 53 d_Rd_readInto_150 (by decide) ?_
        refine V_sub (lv' := [(0, Value.ref (ad 4)), (1, Value.ref (ad q0)), (2, Value.int (l2 + (1 : Int32)))]) [4, 5, 0] rfl ?_
        exact ih (l2 + (1 : Int32)) s18 h
set_option maxHeartbeats 4000000 in
set_option maxRecDepth 100000 in
theorem k_Rd_readInto (fu : Nat) (σ : Sg) (q0 : Nat) (hl_q0 : q0 < 116) (hc_q0 : jv_cls q0 = 3) (σ' : Sg) (h : Rd_readInto fu σ q0 = some σ') : Evc y_Rd_readInto prog_8_method_4_code 6 (none) 6 (fun ad => [Value.ref (ad 4), Value.ref (ad q0)]) σ σ' (fun _ => none) := by
  refine Evc_ofV (by decide) (fun ad => Nat.le_of_ble_eq_true rfl) (fun p l e R s m args below meth c D ad cI cB A Q X hQ => ?_)
  have X : Cx p R s m args meth c jR2 prog_8_method_4_code 6 6 D ad cI cB A 0 0 := X
  have h : wpO (Rd_readInto fu σ q0) (fun q => q = σ') := ⟨_, h, rfl⟩
  rw [Rd_readInto] at h
  refine V_sub (lv' := [(0, Value.ref (ad 4)), (1, Value.ref (ad q0))]) [0, 1] rfl ?_
  refine V_aload_n X 1 d_Rd_readInto_0 rfl ?_
  refine V_ifnonnull X 5 d_Rd_readInto_1 (by decide) ?_
  refine V_aload_n X 1 d_Rd_readInto_5 rfl ?_
  refine V_cV X h (fun s1 q => C_V (q := 3) X [] mt_Sh_begin ms_Sh_begin ml_Rd_42 (k_Sh_begin σ q0 hl_q0 hc_q0 s1 q) rfl rfl (by omega) (Nat.le_of_ble_eq_true rfl) rfl hl_q0 hc_q0 (by decide) d_Rd_readInto_6) (fun s1 h => ?_)
  refine V_iconst (v := 0) X d_Rd_readInto_9 (by decide) ?_
  refine V_istore_n X [(2, Value.int (0 : Int32)), (0, Value.ref (ad 4)), (1, Value.ref (ad q0))] d_Rd_readInto_10 (by decide) rfl ?_
  refine V_sub (lv' := [(0, Value.ref (ad 4)), (1, Value.ref (ad q0)), (2, Value.int (0 : Int32))]) [1, 2, 0] rfl ?_
  refine Rd_readInto_L11_ok X fu q0 hl_q0 hc_q0 _ hQ (fun l2_6 s7 h => ?_) fu (0 : Int32) s1 h
  refine V_iconst (v := 0) X d_Rd_readInto_51 (by decide) ?_
  refine V_istore_n X [(2, Value.int (0 : Int32)), (0, Value.ref (ad 4)), (1, Value.ref (ad q0))] d_Rd_readInto_52 (by decide) rfl ?_
  refine V_sub (lv' := [(0, Value.ref (ad 4)), (1, Value.ref (ad q0)), (2, Value.int (0 : Int32))]) [1, 2, 0] rfl ?_
  refine Rd_readInto_L53_ok X fu q0 hl_q0 hc_q0 _ hQ (fun l2_19 s20 h => ?_) fu (0 : Int32) s7 h
  have h9 := wp_some h
  exact hQ _ h9 _ _ d_Rd_readInto_153
set_option maxHeartbeats 4000000 in
set_option maxRecDepth 100000 in
theorem k_Co_shire (fu : Nat) (σ : Sg) (r : Int32) (σ' : Sg) (h : Co_shire fu σ = some (r, σ')) : Evc y_Co_shire prog_1_method_5_code 1 (some .int) 9 (fun ad => [Value.ref (ad 0)]) σ σ' (fun _ => some (.int r)) := by
  refine Evc_ofI (by decide) (fun ad => Nat.le_of_ble_eq_true rfl) (fun p l e R s m args below meth c D ad cI cB A Q X hQ => ?_)
  have X : Cx p R s m args meth c jR0 prog_1_method_5_code 1 9 D ad cI cB A 0 0 := X
  have h : wpO (Co_shire fu σ) (fun q => q = (r, σ')) := ⟨_, h, rfl⟩
  rw [Co_shire] at h
  refine V_sub (lv' := [(0, Value.ref (ad 0))]) [0] rfl ?_
  refine V_aload_n X 0 d_Co_shire_0 rfl ?_
  refine V_getR X 0 1 4 rfl ji0 (by decide) (by decide) (by decide) fl_Co_21 d_Co_shire_1 (by decide) (by decide) (by decide) (by decide) ?_
  refine V_cP X h (fun r1 s2 q => C_V (q := 2) X [] mt_Rd_isWholeShire ms_Rd_isWholeShire ml_Co_79 (k_Rd_isWholeShire fu σ r1 s2 q) rfl rfl (by omega) (Nat.le_of_ble_eq_true rfl) rfl (by decide) (by decide) (by decide) d_Co_shire_4) (fun r1 s2 h => ?_)
  refine V_if_ne X 13 d_Co_shire_7 (by decide) h (fun c3 h => ?_) (fun c3 h => ?_)
  · skip
    refine V_aload_n X 0 d_Co_shire_13 rfl ?_
    refine V_getR X 0 1 4 rfl ji0 (by decide) (by decide) (by decide) fl_Co_21 d_Co_shire_14 (by decide) (by decide) (by decide) (by decide) ?_
    refine V_aload_n X 0 d_Co_shire_17 rfl ?_
    refine V_getR X 0 2 5 rfl ji0 (by decide) (by decide) (by decide) fl_Co_28 d_Co_shire_18 (by decide) (by decide) (by decide) (by decide) ?_
    refine V_cV X h (fun s4 q => C_V (q := 2) X [Value.ref (ad 5)] mt_Rd_readInto ms_Rd_readInto ml_Co_83 (k_Rd_readInto fu s2 5 (by decide) (by decide) s4 q) rfl rfl (by omega) (Nat.le_of_ble_eq_true rfl) rfl (by decide) (by decide) (by decide) d_Co_shire_21) (fun s4 h => ?_)
    refine V_aload_n X 0 d_Co_shire_24 rfl ?_
    refine V_getR X 0 0 1 rfl ji0 (by decide) (by decide) (by decide) fl_Co_10 d_Co_shire_25 (by decide) (by decide) (by decide) (by decide) ?_
    refine V_cV X h (fun s5 q => C_V (q := 1) X [] mt_Pg_clear ms_Pg_clear ml_Co_73 (k_Pg_clear s4 s5 q) rfl rfl (by omega) (Nat.le_of_ble_eq_true rfl) rfl (by decide) (by decide) (by decide) d_Co_shire_28) (fun s5 h => ?_)
    refine V_aload_n X 0 d_Co_shire_31 rfl ?_
    refine V_iconst (v := 0) X d_Co_shire_32 (by decide) ?_
    refine V_putZ X 0 8 (by decide) rfl ji0 jk0 jn0 (by decide) (by decide) (by decide) rfl (by decide +kernel) fl_Co_86 d_Co_shire_33 (by decide) (by decide) (by decide) ?_
    refine V_aload_n X 0 d_Co_shire_36 rfl ?_
    refine V_dup X d_Co_shire_37 rfl ?_
    refine V_getI X 0 9 rfl ji0 (by decide) (by decide) (by decide) fl_Co_90 d_Co_shire_38 (by decide) (by decide) (by decide) ?_
    refine V_iconst (v := 1) X d_Co_shire_41 (by decide) ?_
    refine V_iadd X d_Co_shire_42 ?_
    refine V_putI X 0 9 rfl ji0 jk0 jn0 (by decide) (by decide) (by decide) rfl (by decide +kernel) fl_Co_90 d_Co_shire_43 (by decide) (by decide) (by decide) ?_
    refine V_aload_n X 0 d_Co_shire_46 rfl ?_
    refine V_getR X 0 2 5 rfl ji0 (by decide) (by decide) (by decide) fl_Co_28 d_Co_shire_47 (by decide) (by decide) (by decide) (by decide) ?_
    refine V_cI X h (fun r6 q => C_V (q := 3) X [] mt_Sh_suits ms_Sh_suits ml_Co_94 (k_Sh_suits (sF (sF s5 0 8 (0 : Int32)) 0 9 ((gF (sF s5 0 8 (0 : Int32)) 0 9) + (1 : Int32))) 5 (by decide) (by decide) r6 q) rfl rfl (by omega) (Nat.le_of_ble_eq_true rfl) rfl (by decide) (by decide) (by decide) d_Co_shire_50) (fun r6 h => ?_)
    have h9 := wp_some h
    exact hQ _ _ h9 (fun h9 => absurd h9 (by decide)) _ _ d_Co_shire_53
  · skip
    refine V_bipush (v := -103) X d_Co_shire_10 (by decide) ?_
    have h9 := wp_some h
    exact hQ _ _ h9 (fun h9 => absurd h9 (by decide)) _ _ d_Co_shire_12
set_option maxHeartbeats 4000000 in
set_option maxRecDepth 100000 in
theorem k_Sh_unright (σ : Sg) (k : Nat) (hl_k : k < 116) (hc_k : jv_cls k = 3) (a0 : Int32) (σ' : Sg) (h : Sh_unright σ k a0 = some σ') : Evc y_Sh_unright prog_10_method_34_code 2 (none) 2 (fun ad => [Value.ref (ad k), Value.int a0]) σ σ' (fun _ => none) := by
  refine Evc_ofV (by decide) (fun ad => Nat.le_of_ble_eq_true rfl) (fun p l e R s m args below meth c D ad cI cB A Q X hQ => ?_)
  have X : Cx p R s m args meth c jR3 prog_10_method_34_code 2 2 D ad cI cB A 0 0 := X
  have h : wpO (Sh_unright σ k a0) (fun q => q = σ') := ⟨_, h, rfl⟩
  rw [Sh_unright] at h
  refine V_sub (lv' := [(0, Value.ref (ad k)), (1, Value.int a0)]) [0, 1] rfl ?_
  refine V_aload_n X 0 d_Sh_unright_0 rfl ?_
  refine V_dup X d_Sh_unright_1 rfl ?_
  refine V_getI X 3 11 rfl ji3 (by decide) (by decide) (by decide) fl_Sh_55 d_Sh_unright_2 hl_k hc_k (by decide) ?_
  refine V_iload_n X 1 d_Sh_unright_5 rfl ?_
  refine V_cI X h (fun r1 q => C_SN X [Value.int a0] mt_Co_bit ms_Co_bit mn_Sh_75 (k_Co_bit σ a0 r1 q) rfl rfl (by omega) (Nat.le_of_ble_eq_true rfl) d_Sh_unright_6) (fun r1 h => ?_)
  refine V_iconst (v := -1) X d_Sh_unright_9 (by decide) ?_
  refine V_ixor X d_Sh_unright_10 ?_
  refine V_iand X d_Sh_unright_11 ?_
  refine V_putI X 3 11 rfl ji3 jk3 jn3 (by decide) (by decide) (by decide) rfl (by decide +kernel) fl_Sh_55 d_Sh_unright_12 hl_k hc_k (by decide) ?_
  have h9 := wp_some h
  exact hQ _ h9 _ _ d_Sh_unright_15
set_option maxHeartbeats 4000000 in
set_option maxRecDepth 100000 in
theorem k_Co_walk (fu : Nat) (σ : Sg) (a0 : Int32) (r : Int32) (σ' : Sg) (h : Co_walk fu σ a0 = some (r, σ')) : Evc y_Co_walk prog_1_method_13_code 2 (some .int) 4 (fun ad => [Value.ref (ad 0), Value.int a0]) σ σ' (fun _ => some (.int r)) := by
  refine Evc_ofI (by decide) (fun ad => Nat.le_of_ble_eq_true rfl) (fun p l e R s m args below meth c D ad cI cB A Q X hQ => ?_)
  have X : Cx p R s m args meth c jR0 prog_1_method_13_code 2 4 D ad cI cB A 0 0 := X
  have h : wpO (Co_walk fu σ a0) (fun q => q = (r, σ')) := ⟨_, h, rfl⟩
  rw [Co_walk] at h
  refine V_sub (lv' := [(0, Value.ref (ad 0)), (1, Value.int a0)]) [0, 1] rfl ?_
  refine V_aload_n X 0 d_Co_walk_0 rfl ?_
  refine V_getR X 0 2 5 rfl ji0 (by decide) (by decide) (by decide) fl_Co_28 d_Co_walk_1 (by decide) (by decide) (by decide) (by decide) ?_
  refine V_iload_n X 1 d_Co_walk_4 rfl ?_
  refine V_cI X h (fun r1 q => C_V (q := 3) X [Value.int a0] mt_Sh_hasSuit ms_Sh_hasSuit ml_Co_111 (k_Sh_hasSuit σ 5 (by decide) (by decide) a0 r1 q) rfl rfl (by omega) (Nat.le_of_ble_eq_true rfl) rfl (by decide) (by decide) (by decide) d_Co_walk_5) (fun r1 h => ?_)
  refine V_if_ne X 14 d_Co_walk_8 (by decide) h (fun c2 h => ?_) (fun c2 h => ?_)
  · skip
    refine V_aload_n X 0 d_Co_walk_14 rfl ?_
    refine V_getR X 0 2 5 rfl ji0 (by decide) (by decide) (by decide) fl_Co_28 d_Co_walk_15 (by decide) (by decide) (by decide) (by decide) ?_
    refine V_cI X h (fun r3 q => C_V (q := 3) X [] mt_Sh_righted ms_Sh_righted ml_Co_129 (k_Sh_righted σ 5 (by decide) (by decide) r3 q) rfl rfl (by omega) (Nat.le_of_ble_eq_true rfl) rfl (by decide) (by decide) (by decide) d_Co_walk_18) (fun r3 h => ?_)
    refine V_iload_n X 1 d_Co_walk_21 rfl ?_
    refine V_cI X h (fun r4 q => C_S X [Value.int r3, Value.int a0] mt_Co_has ms_Co_has ml_Co_132 (k_Co_has σ r3 a0 r4 q) rfl rfl (by omega) (Nat.le_of_ble_eq_true rfl) d_Co_walk_22) (fun r4 h => ?_)
    refine V_if_ne X 31 d_Co_walk_25 (by decide) h (fun c5 h => ?_) (fun c5 h => ?_)
    · skip
      refine V_aload_n X 0 d_Co_walk_31 rfl ?_
      refine V_getR X 0 2 5 rfl ji0 (by decide) (by decide) (by decide) fl_Co_28 d_Co_walk_32 (by decide) (by decide) (by decide) (by decide) ?_
      refine V_iload_n X 1 d_Co_walk_35 rfl ?_
      refine V_cV X h (fun s6 q => C_V (q := 3) X [Value.int a0] mt_Sh_unright ms_Sh_unright ml_Co_177 (k_Sh_unright σ 5 (by decide) (by decide) a0 s6 q) rfl rfl (by omega) (Nat.le_of_ble_eq_true rfl) rfl (by decide) (by decide) (by decide) d_Co_walk_36) (fun s6 h => ?_)
      refine V_aload_n X 0 d_Co_walk_39 rfl ?_
      refine V_getR X 0 2 5 rfl ji0 (by decide) (by decide) (by decide) fl_Co_28 d_Co_walk_40 (by decide) (by decide) (by decide) (by decide) ?_
      refine V_cI X h (fun r7 q => C_V (q := 3) X [] mt_Sh_holds ms_Sh_holds ml_Co_180 (k_Sh_holds fu s6 5 (by decide) (by decide) r7 q) rfl rfl (by omega) (Nat.le_of_ble_eq_true rfl) rfl (by decide) (by decide) (by decide) d_Co_walk_43) (fun r7 h => ?_)
      have h9 := wp_some h
      exact hQ _ _ h9 (fun h9 => absurd h9 (by decide)) _ _ d_Co_walk_46
    · skip
      refine V_bipush (v := -103) X d_Co_walk_28 (by decide) ?_
      have h9 := wp_some h
      exact hQ _ _ h9 (fun h9 => absurd h9 (by decide)) _ _ d_Co_walk_30
  · skip
    refine V_bipush (v := -101) X d_Co_walk_11 (by decide) ?_
    have h9 := wp_some h
    exact hQ _ _ h9 (fun h9 => absurd h9 (by decide)) _ _ d_Co_walk_13
set_option maxHeartbeats 4000000 in
set_option maxRecDepth 100000 in
theorem k_Co_year (fu : Nat) (σ : Sg) (r : Int32) (σ' : Sg) (h : Co_year fu σ = some (r, σ')) : Evc y_Co_year prog_1_method_10_code 1 (some .int) 7 (fun ad => [Value.ref (ad 0)]) σ σ' (fun _ => some (.int r)) := by
  refine Evc_ofI (by decide) (fun ad => Nat.le_of_ble_eq_true rfl) (fun p l e R s m args below meth c D ad cI cB A Q X hQ => ?_)
  have X : Cx p R s m args meth c jR0 prog_1_method_10_code 1 7 D ad cI cB A 0 0 := X
  have h : wpO (Co_year fu σ) (fun q => q = (r, σ')) := ⟨_, h, rfl⟩
  rw [Co_year] at h
  refine V_sub (lv' := [(0, Value.ref (ad 0))]) [0] rfl ?_
  refine V_aload_n X 0 d_Co_year_0 rfl ?_
  refine V_cI X h (fun r1 q => C_V (q := 0) X [] mt_Co_isRead ms_Co_isRead ml_Co_161 (k_Co_isRead σ r1 q) rfl rfl (by omega) (Nat.le_of_ble_eq_true rfl) rfl (by decide) (by decide) (by decide) d_Co_year_1) (fun r1 h => ?_)
  refine V_if_ne X 10 d_Co_year_4 (by decide) h (fun c2 h => ?_) (fun c2 h => ?_)
  · skip
    refine V_aload_n X 0 d_Co_year_10 rfl ?_
    refine V_getR X 0 2 5 rfl ji0 (by decide) (by decide) (by decide) fl_Co_28 d_Co_year_11 (by decide) (by decide) (by decide) (by decide) ?_
    refine V_cI X h (fun r3 q => C_V (q := 3) X [] mt_Sh_years ms_Sh_years ml_Co_164 (k_Sh_years σ 5 (by decide) (by decide) r3 q) rfl rfl (by omega) (Nat.le_of_ble_eq_true rfl) rfl (by decide) (by decide) (by decide) d_Co_year_14) (fun r3 h => ?_)
    refine V_sipush (v := 999) X d_Co_year_17 (by decide) ?_
    refine V_icmp_lt X 26 d_Co_year_20 (by decide) h (fun c4 h => ?_) (fun c4 h => ?_)
    · skip
      refine V_aload_n X 0 d_Co_year_26 rfl ?_
      refine V_getR X 0 2 5 rfl ji0 (by decide) (by decide) (by decide) fl_Co_28 d_Co_year_27 (by decide) (by decide) (by decide) (by decide) ?_
      refine V_cV X h (fun s5 q => C_V (q := 3) X [] mt_Sh_passYear ms_Sh_passYear ml_Co_167 (k_Sh_passYear fu σ 5 (by decide) (by decide) s5 q) rfl rfl (by omega) (Nat.le_of_ble_eq_true rfl) rfl (by decide) (by decide) (by decide) d_Co_year_30) (fun s5 h => ?_)
      refine V_aload_n X 0 d_Co_year_33 rfl ?_
      refine V_getR X 0 2 5 rfl ji0 (by decide) (by decide) (by decide) fl_Co_28 d_Co_year_34 (by decide) (by decide) (by decide) (by decide) ?_
      refine V_cI X h (fun r6 q => C_V (q := 3) X [] mt_Sh_years ms_Sh_years ml_Co_164 (k_Sh_years s5 5 (by decide) (by decide) r6 q) rfl rfl (by omega) (Nat.le_of_ble_eq_true rfl) rfl (by decide) (by decide) (by decide) d_Co_year_37) (fun r6 h => ?_)
      have h9 := wp_some h
      exact hQ _ _ h9 (fun h9 => absurd h9 (by decide)) _ _ d_Co_year_40
    · skip
      refine V_bipush (v := -104) X d_Co_year_23 (by decide) ?_
      have h9 := wp_some h
      exact hQ _ _ h9 (fun h9 => absurd h9 (by decide)) _ _ d_Co_year_25
  · skip
    refine V_bipush (v := -103) X d_Co_year_7 (by decide) ?_
    have h9 := wp_some h
    exact hQ _ _ h9 (fun h9 => absurd h9 (by decide)) _ _ d_Co_year_9
set_option maxHeartbeats 4000000 in
set_option maxRecDepth 100000 in
theorem k_Mo_isIn (σ : Sg) (a0 : Int32) (a1 : Int32) (r : Int32) (h : Mo_isIn a0 a1 = some r) : Evc y_Mo_isIn prog_13_method_4_code 2 (some .boolean) 1 (fun ad => [Value.int a0, Value.int a1]) σ σ (fun _ => some (.int r)) := by
  refine Evc_ofZ (by decide) (fun ad => Nat.le_of_ble_eq_true rfl) (fun p l e R s m args below meth c D ad cI cB A Q X hQ => ?_)
  have X : Cx p R s m args meth c jR10 prog_13_method_4_code 2 1 D ad cI cB A 0 0 := X
  have hQ := hQ.pure
  have h : wpO (Mo_isIn a0 a1) (fun q => q = r) := ⟨_, h, rfl⟩
  rw [Mo_isIn] at h
  refine V_sub (lv' := [(0, Value.int a0), (1, Value.int a1)]) [0, 1] rfl ?_
  refine V_iload_n X 0 d_Mo_isIn_0 rfl ?_
  refine V_iload_n X 1 d_Mo_isIn_1 rfl ?_
  refine V_ishr X d_Mo_isIn_2 ?_
  refine V_iconst (v := 1) X d_Mo_isIn_3 (by decide) ?_
  refine V_iand X d_Mo_isIn_4 ?_
  refine V_iconst (v := 1) X d_Mo_isIn_5 (by decide) ?_
  refine V_icmp_ne X 13 d_Mo_isIn_6 (by decide) h (fun c1 h => ?_) (fun c1 h => ?_)
  · skip
    refine V_iconst (v := 0) X d_Mo_isIn_13 (by decide) ?_
    have h9 := wp_some h
    exact hQ _ h9 (fun _ => by decide) _ _ d_Mo_isIn_14
  · skip
    refine V_iconst (v := 1) X d_Mo_isIn_9 (by decide) ?_
    refine V_goto X 14 d_Mo_isIn_10 (by decide) ?_
    have h9 := wp_some h
    exact hQ _ h9 (fun _ => by decide) _ _ d_Mo_isIn_14
set_option maxHeartbeats 4000000 in
set_option maxRecDepth 100000 in
theorem Mo_allOn_L6_ok {p : Program} {l : Launch} {e : Env} {R : Room} {s : State} {m : MethodId} {args : Array Value} {below : List Frame} {meth : Method} {c : Code} {D : va_G} {ad : Nat → Nat} {cI cB : ClassId} {A : Nat → Prop} {cells slots : Nat} {Q : State → Prop} (X : Cx p R s m args meth c jR10 prog_13_method_20_code 5 2 D ad cI cB A cells slots) (fu : Nat) (l1 : Int32) (σ : Sg) (kont : (Int32 → Int32 → Option Int32)) {K : Int32 → Prop} (hQ : RP p l e R s m args below meth c 5 D ad cI cB A cells slots Q prog_13_method_20_code false σ K) (hk : ∀ (l2 : Int32) (l3 : Int32), wpO (kont l2 l3) K → V p l e R s m args below meth c 5 D A cells slots Q (wl ad cI cB σ) 75 [(0, Value.ref (ad 91)), (1, Value.int l1), (2, Value.int l2), (3, Value.int l3)] []) : ∀ (n : Nat) (l2 : Int32) (l3 : Int32), wpO (Mo_allOn_L6 fu l1 σ kont n l2 l3) K → V p l e R s m args below meth c 5 D A cells slots Q (wl ad cI cB σ) 6 [(0, Value.ref (ad 91)), (1, Value.int l1), (2, Value.int l2), (3, Value.int l3)] [] := by
  intro n
  induction n with
  | zero =>
    intro l2 l3 h
    exact (wp_none h).elim
  | succ n ih =>
    intro l2 l3 h
    rw [Mo_allOn_L6] at h
    refine V_iload_n X 3 d_Mo_allOn_6 rfl ?_
    refine V_aload_n X 0 d_Mo_allOn_7 rfl ?_
    refine V_getI X 10 2 rfl ji10 (by decide) (by decide) (by decide) fl_Mo_124 d_Mo_allOn_8 (by decide) (by decide) (by decide) ?_
    refine V_icmp_ge X 75 d_Mo_allOn_11 (by decide) h (fun c1 h => ?_) (fun c1 h => ?_)
    · skip
      exact hk l2 l3 h
    · skip
      refine V_aload_n X 0 d_Mo_allOn_14 rfl ?_
      refine V_getR X 10 8 97 rfl ji10 (by decide) (by decide) (by decide) fl_Mo_25 d_Mo_allOn_15 (by decide) (by decide) (by decide) (by decide) ?_
      refine V_iload_n X 3 d_Mo_allOn_18 rfl ?_
      refine V_iald X d_Mo_allOn_19 (by decide) (by decide) rfl h (fun h => ?_)
      refine V_iload_n X 1 d_Mo_allOn_20 rfl ?_
      refine V_icmp_eq X 47 d_Mo_allOn_21 (by decide) h (fun c2 h => ?_) (fun c2 h => ?_)
      · skip
        refine V_iconst (v := 1) X d_Mo_allOn_47 (by decide) ?_
        refine V_goto X 52 d_Mo_allOn_48 (by decide) ?_
        refine V_istore X [(4, Value.int (1 : Int32)), (0, Value.ref (ad 91)), (1, Value.int l1), (2, Value.int l2), (3, Value.int l3)] d_Mo_allOn_52 (by decide) rfl ?_
        refine V_iload_n X 3 d_Mo_allOn_54 rfl ?_
        refine V_iload X 0 d_Mo_allOn_55 rfl ?_
        refine V_if_eqF X d_Mo_allOn_57 66 (by decide) (by decide) ?_
        refine V_iconst (v := 1) X d_Mo_allOn_60 (by decide) ?_
        refine V_iload_n X 4 d_Mo_allOn_61 rfl ?_
        refine V_ishl X d_Mo_allOn_62 ?_
        refine V_goto X 67 d_Mo_allOn_63 (by decide) ?_
        refine V_ior X d_Mo_allOn_67 ?_
        refine V_istore_n X [(2, Value.int (l2 ||| ((1 : Int32) <<< (l3 &&& 31)))), (4, Value.int (1 : Int32)), (0, Value.ref (ad 91)), (1, Value.int l1), (3, Value.int l3)] d_Mo_allOn_68 (by decide) rfl ?_
        refine V_iinc X 4 (l3 + (1 : Int32)) [(3, Value.int (l3 + (1 : Int32))), (2, Value.int (l2 ||| ((1 : Int32) <<< (l3 &&& 31)))), (4, Value.int (1 : Int32)), (0, Value.ref (ad 91)), (1, Value.int l1)] d_Mo_allOn_69 rfl (by first | rfl | decide) (by decide) rfl ?_
        refine V_goto X 6 d_Mo_allOn_72 (by decide) ?_
        refine V_sub (lv' := [(0, Value.ref (ad 91)), (1, Value.int l1), (2, Value.int (l2 ||| ((1 : Int32) <<< (l3 &&& 31)))), (3, Value.int (l3 + (1 : Int32)))]) [3, 4, 1, 0] rfl ?_
        exact ih (l2 ||| ((1 : Int32) <<< (l3 &&& 31))) (l3 + (1 : Int32)) h
      · skip
        refine V_aload_n X 0 d_Mo_allOn_24 rfl ?_
        refine V_getR X 10 8 97 rfl ji10 (by decide) (by decide) (by decide) fl_Mo_25 d_Mo_allOn_25 (by decide) (by decide) (by decide) (by decide) ?_
        refine V_iload_n X 3 d_Mo_allOn_28 rfl ?_
        refine V_iald X d_Mo_allOn_29 (by decide) (by decide) rfl h (fun h => ?_)
        refine V_iconst (v := -1) X d_Mo_allOn_30 (by decide) ?_
        refine V_icmp_eq X 51 d_Mo_allOn_31 (by decide) h (fun c3 h => ?_) (fun c3 h => ?_)
        · skip
          refine V_iconst (v := 0) X d_Mo_allOn_51 (by decide) ?_
          refine V_istore X [(4, Value.int (0 : Int32)), (0, Value.ref (ad 91)), (1, Value.int l1), (2, Value.int l2), (3, Value.int l3)] d_Mo_allOn_52 (by decide) rfl ?_
          refine V_iload_n X 3 d_Mo_allOn_54 rfl ?_
          refine V_iload X 0 d_Mo_allOn_55 rfl ?_
          refine V_if_eqT X 66 d_Mo_allOn_57 (by decide) (by decide) ?_
          refine V_iconst (v := 0) X d_Mo_allOn_66 (by decide) ?_
          refine V_ior X d_Mo_allOn_67 ?_
          refine V_istore_n X [(2, Value.int (l2 ||| (0 : Int32))), (4, Value.int (0 : Int32)), (0, Value.ref (ad 91)), (1, Value.int l1), (3, Value.int l3)] d_Mo_allOn_68 (by decide) rfl ?_
          refine V_iinc X 4 (l3 + (1 : Int32)) [(3, Value.int (l3 + (1 : Int32))), (2, Value.int (l2 ||| (0 : Int32))), (4, Value.int (0 : Int32)), (0, Value.ref (ad 91)), (1, Value.int l1)] d_Mo_allOn_69 rfl (by first | rfl | decide) (by decide) rfl ?_
          refine V_goto X 6 d_Mo_allOn_72 (by decide) ?_
          refine V_sub (lv' := [(0, Value.ref (ad 91)), (1, Value.int l1), (2, Value.int (l2 ||| (0 : Int32))), (3, Value.int (l3 + (1 : Int32)))]) [3, 4, 1, 0] rfl ?_
          exact ih (l2 ||| (0 : Int32)) (l3 + (1 : Int32)) h
        · skip
          refine V_iload_n X 2 d_Mo_allOn_34 rfl ?_
          refine V_aload_n X 0 d_Mo_allOn_35 rfl ?_
          refine V_getR X 10 8 97 rfl ji10 (by decide) (by decide) (by decide) fl_Mo_25 d_Mo_allOn_36 (by decide) (by decide) (by decide) (by decide) ?_
          refine V_iload_n X 3 d_Mo_allOn_39 rfl ?_
          refine V_iald X d_Mo_allOn_40 (by decide) (by decide) rfl h (fun h => ?_)
          refine V_cI X h (fun r4 q => C_S X [Value.int l2, Value.int (gA σ 97 (ix l3))] mt_Mo_isIn ms_Mo_isIn ml_Mo_142 (k_Mo_isIn σ l2 (gA σ 97 (ix l3)) r4 q) rfl rfl (by omega) (Nat.le_of_ble_eq_true rfl) d_Mo_allOn_41) (fun r4 h => ?_)
          refine V_if_eq X 51 d_Mo_allOn_44 (by decide) h (fun c5 h => ?_) (fun c5 h => ?_)
          · skip
            refine V_iconst (v := 0) X d_Mo_allOn_51 (by decide) ?_
            refine V_istore X [(4, Value.int (0 : Int32)), (0, Value.ref (ad 91)), (1, Value.int l1), (2, Value.int l2), (3, Value.int l3)] d_Mo_allOn_52 (by decide) rfl ?_
            refine V_iload_n X 3 d_Mo_allOn_54 rfl ?_
            refine V_iload X 0 d_Mo_allOn_55 rfl ?_
            refine V_if_eqT X 66 d_Mo_allOn_57 (by decide) (by decide) ?_
            refine V_iconst (v := 0) X d_Mo_allOn_66 (by decide) ?_
            refine V_ior X d_Mo_allOn_67 ?_
            refine V_istore_n X [(2, Value.int (l2 ||| (0 : Int32))), (4, Value.int (0 : Int32)), (0, Value.ref (ad 91)), (1, Value.int l1), (3, Value.int l3)] d_Mo_allOn_68 (by decide) rfl ?_
            refine V_iinc X 4 (l3 + (1 : Int32)) [(3, Value.int (l3 + (1 : Int32))), (2, Value.int (l2 ||| (0 : Int32))), (4, Value.int (0 : Int32)), (0, Value.ref (ad 91)), (1, Value.int l1)] d_Mo_allOn_69 rfl (by first | rfl | decide) (by decide) rfl ?_
            refine V_goto X 6 d_Mo_allOn_72 (by decide) ?_
            refine V_sub (lv' := [(0, Value.ref (ad 91)), (1, Value.int l1), (2, Value.int (l2 ||| (0 : Int32))), (3, Value.int (l3 + (1 : Int32)))]) [3, 4, 1, 0] rfl ?_
            exact ih (l2 ||| (0 : Int32)) (l3 + (1 : Int32)) h
          · skip
            refine V_iconst (v := 1) X d_Mo_allOn_47 (by decide) ?_
            refine V_goto X 52 d_Mo_allOn_48 (by decide) ?_
            refine V_istore X [(4, Value.int (1 : Int32)), (0, Value.ref (ad 91)), (1, Value.int l1), (2, Value.int l2), (3, Value.int l3)] d_Mo_allOn_52 (by decide) rfl ?_
            refine V_iload_n X 3 d_Mo_allOn_54 rfl ?_
            refine V_iload X 0 d_Mo_allOn_55 rfl ?_
            refine V_if_eqF X d_Mo_allOn_57 66 (by decide) (by decide) ?_
            refine V_iconst (v := 1) X d_Mo_allOn_60 (by decide) ?_
            refine V_iload_n X 4 d_Mo_allOn_61 rfl ?_
            refine V_ishl X d_Mo_allOn_62 ?_
            refine V_goto X 67 d_Mo_allOn_63 (by decide) ?_
            refine V_ior X d_Mo_allOn_67 ?_
            refine V_istore_n X [(2, Value.int (l2 ||| ((1 : Int32) <<< (l3 &&& 31)))), (4, Value.int (1 : Int32)), (0, Value.ref (ad 91)), (1, Value.int l1), (3, Value.int l3)] d_Mo_allOn_68 (by decide) rfl ?_
            refine V_iinc X 4 (l3 + (1 : Int32)) [(3, Value.int (l3 + (1 : Int32))), (2, Value.int (l2 ||| ((1 : Int32) <<< (l3 &&& 31)))), (4, Value.int (1 : Int32)), (0, Value.ref (ad 91)), (1, Value.int l1)] d_Mo_allOn_69 rfl (by first | rfl | decide) (by decide) rfl ?_
            refine V_goto X 6 d_Mo_allOn_72 (by decide) ?_
            refine V_sub (lv' := [(0, Value.ref (ad 91)), (1, Value.int l1), (2, Value.int (l2 ||| ((1 : Int32) <<< (l3 &&& 31)))), (3, Value.int (l3 + (1 : Int32)))]) [3, 4, 1, 0] rfl ?_
            exact ih (l2 ||| ((1 : Int32) <<< (l3 &&& 31))) (l3 + (1 : Int32)) h
set_option maxHeartbeats 4000000 in
set_option maxRecDepth 100000 in
theorem k_Mo_allOn (fu : Nat) (σ : Sg) (a0 : Int32) (r : Int32) (h : Mo_allOn fu σ a0 = some r) : Evc y_Mo_allOn prog_13_method_20_code 5 (some .int) 2 (fun ad => [Value.ref (ad 91), Value.int a0]) σ σ (fun _ => some (.int r)) := by
  refine Evc_ofI (by decide) (fun ad => Nat.le_of_ble_eq_true rfl) (fun p l e R s m args below meth c D ad cI cB A Q X hQ => ?_)
  have X : Cx p R s m args meth c jR10 prog_13_method_20_code 5 2 D ad cI cB A 0 0 := X
  have hQ := hQ.pure
  have h : wpO (Mo_allOn fu σ a0) (fun q => q = r) := ⟨_, h, rfl⟩
  rw [Mo_allOn] at h
  refine V_sub (lv' := [(0, Value.ref (ad 91)), (1, Value.int a0)]) [0, 1] rfl ?_
  refine V_iconst (v := 0) X d_Mo_allOn_0 (by decide) ?_
  refine V_istore_n X [(2, Value.int (0 : Int32)), (0, Value.ref (ad 91)), (1, Value.int a0)] d_Mo_allOn_1 (by decide) rfl ?_
  refine V_iload_n X 2 d_Mo_allOn_2 rfl ?_
  refine V_iconst (v := 1) X d_Mo_allOn_3 (by decide) ?_
  refine V_iadd X d_Mo_allOn_4 ?_
  refine V_istore_n X [(3, Value.int (a0 + (1 : Int32))), (2, Value.int (0 : Int32)), (0, Value.ref (ad 91)), (1, Value.int a0)] d_Mo_allOn_5 (by decide) rfl ?_
  refine V_sub (lv' := [(0, Value.ref (ad 91)), (1, Value.int a0), (2, Value.int (0 : Int32)), (3, Value.int (a0 + (1 : Int32)))]) [2, 3, 1, 0] rfl ?_
  refine Mo_allOn_L6_ok X fu a0 σ _ hQ (fun l2_6 l3_7 h => ?_) fu (0 : Int32) (a0 + (1 : Int32)) h
  refine V_iload_n X 2 d_Mo_allOn_75 rfl ?_
  have h9 := wp_some h
  exact hQ _ h9 (fun h9 => absurd h9 (by decide)) _ _ d_Mo_allOn_76
set_option maxHeartbeats 4000000 in
set_option maxRecDepth 100000 in
theorem k_Mo_within (σ : Sg) (a0 : Int32) (a1 : Int32) (a2 : Int32) (r : Int32) (h : Mo_within a0 a1 a2 = some r) : Evc y_Mo_within prog_13_method_3_code 3 (some .boolean) 1 (fun ad => [Value.int a0, Value.int a1, Value.int a2]) σ σ (fun _ => some (.int r)) := by
  refine Evc_ofZ (by decide) (fun ad => Nat.le_of_ble_eq_true rfl) (fun p l e R s m args below meth c D ad cI cB A Q X hQ => ?_)
  have X : Cx p R s m args meth c jR10 prog_13_method_3_code 3 1 D ad cI cB A 0 0 := X
  have hQ := hQ.pure
  have h : wpO (Mo_within a0 a1 a2) (fun q => q = r) := ⟨_, h, rfl⟩
  rw [Mo_within] at h
  refine V_sub (lv' := [(0, Value.int a0), (1, Value.int a1), (2, Value.int a2)]) [0, 1, 2] rfl ?_
  refine V_iload_n X 0 d_Mo_within_0 rfl ?_
  refine V_iload_n X 1 d_Mo_within_1 rfl ?_
  refine V_icmp_lt X 14 d_Mo_within_2 (by decide) h (fun c1 h => ?_) (fun c1 h => ?_)
  · skip
    refine V_iconst (v := 0) X d_Mo_within_14 (by decide) ?_
    have h9 := wp_some h
    exact hQ _ h9 (fun _ => by decide) _ _ d_Mo_within_15
  · skip
    refine V_iload_n X 0 d_Mo_within_5 rfl ?_
    refine V_iload_n X 2 d_Mo_within_6 rfl ?_
    refine V_icmp_gt X 14 d_Mo_within_7 (by decide) h (fun c2 h => ?_) (fun c2 h => ?_)
    · skip
      refine V_iconst (v := 0) X d_Mo_within_14 (by decide) ?_
      have h9 := wp_some h
      exact hQ _ h9 (fun _ => by decide) _ _ d_Mo_within_15
    · skip
      refine V_iconst (v := 1) X d_Mo_within_10 (by decide) ?_
      refine V_goto X 15 d_Mo_within_11 (by decide) ?_
      have h9 := wp_some h
      exact hQ _ h9 (fun _ => by decide) _ _ d_Mo_within_15
set_option maxHeartbeats 4000000 in
set_option maxRecDepth 100000 in
theorem k_Mo_isCase (σ : Sg) (a0 : Int32) (r : Int32) (h : Mo_isCase σ a0 = some r) : Evc y_Mo_isCase prog_13_method_18_code 2 (some .boolean) 2 (fun ad => [Value.ref (ad 91), Value.int a0]) σ σ (fun _ => some (.int r)) := by
  refine Evc_ofZ (by decide) (fun ad => Nat.le_of_ble_eq_true rfl) (fun p l e R s m args below meth c D ad cI cB A Q X hQ => ?_)
  have X : Cx p R s m args meth c jR10 prog_13_method_18_code 2 2 D ad cI cB A 0 0 := X
  have hQ := hQ.pure
  have h : wpO (Mo_isCase σ a0) (fun q => q = r) := ⟨_, h, rfl⟩
  rw [Mo_isCase] at h
  refine V_sub (lv' := [(0, Value.ref (ad 91)), (1, Value.int a0)]) [0, 1] rfl ?_
  refine V_iload_n X 1 d_Mo_isCase_0 rfl ?_
  refine V_iconst (v := 0) X d_Mo_isCase_1 (by decide) ?_
  refine V_aload_n X 0 d_Mo_isCase_2 rfl ?_
  refine V_getI X 10 2 rfl ji10 (by decide) (by decide) (by decide) fl_Mo_124 d_Mo_isCase_3 (by decide) (by decide) (by decide) ?_
  refine V_iconst (v := 1) X d_Mo_isCase_6 (by decide) ?_
  refine V_isub X d_Mo_isCase_7 ?_
  refine V_cI X h (fun r1 q => C_S X [Value.int a0, Value.int (0 : Int32), Value.int ((gF σ 91 2) - (1 : Int32))] mt_Mo_within ms_Mo_within ml_Mo_83 (k_Mo_within σ a0 (0 : Int32) ((gF σ 91 2) - (1 : Int32)) r1 q) rfl rfl (by omega) (Nat.le_of_ble_eq_true rfl) d_Mo_isCase_8) (fun r1 h => ?_)
  obtain ⟨hz, h⟩ := wp_if h
  have h9 := wp_some h
  exact hQ _ h9 (fun _ => hz) _ _ d_Mo_isCase_11
set_option maxHeartbeats 4000000 in
set_option maxRecDepth 100000 in
theorem k_Mo_as (σ : Sg) (a0 : Int32) (a1 : Int32) (r : Int32) (h : Mo_as σ a0 a1 = some r) : Evc y_Mo_as prog_13_method_29_code 4 (some .int) 3 (fun ad => [Value.ref (ad 91), Value.int a0, Value.int a1]) σ σ (fun _ => some (.int r)) := by
  refine Evc_ofI (by decide) (fun ad => Nat.le_of_ble_eq_true rfl) (fun p l e R s m args below meth c D ad cI cB A Q X hQ => ?_)
  have X : Cx p R s m args meth c jR10 prog_13_method_29_code 4 3 D ad cI cB A 0 0 := X
  have hQ := hQ.pure
  have h : wpO (Mo_as σ a0 a1) (fun q => q = r) := ⟨_, h, rfl⟩
  rw [Mo_as] at h
  refine V_sub (lv' := [(0, Value.ref (ad 91)), (1, Value.int a0), (2, Value.int a1)]) [0, 1, 2] rfl ?_
  refine V_aload_n X 0 d_Mo_as_0 rfl ?_
  refine V_iload_n X 1 d_Mo_as_1 rfl ?_
  refine V_cI X h (fun r1 q => C_V (q := 10) X [Value.int a0] mt_Mo_isCase ms_Mo_isCase ml_Mo_178 (k_Mo_isCase σ a0 r1 q) rfl rfl (by omega) (Nat.le_of_ble_eq_true rfl) rfl (by decide) (by decide) (by decide) d_Mo_as_2) (fun r1 h => ?_)
  refine V_if_ne X 11 d_Mo_as_5 (by decide) h (fun c2 h => ?_) (fun c2 h => ?_)
  · skip
    refine V_iload_n X 2 d_Mo_as_11 rfl ?_
    refine V_iconst (v := 0) X d_Mo_as_12 (by decide) ?_
    refine V_iconst (v := 4) X d_Mo_as_13 (by decide) ?_
    refine V_cI X h (fun r3 q => C_S X [Value.int a1, Value.int (0 : Int32), Value.int (4 : Int32)] mt_Mo_within ms_Mo_within ml_Mo_83 (k_Mo_within σ a1 (0 : Int32) (4 : Int32) r3 q) rfl rfl (by omega) (Nat.le_of_ble_eq_true rfl) d_Mo_as_14) (fun r3 h => ?_)
    refine V_if_ne X 23 d_Mo_as_17 (by decide) h (fun c4 h => ?_) (fun c4 h => ?_)
    · skip
      refine V_aload_n X 0 d_Mo_as_23 rfl ?_
      refine V_getR X 10 5 94 rfl ji10 (by decide) (by decide) (by decide) fl_Mo_16 d_Mo_as_24 (by decide) (by decide) (by decide) (by decide) ?_
      refine V_iload_n X 1 d_Mo_as_27 rfl ?_
      refine V_iald X d_Mo_as_28 (by decide) (by decide) rfl h (fun h => ?_)
      refine V_istore_n X [(3, Value.int (gA σ 94 (ix a0))), (0, Value.ref (ad 91)), (1, Value.int a0), (2, Value.int a1)] d_Mo_as_29 (by decide) rfl ?_
      refine V_iload_n X 3 d_Mo_as_30 rfl ?_
      refine V_if_eq X 49 d_Mo_as_31 (by decide) h (fun c5 h => ?_) (fun c5 h => ?_)
      · skip
        refine V_iload_n X 2 d_Mo_as_49 rfl ?_
        refine V_goto X 54 d_Mo_as_50 (by decide) ?_
        have h9 := wp_some h
        exact hQ _ h9 (fun h9 => absurd h9 (by decide)) _ _ d_Mo_as_54
      · skip
        refine V_iload_n X 0 d_Mo_as_34 rfl ?_
        refine V_iload_n X 3 d_Mo_as_35 rfl ?_
        refine V_icmp_eq X 49 d_Mo_as_36 (by decide) h (fun c6 h => ?_) (fun c6 h => ?_)
        · skip
          refine V_iload_n X 2 d_Mo_as_49 rfl ?_
          refine V_goto X 54 d_Mo_as_50 (by decide) ?_
          have h9 := wp_some h
          exact hQ _ h9 (fun h9 => absurd h9 (by decide)) _ _ d_Mo_as_54
        · skip
          refine V_iload_n X 3 d_Mo_as_39 rfl ?_
          refine V_iconst (v := 1) X d_Mo_as_40 (by decide) ?_
          refine V_icmp_ne X 53 d_Mo_as_41 (by decide) h (fun c7 h => ?_) (fun c7 h => ?_)
          · skip
            refine V_iconst (v := -1) X d_Mo_as_53 (by decide) ?_
            have h9 := wp_some h
            exact hQ _ h9 (fun h9 => absurd h9 (by decide)) _ _ d_Mo_as_54
          · skip
            refine V_iload_n X 0 d_Mo_as_44 rfl ?_
            refine V_iconst (v := 4) X d_Mo_as_45 (by decide) ?_
            refine V_icmp_ne X 53 d_Mo_as_46 (by decide) h (fun c8 h => ?_) (fun c8 h => ?_)
            · skip
              refine V_iconst (v := -1) X d_Mo_as_53 (by decide) ?_
              have h9 := wp_some h
              exact hQ _ h9 (fun h9 => absurd h9 (by decide)) _ _ d_Mo_as_54
            · skip
              refine V_iload_n X 2 d_Mo_as_49 rfl ?_
              refine V_goto X 54 d_Mo_as_50 (by decide) ?_
              have h9 := wp_some h
              exact hQ _ h9 (fun h9 => absurd h9 (by decide)) _ _ d_Mo_as_54
    · skip
      refine V_bipush (v := -102) X d_Mo_as_20 (by decide) ?_
      have h9 := wp_some h
      exact hQ _ h9 (fun h9 => absurd h9 (by decide)) _ _ d_Mo_as_22
  · skip
    refine V_bipush (v := -101) X d_Mo_as_8 (by decide) ?_
    have h9 := wp_some h
    exact hQ _ h9 (fun h9 => absurd h9 (by decide)) _ _ d_Mo_as_10
set_option maxHeartbeats 4000000 in
set_option maxRecDepth 100000 in
theorem k_Mo_at (σ : Sg) (a0 : Int32) (r : Int32) (h : Mo_at σ a0 = some r) : Evc y_Mo_at prog_13_method_10_code 2 (some .int) 1 (fun ad => [Value.ref (ad 91), Value.int a0]) σ σ (fun _ => some (.int r)) := by
  refine Evc_ofI (by decide) (fun ad => Nat.le_of_ble_eq_true rfl) (fun p l e R s m args below meth c D ad cI cB A Q X hQ => ?_)
  have X : Cx p R s m args meth c jR10 prog_13_method_10_code 2 1 D ad cI cB A 0 0 := X
  have hQ := hQ.pure
  have h : wpO (Mo_at σ a0) (fun q => q = r) := ⟨_, h, rfl⟩
  rw [Mo_at] at h
  refine V_sub (lv' := [(0, Value.ref (ad 91)), (1, Value.int a0)]) [0, 1] rfl ?_
  refine V_iload_n X 1 d_Mo_at_0 rfl ?_
  refine V_aload_n X 0 d_Mo_at_1 rfl ?_
  refine V_getI X 10 17 rfl ji10 (by decide) (by decide) (by decide) fl_Mo_87 d_Mo_at_2 (by decide) (by decide) (by decide) ?_
  refine V_icmp_ge X 17 d_Mo_at_5 (by decide) h (fun c1 h => ?_) (fun c1 h => ?_)
  · skip
    refine V_iconst (v := 0) X d_Mo_at_17 (by decide) ?_
    have h9 := wp_some h
    exact hQ _ h9 (fun h9 => absurd h9 (by decide)) _ _ d_Mo_at_18
  · skip
    refine V_aload_n X 0 d_Mo_at_8 rfl ?_
    refine V_getR X 10 18 101 rfl ji10 (by decide) (by decide) (by decide) fl_Mo_37 d_Mo_at_9 (by decide) (by decide) (by decide) (by decide) ?_
    refine V_iload_n X 1 d_Mo_at_12 rfl ?_
    refine V_bald X d_Mo_at_13 (by decide) (by decide) rfl h (fun h => ?_)
    refine V_goto X 18 d_Mo_at_14 (by decide) ?_
    have h9 := wp_some h
    exact hQ _ h9 (fun h9 => absurd h9 (by decide)) _ _ d_Mo_at_18
set_option maxHeartbeats 4000000 in
set_option maxRecDepth 100000 in
theorem k_Mo_isOpen (σ : Sg) (a0 : Int32) (a1 : Int32) (r : Int32) (h : Mo_isOpen σ a0 a1 = some r) : Evc y_Mo_isOpen prog_13_method_22_code 4 (some .boolean) 2 (fun ad => [Value.ref (ad 91), Value.int a0, Value.int a1]) σ σ (fun _ => some (.int r)) := by
  refine Evc_ofZ (by decide) (fun ad => Nat.le_of_ble_eq_true rfl) (fun p l e R s m args below meth c D ad cI cB A Q X hQ => ?_)
  have X : Cx p R s m args meth c jR10 prog_13_method_22_code 4 2 D ad cI cB A 0 0 := X
  have hQ := hQ.pure
  have h : wpO (Mo_isOpen σ a0 a1) (fun q => q = r) := ⟨_, h, rfl⟩
  rw [Mo_isOpen] at h
  refine V_sub (lv' := [(0, Value.ref (ad 91)), (1, Value.int a0), (2, Value.int a1)]) [0, 1, 2] rfl ?_
  refine V_aload_n X 0 d_Mo_isOpen_0 rfl ?_
  refine V_getR X 10 5 94 rfl ji10 (by decide) (by decide) (by decide) fl_Mo_16 d_Mo_isOpen_1 (by decide) (by decide) (by decide) (by decide) ?_
  refine V_iload_n X 1 d_Mo_isOpen_4 rfl ?_
  refine V_iald X d_Mo_isOpen_5 (by decide) (by decide) rfl h (fun h => ?_)
  refine V_iconst (v := 3) X d_Mo_isOpen_6 (by decide) ?_
  refine V_icmp_ne X 33 d_Mo_isOpen_7 (by decide) h (fun c1 h => ?_) (fun c1 h => ?_)
  · skip
    refine V_iconst (v := 1) X d_Mo_isOpen_33 (by decide) ?_
    refine V_goto X 38 d_Mo_isOpen_34 (by decide) ?_
    refine V_istore_n X [(3, Value.int (1 : Int32)), (0, Value.ref (ad 91)), (1, Value.int a0), (2, Value.int a1)] d_Mo_isOpen_38 (by decide) rfl ?_
    refine V_iload_n X 3 d_Mo_isOpen_39 rfl ?_
    refine V_iload_n X 2 d_Mo_isOpen_40 rfl ?_
    refine V_cI X h (fun r2 q => C_S X [Value.int a1, Value.int a0] mt_Mo_isIn ms_Mo_isIn ml_Mo_142 (k_Mo_isIn σ a1 a0 r2 q) rfl rfl (by omega) (Nat.le_of_ble_eq_true rfl) d_Mo_isOpen_41) (fun r2 h => ?_)
    refine V_if_ne X 55 d_Mo_isOpen_44 (by decide) h (fun c3 h => ?_) (fun c3 h => ?_)
    · skip
      refine V_iconst (v := 0) X d_Mo_isOpen_55 (by decide) ?_
      have h9 := wp_some h
      exact hQ _ h9 (fun _ => by decide) _ _ d_Mo_isOpen_56
    · skip
      refine V_iload_n X 0 d_Mo_isOpen_47 rfl ?_
      refine V_if_eqF X d_Mo_isOpen_48 55 (by decide) (by decide) ?_
      refine V_iconst (v := 1) X d_Mo_isOpen_51 (by decide) ?_
      refine V_goto X 56 d_Mo_isOpen_52 (by decide) ?_
      have h9 := wp_some h
      exact hQ _ h9 (fun _ => by decide) _ _ d_Mo_isOpen_56
  · skip
    refine V_aload_n X 0 d_Mo_isOpen_10 rfl ?_
    refine V_getR X 10 8 97 rfl ji10 (by decide) (by decide) (by decide) fl_Mo_25 d_Mo_isOpen_11 (by decide) (by decide) (by decide) (by decide) ?_
    refine V_iload_n X 1 d_Mo_isOpen_14 rfl ?_
    refine V_iald X d_Mo_isOpen_15 (by decide) (by decide) rfl h (fun h => ?_)
    refine V_iconst (v := -1) X d_Mo_isOpen_16 (by decide) ?_
    refine V_icmp_eq X 33 d_Mo_isOpen_17 (by decide) h (fun c4 h => ?_) (fun c4 h => ?_)
    · skip
      refine V_iconst (v := 1) X d_Mo_isOpen_33 (by decide) ?_
      refine V_goto X 38 d_Mo_isOpen_34 (by decide) ?_
      refine V_istore_n X [(3, Value.int (1 : Int32)), (0, Value.ref (ad 91)), (1, Value.int a0), (2, Value.int a1)] d_Mo_isOpen_38 (by decide) rfl ?_
      refine V_iload_n X 3 d_Mo_isOpen_39 rfl ?_
      refine V_iload_n X 2 d_Mo_isOpen_40 rfl ?_
      refine V_cI X h (fun r5 q => C_S X [Value.int a1, Value.int a0] mt_Mo_isIn ms_Mo_isIn ml_Mo_142 (k_Mo_isIn σ a1 a0 r5 q) rfl rfl (by omega) (Nat.le_of_ble_eq_true rfl) d_Mo_isOpen_41) (fun r5 h => ?_)
      refine V_if_ne X 55 d_Mo_isOpen_44 (by decide) h (fun c6 h => ?_) (fun c6 h => ?_)
      · skip
        refine V_iconst (v := 0) X d_Mo_isOpen_55 (by decide) ?_
        have h9 := wp_some h
        exact hQ _ h9 (fun _ => by decide) _ _ d_Mo_isOpen_56
      · skip
        refine V_iload_n X 0 d_Mo_isOpen_47 rfl ?_
        refine V_if_eqF X d_Mo_isOpen_48 55 (by decide) (by decide) ?_
        refine V_iconst (v := 1) X d_Mo_isOpen_51 (by decide) ?_
        refine V_goto X 56 d_Mo_isOpen_52 (by decide) ?_
        have h9 := wp_some h
        exact hQ _ h9 (fun _ => by decide) _ _ d_Mo_isOpen_56
    · skip
      refine V_iload_n X 2 d_Mo_isOpen_20 rfl ?_
      refine V_aload_n X 0 d_Mo_isOpen_21 rfl ?_
      refine V_getR X 10 8 97 rfl ji10 (by decide) (by decide) (by decide) fl_Mo_25 d_Mo_isOpen_22 (by decide) (by decide) (by decide) (by decide) ?_
      refine V_iload_n X 1 d_Mo_isOpen_25 rfl ?_
      refine V_iald X d_Mo_isOpen_26 (by decide) (by decide) rfl h (fun h => ?_)
      refine V_cI X h (fun r7 q => C_S X [Value.int a1, Value.int (gA σ 97 (ix a0))] mt_Mo_isIn ms_Mo_isIn ml_Mo_142 (k_Mo_isIn σ a1 (gA σ 97 (ix a0)) r7 q) rfl rfl (by omega) (Nat.le_of_ble_eq_true rfl) d_Mo_isOpen_27) (fun r7 h => ?_)
      refine V_if_eq X 37 d_Mo_isOpen_30 (by decide) h (fun c8 h => ?_) (fun c8 h => ?_)
      · skip
        refine V_iconst (v := 0) X d_Mo_isOpen_37 (by decide) ?_
        refine V_istore_n X [(3, Value.int (0 : Int32)), (0, Value.ref (ad 91)), (1, Value.int a0), (2, Value.int a1)] d_Mo_isOpen_38 (by decide) rfl ?_
        refine V_iload_n X 3 d_Mo_isOpen_39 rfl ?_
        refine V_iload_n X 2 d_Mo_isOpen_40 rfl ?_
        refine V_cI X h (fun r9 q => C_S X [Value.int a1, Value.int a0] mt_Mo_isIn ms_Mo_isIn ml_Mo_142 (k_Mo_isIn σ a1 a0 r9 q) rfl rfl (by omega) (Nat.le_of_ble_eq_true rfl) d_Mo_isOpen_41) (fun r9 h => ?_)
        refine V_if_ne X 55 d_Mo_isOpen_44 (by decide) h (fun c10 h => ?_) (fun c10 h => ?_)
        · skip
          refine V_iconst (v := 0) X d_Mo_isOpen_55 (by decide) ?_
          have h9 := wp_some h
          exact hQ _ h9 (fun _ => by decide) _ _ d_Mo_isOpen_56
        · skip
          refine V_iload_n X 0 d_Mo_isOpen_47 rfl ?_
          refine V_if_eqT X 55 d_Mo_isOpen_48 (by decide) (by decide) ?_
          refine V_iconst (v := 0) X d_Mo_isOpen_55 (by decide) ?_
          have h9 := wp_some h
          exact hQ _ h9 (fun _ => by decide) _ _ d_Mo_isOpen_56
      · skip
        refine V_iconst (v := 1) X d_Mo_isOpen_33 (by decide) ?_
        refine V_goto X 38 d_Mo_isOpen_34 (by decide) ?_
        refine V_istore_n X [(3, Value.int (1 : Int32)), (0, Value.ref (ad 91)), (1, Value.int a0), (2, Value.int a1)] d_Mo_isOpen_38 (by decide) rfl ?_
        refine V_iload_n X 3 d_Mo_isOpen_39 rfl ?_
        refine V_iload_n X 2 d_Mo_isOpen_40 rfl ?_
        refine V_cI X h (fun r11 q => C_S X [Value.int a1, Value.int a0] mt_Mo_isIn ms_Mo_isIn ml_Mo_142 (k_Mo_isIn σ a1 a0 r11 q) rfl rfl (by omega) (Nat.le_of_ble_eq_true rfl) d_Mo_isOpen_41) (fun r11 h => ?_)
        refine V_if_ne X 55 d_Mo_isOpen_44 (by decide) h (fun c12 h => ?_) (fun c12 h => ?_)
        · skip
          refine V_iconst (v := 0) X d_Mo_isOpen_55 (by decide) ?_
          have h9 := wp_some h
          exact hQ _ h9 (fun _ => by decide) _ _ d_Mo_isOpen_56
        · skip
          refine V_iload_n X 0 d_Mo_isOpen_47 rfl ?_
          refine V_if_eqF X d_Mo_isOpen_48 55 (by decide) (by decide) ?_
          refine V_iconst (v := 1) X d_Mo_isOpen_51 (by decide) ?_
          refine V_goto X 56 d_Mo_isOpen_52 (by decide) ?_
          have h9 := wp_some h
          exact hQ _ h9 (fun _ => by decide) _ _ d_Mo_isOpen_56
set_option maxHeartbeats 4000000 in
set_option maxRecDepth 100000 in
theorem Mo_straight_L4_ok {p : Program} {l : Launch} {e : Env} {R : Room} {s : State} {m : MethodId} {args : Array Value} {below : List Frame} {meth : Method} {c : Code} {D : va_G} {ad : Nat → Nat} {cI cB : ClassId} {A : Nat → Prop} {cells slots : Nat} {Q : State → Prop} (X : Cx p R s m args meth c jR10 prog_13_method_19_code 4 1 D ad cI cB A cells slots) (fu : Nat) (l1 : Int32) (σ : Sg) (kont : (Int32 → Int32 → Option Int32)) {K : Int32 → Prop} (hQ : RP p l e R s m args below meth c 4 D ad cI cB A cells slots Q prog_13_method_19_code false σ K) (hk : ∀ (l2 : Int32) (l3 : Int32), wpO (kont l2 l3) K → V p l e R s m args below meth c 4 D A cells slots Q (wl ad cI cB σ) 36 [(0, Value.ref (ad 91)), (1, Value.int l1), (2, Value.int l2), (3, Value.int l3)] []) : ∀ (n : Nat) (l2 : Int32) (l3 : Int32), wpO (Mo_straight_L4 fu l1 σ kont n l2 l3) K → V p l e R s m args below meth c 4 D A cells slots Q (wl ad cI cB σ) 4 [(0, Value.ref (ad 91)), (1, Value.int l1), (2, Value.int l2), (3, Value.int l3)] [] := by
  intro n
  induction n with
  | zero =>
    intro l2 l3 h
    exact (wp_none h).elim
  | succ n ih =>
    intro l2 l3 h
    rw [Mo_straight_L4] at h
    refine V_iload_n X 3 d_Mo_straight_4 rfl ?_
    refine V_aload_n X 0 d_Mo_straight_5 rfl ?_
    refine V_getI X 10 2 rfl ji10 (by decide) (by decide) (by decide) fl_Mo_124 d_Mo_straight_6 (by decide) (by decide) (by decide) ?_
    refine V_icmp_ge X 36 d_Mo_straight_9 (by decide) h (fun c1 h => ?_) (fun c1 h => ?_)
    · skip
      exact hk l2 l3 h
    · skip
      refine V_iload_n X 2 d_Mo_straight_12 rfl ?_
      refine V_aload_n X 0 d_Mo_straight_13 rfl ?_
      refine V_getR X 10 8 97 rfl ji10 (by decide) (by decide) (by decide) fl_Mo_25 d_Mo_straight_14 (by decide) (by decide) (by decide) (by decide) ?_
      refine V_iload_n X 3 d_Mo_straight_17 rfl ?_
      refine V_iald X d_Mo_straight_18 (by decide) (by decide) rfl h (fun h => ?_)
      refine V_iload_n X 1 d_Mo_straight_19 rfl ?_
      refine V_icmp_ne X 27 d_Mo_straight_20 (by decide) h (fun c2 h => ?_) (fun c2 h => ?_)
      · skip
        refine V_iconst (v := 0) X d_Mo_straight_27 (by decide) ?_
        refine V_iadd X d_Mo_straight_28 ?_
        refine V_istore_n X [(2, Value.int (l2 + (0 : Int32))), (0, Value.ref (ad 91)), (1, Value.int l1), (3, Value.int l3)] d_Mo_straight_29 (by decide) rfl ?_
        refine V_iinc X 3 (l3 + (1 : Int32)) [(3, Value.int (l3 + (1 : Int32))), (2, Value.int (l2 + (0 : Int32))), (0, Value.ref (ad 91)), (1, Value.int l1)] d_Mo_straight_30 rfl (by first | rfl | decide) (by decide) rfl ?_
        refine V_goto X 4 d_Mo_straight_33 (by decide) ?_
        refine V_sub (lv' := [(0, Value.ref (ad 91)), (1, Value.int l1), (2, Value.int (l2 + (0 : Int32))), (3, Value.int (l3 + (1 : Int32)))]) [2, 3, 1, 0] rfl ?_
        exact ih (l2 + (0 : Int32)) (l3 + (1 : Int32)) h
      · skip
        refine V_iconst (v := 1) X d_Mo_straight_23 (by decide) ?_
        refine V_goto X 28 d_Mo_straight_24 (by decide) ?_
        refine V_iadd X d_Mo_straight_28 ?_
        refine V_istore_n X [(2, Value.int (l2 + (1 : Int32))), (0, Value.ref (ad 91)), (1, Value.int l1), (3, Value.int l3)] d_Mo_straight_29 (by decide) rfl ?_
        refine V_iinc X 3 (l3 + (1 : Int32)) [(3, Value.int (l3 + (1 : Int32))), (2, Value.int (l2 + (1 : Int32))), (0, Value.ref (ad 91)), (1, Value.int l1)] d_Mo_straight_30 rfl (by first | rfl | decide) (by decide) rfl ?_
        refine V_goto X 4 d_Mo_straight_33 (by decide) ?_
        refine V_sub (lv' := [(0, Value.ref (ad 91)), (1, Value.int l1), (2, Value.int (l2 + (1 : Int32))), (3, Value.int (l3 + (1 : Int32)))]) [2, 3, 1, 0] rfl ?_
        exact ih (l2 + (1 : Int32)) (l3 + (1 : Int32)) h
set_option maxHeartbeats 4000000 in
set_option maxRecDepth 100000 in
theorem k_Mo_straight (fu : Nat) (σ : Sg) (a0 : Int32) (r : Int32) (h : Mo_straight fu σ a0 = some r) : Evc y_Mo_straight prog_13_method_19_code 4 (some .int) 1 (fun ad => [Value.ref (ad 91), Value.int a0]) σ σ (fun _ => some (.int r)) := by
  refine Evc_ofI (by decide) (fun ad => Nat.le_of_ble_eq_true rfl) (fun p l e R s m args below meth c D ad cI cB A Q X hQ => ?_)
  have X : Cx p R s m args meth c jR10 prog_13_method_19_code 4 1 D ad cI cB A 0 0 := X
  have hQ := hQ.pure
  have h : wpO (Mo_straight fu σ a0) (fun q => q = r) := ⟨_, h, rfl⟩
  rw [Mo_straight] at h
  refine V_sub (lv' := [(0, Value.ref (ad 91)), (1, Value.int a0)]) [0, 1] rfl ?_
  refine V_iconst (v := 0) X d_Mo_straight_0 (by decide) ?_
  refine V_istore_n X [(2, Value.int (0 : Int32)), (0, Value.ref (ad 91)), (1, Value.int a0)] d_Mo_straight_1 (by decide) rfl ?_
  refine V_iconst (v := 0) X d_Mo_straight_2 (by decide) ?_
  refine V_istore_n X [(3, Value.int (0 : Int32)), (2, Value.int (0 : Int32)), (0, Value.ref (ad 91)), (1, Value.int a0)] d_Mo_straight_3 (by decide) rfl ?_
  refine V_sub (lv' := [(0, Value.ref (ad 91)), (1, Value.int a0), (2, Value.int (0 : Int32)), (3, Value.int (0 : Int32))]) [2, 3, 1, 0] rfl ?_
  refine Mo_straight_L4_ok X fu a0 σ _ hQ (fun l2_3 l3_4 h => ?_) fu (0 : Int32) (0 : Int32) h
  refine V_iload_n X 2 d_Mo_straight_36 rfl ?_
  have h9 := wp_some h
  exact hQ _ h9 (fun h9 => absurd h9 (by decide)) _ _ d_Mo_straight_37
set_option maxHeartbeats 4000000 in
set_option maxRecDepth 100000 in
theorem k_Mo_cost (fu : Nat) (σ : Sg) (a0 : Int32) (r : Int32) (h : Mo_cost fu σ a0 = some r) : Evc y_Mo_cost prog_13_method_21_code 4 (some .int) 2 (fun ad => [Value.ref (ad 91), Value.int a0]) σ σ (fun _ => some (.int r)) := by
  refine Evc_ofI (by decide) (fun ad => Nat.le_of_ble_eq_true rfl) (fun p l e R s m args below meth c D ad cI cB A Q X hQ => ?_)
  have X : Cx p R s m args meth c jR10 prog_13_method_21_code 4 2 D ad cI cB A 0 0 := X
  have hQ := hQ.pure
  have h : wpO (Mo_cost fu σ a0) (fun q => q = r) := ⟨_, h, rfl⟩
  rw [Mo_cost] at h
  refine V_sub (lv' := [(0, Value.ref (ad 91)), (1, Value.int a0)]) [0, 1] rfl ?_
  refine V_aload_n X 0 d_Mo_cost_0 rfl ?_
  refine V_getR X 10 6 95 rfl ji10 (by decide) (by decide) (by decide) fl_Mo_19 d_Mo_cost_1 (by decide) (by decide) (by decide) (by decide) ?_
  refine V_iload_n X 1 d_Mo_cost_4 rfl ?_
  refine V_iald X d_Mo_cost_5 (by decide) (by decide) rfl h (fun h => ?_)
  refine V_aload_n X 0 d_Mo_cost_6 rfl ?_
  refine V_iload_n X 1 d_Mo_cost_7 rfl ?_
  refine V_cI X h (fun r1 q => C_V (q := 10) X [Value.int a0] mt_Mo_straight ms_Mo_straight ml_Mo_146 (k_Mo_straight fu σ a0 r1 q) rfl rfl (by omega) (Nat.le_of_ble_eq_true rfl) rfl (by decide) (by decide) (by decide) d_Mo_cost_8) (fun r1 h => ?_)
  refine V_isub X d_Mo_cost_11 ?_
  refine V_istore_n X [(2, Value.int ((gA σ 95 (ix a0)) - r1)), (0, Value.ref (ad 91)), (1, Value.int a0)] d_Mo_cost_12 (by decide) rfl ?_
  refine V_iload_n X 0 d_Mo_cost_13 rfl ?_
  refine V_iconst (v := 1) X d_Mo_cost_14 (by decide) ?_
  refine V_icmp_ge X 22 d_Mo_cost_15 (by decide) h (fun c2 h => ?_) (fun c2 h => ?_)
  · skip
    refine V_iload_n X 0 d_Mo_cost_22 rfl ?_
    refine V_istore_n X [(3, Value.int ((gA σ 95 (ix a0)) - r1)), (2, Value.int ((gA σ 95 (ix a0)) - r1)), (0, Value.ref (ad 91)), (1, Value.int a0)] d_Mo_cost_23 (by decide) rfl ?_
    refine V_aload_n X 2 d_Mo_cost_24 rfl ?_
    refine V_getR X 10 5 94 rfl ji10 (by decide) (by decide) (by decide) fl_Mo_16 d_Mo_cost_25 (by decide) (by decide) (by decide) (by decide) ?_
    refine V_iload_n X 3 d_Mo_cost_28 rfl ?_
    refine V_iald X d_Mo_cost_29 (by decide) (by decide) rfl h (fun h => ?_)
    rcases wp_case h with ⟨c3, h⟩ | ⟨c3, h⟩
    · skip
      refine V_tableIn X 30 60 d_Mo_cost_30 (1) (by rw [c3]; decide) (by decide) (by decide) rfl (by decide) ?_
      refine V_iload_n X 0 d_Mo_cost_60 rfl ?_
      have h9 := wp_some h
      exact hQ _ h9 (fun h9 => absurd h9 (by decide)) _ _ d_Mo_cost_61
    · skip
      rcases wp_case h with ⟨c4, h⟩ | ⟨c4, h⟩
      · skip
        refine V_tableIn X 38 68 d_Mo_cost_30 (2) (by rw [c4]; decide) (by decide) (by decide) rfl (by decide) ?_
        refine V_iconst (v := 2) X d_Mo_cost_68 (by decide) ?_
        refine V_aload_n X 2 d_Mo_cost_69 rfl ?_
        refine V_getR X 10 6 95 rfl ji10 (by decide) (by decide) (by decide) fl_Mo_19 d_Mo_cost_70 (by decide) (by decide) (by decide) (by decide) ?_
        refine V_iload_n X 3 d_Mo_cost_73 rfl ?_
        refine V_iald X d_Mo_cost_74 (by decide) (by decide) rfl h (fun h => ?_)
        refine V_imul X d_Mo_cost_75 ?_
        have h9 := wp_some h
        exact hQ _ h9 (fun h9 => absurd h9 (by decide)) _ _ d_Mo_cost_76
      · skip
        rcases wp_case h with ⟨c5, h⟩ | ⟨c5, h⟩
        · skip
          refine V_tableIn X 47 77 d_Mo_cost_30 (3) (by rw [c5]; decide) (by decide) (by decide) rfl (by decide) ?_
          refine V_aload_n X 2 d_Mo_cost_77 rfl ?_
          refine V_getR X 10 6 95 rfl ji10 (by decide) (by decide) (by decide) fl_Mo_19 d_Mo_cost_78 (by decide) (by decide) (by decide) (by decide) ?_
          refine V_iload_n X 3 d_Mo_cost_81 rfl ?_
          refine V_iald X d_Mo_cost_82 (by decide) (by decide) rfl h (fun h => ?_)
          have h9 := wp_some h
          exact hQ _ h9 (fun h9 => absurd h9 (by decide)) _ _ d_Mo_cost_83
        · skip
          rcases wp_case h with ⟨c6, h⟩ | ⟨c6, h⟩
          · skip
            refine V_tableIn X 32 62 d_Mo_cost_30 (4) (by rw [c6]; decide) (by decide) (by decide) rfl (by decide) ?_
            refine V_iload_n X 0 d_Mo_cost_62 rfl ?_
            refine V_iconst (v := 1) X d_Mo_cost_63 (by decide) ?_
            refine V_iadd X d_Mo_cost_64 ?_
            refine V_iconst (v := 2) X d_Mo_cost_65 (by decide) ?_
            refine V_idiv X d_Mo_cost_66 (by decide) ?_
            have h9 := wp_some h
            exact hQ _ h9 (fun h9 => absurd h9 (by decide)) _ _ d_Mo_cost_67
          · skip
            refine V_tableOut X 77 d_Mo_cost_30 (by have z0 := sw_ne c3 (1) (by decide); have z1 := sw_ne c4 (2) (by decide); have z2 := sw_ne c5 (3) (by decide); have z3 := sw_ne c6 (4) (by decide); omega) (by decide) ?_
            refine V_aload_n X 2 d_Mo_cost_77 rfl ?_
            refine V_getR X 10 6 95 rfl ji10 (by decide) (by decide) (by decide) fl_Mo_19 d_Mo_cost_78 (by decide) (by decide) (by decide) (by decide) ?_
            refine V_iload_n X 3 d_Mo_cost_81 rfl ?_
            refine V_iald X d_Mo_cost_82 (by decide) (by decide) rfl h (fun h => ?_)
            have h9 := wp_some h
            exact hQ _ h9 (fun h9 => absurd h9 (by decide)) _ _ d_Mo_cost_83
  · skip
    refine V_iconst (v := 1) X d_Mo_cost_18 (by decide) ?_
    refine V_goto X 23 d_Mo_cost_19 (by decide) ?_
    refine V_istore_n X [(3, Value.int (1 : Int32)), (2, Value.int ((gA σ 95 (ix a0)) - r1)), (0, Value.ref (ad 91)), (1, Value.int a0)] d_Mo_cost_23 (by decide) rfl ?_
    refine V_aload_n X 2 d_Mo_cost_24 rfl ?_
    refine V_getR X 10 5 94 rfl ji10 (by decide) (by decide) (by decide) fl_Mo_16 d_Mo_cost_25 (by decide) (by decide) (by decide) (by decide) ?_
    refine V_iload_n X 3 d_Mo_cost_28 rfl ?_
    refine V_iald X d_Mo_cost_29 (by decide) (by decide) rfl h (fun h => ?_)
    rcases wp_case h with ⟨c7, h⟩ | ⟨c7, h⟩
    · skip
      refine V_tableIn X 30 60 d_Mo_cost_30 (1) (by rw [c7]; decide) (by decide) (by decide) rfl (by decide) ?_
      refine V_iload_n X 0 d_Mo_cost_60 rfl ?_
      have h9 := wp_some h
      exact hQ _ h9 (fun h9 => absurd h9 (by decide)) _ _ d_Mo_cost_61
    · skip
      rcases wp_case h with ⟨c8, h⟩ | ⟨c8, h⟩
      · skip
        refine V_tableIn X 38 68 d_Mo_cost_30 (2) (by rw [c8]; decide) (by decide) (by decide) rfl (by decide) ?_
        refine V_iconst (v := 2) X d_Mo_cost_68 (by decide) ?_
        refine V_aload_n X 2 d_Mo_cost_69 rfl ?_
        refine V_getR X 10 6 95 rfl ji10 (by decide) (by decide) (by decide) fl_Mo_19 d_Mo_cost_70 (by decide) (by decide) (by decide) (by decide) ?_
        refine V_iload_n X 3 d_Mo_cost_73 rfl ?_
        refine V_iald X d_Mo_cost_74 (by decide) (by decide) rfl h (fun h => ?_)
        refine V_imul X d_Mo_cost_75 ?_
        have h9 := wp_some h
        exact hQ _ h9 (fun h9 => absurd h9 (by decide)) _ _ d_Mo_cost_76
      · skip
        rcases wp_case h with ⟨c9, h⟩ | ⟨c9, h⟩
        · skip
          refine V_tableIn X 47 77 d_Mo_cost_30 (3) (by rw [c9]; decide) (by decide) (by decide) rfl (by decide) ?_
          refine V_aload_n X 2 d_Mo_cost_77 rfl ?_
          refine V_getR X 10 6 95 rfl ji10 (by decide) (by decide) (by decide) fl_Mo_19 d_Mo_cost_78 (by decide) (by decide) (by decide) (by decide) ?_
          refine V_iload_n X 3 d_Mo_cost_81 rfl ?_
          refine V_iald X d_Mo_cost_82 (by decide) (by decide) rfl h (fun h => ?_)
          have h9 := wp_some h
          exact hQ _ h9 (fun h9 => absurd h9 (by decide)) _ _ d_Mo_cost_83
        · skip
          rcases wp_case h with ⟨c10, h⟩ | ⟨c10, h⟩
          · skip
            refine V_tableIn X 32 62 d_Mo_cost_30 (4) (by rw [c10]; decide) (by decide) (by decide) rfl (by decide) ?_
            refine V_iload_n X 0 d_Mo_cost_62 rfl ?_
            refine V_iconst (v := 1) X d_Mo_cost_63 (by decide) ?_
            refine V_iadd X d_Mo_cost_64 ?_
            refine V_iconst (v := 2) X d_Mo_cost_65 (by decide) ?_
            refine V_idiv X d_Mo_cost_66 (by decide) ?_
            have h9 := wp_some h
            exact hQ _ h9 (fun h9 => absurd h9 (by decide)) _ _ d_Mo_cost_67
          · skip
            refine V_tableOut X 77 d_Mo_cost_30 (by have z0 := sw_ne c7 (1) (by decide); have z1 := sw_ne c8 (2) (by decide); have z2 := sw_ne c9 (3) (by decide); have z3 := sw_ne c10 (4) (by decide); omega) (by decide) ?_
            refine V_aload_n X 2 d_Mo_cost_77 rfl ?_
            refine V_getR X 10 6 95 rfl ji10 (by decide) (by decide) (by decide) fl_Mo_19 d_Mo_cost_78 (by decide) (by decide) (by decide) (by decide) ?_
            refine V_iload_n X 3 d_Mo_cost_81 rfl ?_
            refine V_iald X d_Mo_cost_82 (by decide) (by decide) rfl h (fun h => ?_)
            have h9 := wp_some h
            exact hQ _ h9 (fun h9 => absurd h9 (by decide)) _ _ d_Mo_cost_83
set_option maxHeartbeats 4000000 in
set_option maxRecDepth 100000 in
theorem Mo_costIn_L4_ok {p : Program} {l : Launch} {e : Env} {R : Room} {s : State} {m : MethodId} {args : Array Value} {below : List Frame} {meth : Method} {c : Code} {D : va_G} {ad : Nat → Nat} {cI cB : ClassId} {A : Nat → Prop} {cells slots : Nat} {Q : State → Prop} (X : Cx p R s m args meth c jR10 prog_13_method_40_code 4 3 D ad cI cB A cells slots) (fu : Nat) (l1 : Int32) (σ : Sg) (kont : (Int32 → Int32 → Option Int32)) {K : Int32 → Prop} (hQ : RP p l e R s m args below meth c 4 D ad cI cB A cells slots Q prog_13_method_40_code false σ K) (hk : ∀ (l2 : Int32) (l3 : Int32), wpO (kont l2 l3) K → V p l e R s m args below meth c 4 D A cells slots Q (wl ad cI cB σ) 38 [(0, Value.ref (ad 91)), (1, Value.int l1), (2, Value.int l2), (3, Value.int l3)] []) : ∀ (n : Nat) (l2 : Int32) (l3 : Int32), wpO (Mo_costIn_L4 fu l1 σ kont n l2 l3) K → V p l e R s m args below meth c 4 D A cells slots Q (wl ad cI cB σ) 4 [(0, Value.ref (ad 91)), (1, Value.int l1), (2, Value.int l2), (3, Value.int l3)] [] := by
  intro n
  induction n with
  | zero =>
    intro l2 l3 h
    exact (wp_none h).elim
  | succ n ih =>
    intro l2 l3 h
    rw [Mo_costIn_L4] at h
    refine V_iload_n X 3 d_Mo_costIn_4 rfl ?_
    refine V_aload_n X 0 d_Mo_costIn_5 rfl ?_
    refine V_getI X 10 2 rfl ji10 (by decide) (by decide) (by decide) fl_Mo_124 d_Mo_costIn_6 (by decide) (by decide) (by decide) ?_
    refine V_icmp_ge X 38 d_Mo_costIn_9 (by decide) h (fun c1 h => ?_) (fun c1 h => ?_)
    · skip
      exact hk l2 l3 h
    · skip
      refine V_iload_n X 2 d_Mo_costIn_12 rfl ?_
      refine V_iload_n X 1 d_Mo_costIn_13 rfl ?_
      refine V_iload_n X 3 d_Mo_costIn_14 rfl ?_
      refine V_cI X h (fun r2 q => C_S X [Value.int l1, Value.int l3] mt_Mo_isIn ms_Mo_isIn ml_Mo_142 (k_Mo_isIn σ l1 l3 r2 q) rfl rfl (by omega) (Nat.le_of_ble_eq_true rfl) d_Mo_costIn_15) (fun r2 h => ?_)
      refine V_if_eq X 29 d_Mo_costIn_18 (by decide) h (fun c3 h => ?_) (fun c3 h => ?_)
      · skip
        refine V_iconst (v := 0) X d_Mo_costIn_29 (by decide) ?_
        refine V_iadd X d_Mo_costIn_30 ?_
        refine V_istore_n X [(2, Value.int (l2 + (0 : Int32))), (0, Value.ref (ad 91)), (1, Value.int l1), (3, Value.int l3)] d_Mo_costIn_31 (by decide) rfl ?_
        refine V_iinc X 3 (l3 + (1 : Int32)) [(3, Value.int (l3 + (1 : Int32))), (2, Value.int (l2 + (0 : Int32))), (0, Value.ref (ad 91)), (1, Value.int l1)] d_Mo_costIn_32 rfl (by first | rfl | decide) (by decide) rfl ?_
        refine V_goto X 4 d_Mo_costIn_35 (by decide) ?_
        refine V_sub (lv' := [(0, Value.ref (ad 91)), (1, Value.int l1), (2, Value.int (l2 + (0 : Int32))), (3, Value.int (l3 + (1 : Int32)))]) [2, 3, 1, 0] rfl ?_
        exact ih (l2 + (0 : Int32)) (l3 + (1 : Int32)) h
      · skip
        refine V_aload_n X 0 d_Mo_costIn_21 rfl ?_
        refine V_iload_n X 3 d_Mo_costIn_22 rfl ?_
        refine V_cI X h (fun r4 q => C_V (q := 10) X [Value.int l3] mt_Mo_cost ms_Mo_cost ml_Mo_152 (k_Mo_cost fu σ l3 r4 q) rfl rfl (by omega) (Nat.le_of_ble_eq_true rfl) rfl (by decide) (by decide) (by decide) d_Mo_costIn_23) (fun r4 h => ?_)
        refine V_goto X 30 d_Mo_costIn_26 (by decide) ?_
        refine V_iadd X d_Mo_costIn_30 ?_
        refine V_istore_n X [(2, Value.int (l2 + r4)), (0, Value.ref (ad 91)), (1, Value.int l1), (3, Value.int l3)] d_Mo_costIn_31 (by decide) rfl ?_
        refine V_iinc X 3 (l3 + (1 : Int32)) [(3, Value.int (l3 + (1 : Int32))), (2, Value.int (l2 + r4)), (0, Value.ref (ad 91)), (1, Value.int l1)] d_Mo_costIn_32 rfl (by first | rfl | decide) (by decide) rfl ?_
        refine V_goto X 4 d_Mo_costIn_35 (by decide) ?_
        refine V_sub (lv' := [(0, Value.ref (ad 91)), (1, Value.int l1), (2, Value.int (l2 + r4)), (3, Value.int (l3 + (1 : Int32)))]) [2, 3, 1, 0] rfl ?_
        exact ih (l2 + r4) (l3 + (1 : Int32)) h
set_option maxHeartbeats 4000000 in
set_option maxRecDepth 100000 in
theorem k_Mo_costIn (fu : Nat) (σ : Sg) (a0 : Int32) (r : Int32) (h : Mo_costIn fu σ a0 = some r) : Evc y_Mo_costIn prog_13_method_40_code 4 (some .int) 3 (fun ad => [Value.ref (ad 91), Value.int a0]) σ σ (fun _ => some (.int r)) := by
  refine Evc_ofI (by decide) (fun ad => Nat.le_of_ble_eq_true rfl) (fun p l e R s m args below meth c D ad cI cB A Q X hQ => ?_)
  have X : Cx p R s m args meth c jR10 prog_13_method_40_code 4 3 D ad cI cB A 0 0 := X
  have hQ := hQ.pure
  have h : wpO (Mo_costIn fu σ a0) (fun q => q = r) := ⟨_, h, rfl⟩
  rw [Mo_costIn] at h
  refine V_sub (lv' := [(0, Value.ref (ad 91)), (1, Value.int a0)]) [0, 1] rfl ?_
  refine V_iconst (v := 0) X d_Mo_costIn_0 (by decide) ?_
  refine V_istore_n X [(2, Value.int (0 : Int32)), (0, Value.ref (ad 91)), (1, Value.int a0)] d_Mo_costIn_1 (by decide) rfl ?_
  refine V_iconst (v := 0) X d_Mo_costIn_2 (by decide) ?_
  refine V_istore_n X [(3, Value.int (0 : Int32)), (2, Value.int (0 : Int32)), (0, Value.ref (ad 91)), (1, Value.int a0)] d_Mo_costIn_3 (by decide) rfl ?_
  refine V_sub (lv' := [(0, Value.ref (ad 91)), (1, Value.int a0), (2, Value.int (0 : Int32)), (3, Value.int (0 : Int32))]) [2, 3, 1, 0] rfl ?_
  refine Mo_costIn_L4_ok X fu a0 σ _ hQ (fun l2_5 l3_6 h => ?_) fu (0 : Int32) (0 : Int32) h
  refine V_iload_n X 2 d_Mo_costIn_38 rfl ?_
  have h9 := wp_some h
  exact hQ _ h9 (fun h9 => absurd h9 (by decide)) _ _ d_Mo_costIn_39
set_option maxHeartbeats 4000000 in
set_option maxRecDepth 100000 in
theorem k_Mo_mayNext (fu : Nat) (σ : Sg) (a0 : Int32) (a1 : Int32) (a2 : Int32) (r : Int32) (h : Mo_mayNext fu σ a0 a1 a2 = some r) : Evc y_Mo_mayNext prog_13_method_41_code 4 (some .boolean) 4 (fun ad => [Value.ref (ad 91), Value.int a0, Value.int a1, Value.int a2]) σ σ (fun _ => some (.int r)) := by
  refine Evc_ofZ (by decide) (fun ad => Nat.le_of_ble_eq_true rfl) (fun p l e R s m args below meth c D ad cI cB A Q X hQ => ?_)
  have X : Cx p R s m args meth c jR10 prog_13_method_41_code 4 4 D ad cI cB A 0 0 := X
  have hQ := hQ.pure
  have h : wpO (Mo_mayNext fu σ a0 a1 a2) (fun q => q = r) := ⟨_, h, rfl⟩
  rw [Mo_mayNext] at h
  refine V_sub (lv' := [(0, Value.ref (ad 91)), (1, Value.int a0), (2, Value.int a1), (3, Value.int a2)]) [0, 1, 2, 3] rfl ?_
  refine V_aload_n X 0 d_Mo_mayNext_0 rfl ?_
  refine V_iload_n X 3 d_Mo_mayNext_1 rfl ?_
  refine V_aload_n X 0 d_Mo_mayNext_2 rfl ?_
  refine V_getI X 10 9 rfl ji10 (by decide) (by decide) (by decide) fl_Mo_127 d_Mo_mayNext_3 (by decide) (by decide) (by decide) ?_
  refine V_iload_n X 2 d_Mo_mayNext_6 rfl ?_
  refine V_ior X d_Mo_mayNext_7 ?_
  refine V_cI X h (fun r1 q => C_V (q := 10) X [Value.int a2, Value.int ((gF σ 91 9) ||| a1)] mt_Mo_isOpen ms_Mo_isOpen ml_Mo_149 (k_Mo_isOpen σ a2 ((gF σ 91 9) ||| a1) r1 q) rfl rfl (by omega) (Nat.le_of_ble_eq_true rfl) rfl (by decide) (by decide) (by decide) d_Mo_mayNext_8) (fun r1 h => ?_)
  refine V_if_eq X 38 d_Mo_mayNext_11 (by decide) h (fun c2 h => ?_) (fun c2 h => ?_)
  · skip
    refine V_iconst (v := 0) X d_Mo_mayNext_38 (by decide) ?_
    have h9 := wp_some h
    exact hQ _ h9 (fun _ => by decide) _ _ d_Mo_mayNext_39
  · skip
    refine V_aload_n X 0 d_Mo_mayNext_14 rfl ?_
    refine V_iload_n X 2 d_Mo_mayNext_15 rfl ?_
    refine V_cI X h (fun r3 q => C_V (q := 10) X [Value.int a1] mt_Mo_costIn ms_Mo_costIn ml_Mo_210 (k_Mo_costIn fu σ a1 r3 q) rfl rfl (by omega) (Nat.le_of_ble_eq_true rfl) rfl (by decide) (by decide) (by decide) d_Mo_mayNext_16) (fun r3 h => ?_)
    refine V_aload_n X 0 d_Mo_mayNext_19 rfl ?_
    refine V_iload_n X 3 d_Mo_mayNext_20 rfl ?_
    refine V_cI X h (fun r4 q => C_V (q := 10) X [Value.int a2] mt_Mo_cost ms_Mo_cost ml_Mo_152 (k_Mo_cost fu σ a2 r4 q) rfl rfl (by omega) (Nat.le_of_ble_eq_true rfl) rfl (by decide) (by decide) (by decide) d_Mo_mayNext_21) (fun r4 h => ?_)
    refine V_iadd X d_Mo_mayNext_24 ?_
    refine V_aload_n X 0 d_Mo_mayNext_25 rfl ?_
    refine V_getR X 10 3 92 rfl ji10 (by decide) (by decide) (by decide) fl_Mo_7 d_Mo_mayNext_26 (by decide) (by decide) (by decide) (by decide) ?_
    refine V_iload_n X 1 d_Mo_mayNext_29 rfl ?_
    refine V_iald X d_Mo_mayNext_30 (by decide) (by decide) rfl h (fun h => ?_)
    refine V_icmp_gt X 38 d_Mo_mayNext_31 (by decide) h (fun c5 h => ?_) (fun c5 h => ?_)
    · skip
      refine V_iconst (v := 0) X d_Mo_mayNext_38 (by decide) ?_
      have h9 := wp_some h
      exact hQ _ h9 (fun _ => by decide) _ _ d_Mo_mayNext_39
    · skip
      refine V_iconst (v := 1) X d_Mo_mayNext_34 (by decide) ?_
      refine V_goto X 39 d_Mo_mayNext_35 (by decide) ?_
      have h9 := wp_some h
      exact hQ _ h9 (fun _ => by decide) _ _ d_Mo_mayNext_39
set_option maxHeartbeats 4000000 in
set_option maxRecDepth 100000 in
theorem Mo_bestNext_L5_ok {p : Program} {l : Launch} {e : Env} {R : Room} {s : State} {m : MethodId} {args : Array Value} {below : List Frame} {meth : Method} {c : Code} {D : va_G} {ad : Nat → Nat} {cI cB : ClassId} {A : Nat → Prop} {cells slots : Nat} {Q : State → Prop} (X : Cx p R s m args meth c jR10 prog_13_method_42_code 8 5 D ad cI cB A cells slots) (fu : Nat) (l1 : Int32) (l2 : Int32) (σ : Sg) (kont : (Int32 → Int32 → Option Int32)) {K : Int32 → Prop} (hQ : RP p l e R s m args below meth c 8 D ad cI cB A cells slots Q prog_13_method_42_code false σ K) (hk : ∀ (l3 : Int32) (l4 : Int32), wpO (kont l3 l4) K → V p l e R s m args below meth c 8 D A cells slots Q (wl ad cI cB σ) 111 [(0, Value.ref (ad 91)), (1, Value.int l1), (2, Value.int l2), (3, Value.int l3), (4, Value.int l4)] []) : ∀ (n : Nat) (l3 : Int32) (l4 : Int32), wpO (Mo_bestNext_L5 fu l1 l2 σ kont n l3 l4) K → V p l e R s m args below meth c 8 D A cells slots Q (wl ad cI cB σ) 5 [(0, Value.ref (ad 91)), (1, Value.int l1), (2, Value.int l2), (3, Value.int l3), (4, Value.int l4)] [] := by
  intro n
  induction n with
  | zero =>
    intro l3 l4 h
    exact (wp_none h).elim
  | succ n ih =>
    intro l3 l4 h
    rw [Mo_bestNext_L5] at h
    refine V_iload X 4 d_Mo_bestNext_5 rfl ?_
    refine V_aload_n X 0 d_Mo_bestNext_7 rfl ?_
    refine V_getI X 10 2 rfl ji10 (by decide) (by decide) (by decide) fl_Mo_124 d_Mo_bestNext_8 (by decide) (by decide) (by decide) ?_
    refine V_icmp_ge X 111 d_Mo_bestNext_11 (by decide) h (fun c1 h => ?_) (fun c1 h => ?_)
    · skip
      exact hk l3 l4 h
    · skip
      refine V_aload_n X 0 d_Mo_bestNext_14 rfl ?_
      refine V_iload_n X 1 d_Mo_bestNext_15 rfl ?_
      refine V_iload_n X 2 d_Mo_bestNext_16 rfl ?_
      refine V_iload X 4 d_Mo_bestNext_17 rfl ?_
      refine V_cI X h (fun r2 q => C_V (q := 10) X [Value.int l1, Value.int l2, Value.int l4] mt_Mo_mayNext ms_Mo_mayNext ml_Mo_213 (k_Mo_mayNext fu σ l1 l2 l4 r2 q) rfl rfl (by omega) (Nat.le_of_ble_eq_true rfl) rfl (by decide) (by decide) (by decide) d_Mo_bestNext_19) (fun r2 h => ?_)
      refine V_istore X [(5, Value.int r2), (0, Value.ref (ad 91)), (1, Value.int l1), (2, Value.int l2), (3, Value.int l3), (4, Value.int l4)] d_Mo_bestNext_22 (by decide) rfl ?_
      refine V_iload X 0 d_Mo_bestNext_24 rfl ?_
      refine V_if_eq X 51 d_Mo_bestNext_26 (by decide) h (fun c3 h => ?_) (fun c3 h => ?_)
      · skip
        refine V_iconst (v := 0) X d_Mo_bestNext_51 (by decide) ?_
        refine V_istore X [(6, Value.int (0 : Int32)), (5, Value.int r2), (0, Value.ref (ad 91)), (1, Value.int l1), (2, Value.int l2), (3, Value.int l3), (4, Value.int l4)] d_Mo_bestNext_52 (by decide) rfl ?_
        refine V_iload X 1 d_Mo_bestNext_54 rfl ?_
        refine V_if_eq X 90 d_Mo_bestNext_56 (by decide) h (fun c4 h => ?_) (fun c4 h => ?_)
        · skip
          refine V_iconst (v := 0) X d_Mo_bestNext_90 (by decide) ?_
          refine V_istore X [(7, Value.int (0 : Int32)), (6, Value.int (0 : Int32)), (5, Value.int r2), (0, Value.ref (ad 91)), (1, Value.int l1), (2, Value.int l2), (3, Value.int l3), (4, Value.int l4)] d_Mo_bestNext_91 (by decide) rfl ?_
          refine V_iload X 0 d_Mo_bestNext_93 rfl ?_
          refine V_if_eqT X 103 d_Mo_bestNext_95 (by decide) (by decide) ?_
          refine V_iload_n X 6 d_Mo_bestNext_103 rfl ?_
          refine V_istore_n X [(3, Value.int l3), (7, Value.int (0 : Int32)), (6, Value.int (0 : Int32)), (5, Value.int r2), (0, Value.ref (ad 91)), (1, Value.int l1), (2, Value.int l2), (4, Value.int l4)] d_Mo_bestNext_104 (by decide) rfl ?_
          refine V_iinc X 7 (l4 + (1 : Int32)) [(4, Value.int (l4 + (1 : Int32))), (3, Value.int l3), (7, Value.int (0 : Int32)), (6, Value.int (0 : Int32)), (5, Value.int r2), (0, Value.ref (ad 91)), (1, Value.int l1), (2, Value.int l2)] d_Mo_bestNext_105 rfl (by first | rfl | decide) (by decide) rfl ?_
          refine V_goto X 5 d_Mo_bestNext_108 (by decide) ?_
          refine V_sub (lv' := [(0, Value.ref (ad 91)), (1, Value.int l1), (2, Value.int l2), (3, Value.int l3), (4, Value.int (l4 + (1 : Int32)))]) [5, 6, 7, 1, 0] rfl ?_
          exact ih l3 (l4 + (1 : Int32)) h
        · skip
          refine V_iload_n X 5 d_Mo_bestNext_59 rfl ?_
          refine V_iconst (v := -1) X d_Mo_bestNext_60 (by decide) ?_
          refine V_icmp_eq X 86 d_Mo_bestNext_61 (by decide) h (fun c5 h => ?_) (fun c5 h => ?_)
          · skip
            refine V_iconst (v := 1) X d_Mo_bestNext_86 (by decide) ?_
            refine V_goto X 91 d_Mo_bestNext_87 (by decide) ?_
            refine V_istore X [(7, Value.int (1 : Int32)), (6, Value.int (0 : Int32)), (5, Value.int r2), (0, Value.ref (ad 91)), (1, Value.int l1), (2, Value.int l2), (3, Value.int l3), (4, Value.int l4)] d_Mo_bestNext_91 (by decide) rfl ?_
            refine V_iload X 0 d_Mo_bestNext_93 rfl ?_
            refine V_if_eqF X d_Mo_bestNext_95 103 (by decide) (by decide) ?_
            refine V_iload X 7 d_Mo_bestNext_98 rfl ?_
            refine V_goto X 104 d_Mo_bestNext_100 (by decide) ?_
            refine V_istore_n X [(3, Value.int l4), (7, Value.int (1 : Int32)), (6, Value.int (0 : Int32)), (5, Value.int r2), (0, Value.ref (ad 91)), (1, Value.int l1), (2, Value.int l2), (4, Value.int l4)] d_Mo_bestNext_104 (by decide) rfl ?_
            refine V_iinc X 7 (l4 + (1 : Int32)) [(4, Value.int (l4 + (1 : Int32))), (3, Value.int l4), (7, Value.int (1 : Int32)), (6, Value.int (0 : Int32)), (5, Value.int r2), (0, Value.ref (ad 91)), (1, Value.int l1), (2, Value.int l2)] d_Mo_bestNext_105 rfl (by first | rfl | decide) (by decide) rfl ?_
            refine V_goto X 5 d_Mo_bestNext_108 (by decide) ?_
            refine V_sub (lv' := [(0, Value.ref (ad 91)), (1, Value.int l1), (2, Value.int l2), (3, Value.int l4), (4, Value.int (l4 + (1 : Int32)))]) [5, 6, 7, 1, 0] rfl ?_
            exact ih l4 (l4 + (1 : Int32)) h
          · skip
            refine V_iload X 0 d_Mo_bestNext_64 rfl ?_
            refine V_aload_n X 2 d_Mo_bestNext_66 rfl ?_
            refine V_getR X 10 7 96 rfl ji10 (by decide) (by decide) (by decide) fl_Mo_22 d_Mo_bestNext_67 (by decide) (by decide) (by decide) (by decide) ?_
            refine V_iload_n X 5 d_Mo_bestNext_70 rfl ?_
            refine V_iald X d_Mo_bestNext_71 (by decide) (by decide) rfl h (fun h => ?_)
            refine V_aload_n X 2 d_Mo_bestNext_72 rfl ?_
            refine V_getR X 10 27 105 rfl ji10 (by decide) (by decide) (by decide) fl_Mo_50 d_Mo_bestNext_73 (by decide) (by decide) (by decide) (by decide) ?_
            refine V_iload_n X 4 d_Mo_bestNext_76 rfl ?_
            refine V_iconst (v := 1) X d_Mo_bestNext_77 (by decide) ?_
            refine V_iload_n X 5 d_Mo_bestNext_78 rfl ?_
            refine V_ishl X d_Mo_bestNext_79 ?_
            refine V_ior X d_Mo_bestNext_80 ?_
            refine V_iald X d_Mo_bestNext_81 (by decide) (by decide) rfl h (fun h => ?_)
            refine V_isub X d_Mo_bestNext_82 ?_
            refine V_icmp_le X 90 d_Mo_bestNext_83 (by decide) h (fun c6 h => ?_) (fun c6 h => ?_)
            · skip
              refine V_iconst (v := 0) X d_Mo_bestNext_90 (by decide) ?_
              refine V_istore X [(7, Value.int (0 : Int32)), (6, Value.int (0 : Int32)), (5, Value.int r2), (0, Value.ref (ad 91)), (1, Value.int l1), (2, Value.int l2), (3, Value.int l3), (4, Value.int l4)] d_Mo_bestNext_91 (by decide) rfl ?_
              refine V_iload X 0 d_Mo_bestNext_93 rfl ?_
              refine V_if_eqT X 103 d_Mo_bestNext_95 (by decide) (by decide) ?_
              refine V_iload_n X 6 d_Mo_bestNext_103 rfl ?_
              refine V_istore_n X [(3, Value.int l3), (7, Value.int (0 : Int32)), (6, Value.int (0 : Int32)), (5, Value.int r2), (0, Value.ref (ad 91)), (1, Value.int l1), (2, Value.int l2), (4, Value.int l4)] d_Mo_bestNext_104 (by decide) rfl ?_
              refine V_iinc X 7 (l4 + (1 : Int32)) [(4, Value.int (l4 + (1 : Int32))), (3, Value.int l3), (7, Value.int (0 : Int32)), (6, Value.int (0 : Int32)), (5, Value.int r2), (0, Value.ref (ad 91)), (1, Value.int l1), (2, Value.int l2)] d_Mo_bestNext_105 rfl (by first | rfl | decide) (by decide) rfl ?_
              refine V_goto X 5 d_Mo_bestNext_108 (by decide) ?_
              refine V_sub (lv' := [(0, Value.ref (ad 91)), (1, Value.int l1), (2, Value.int l2), (3, Value.int l3), (4, Value.int (l4 + (1 : Int32)))]) [5, 6, 7, 1, 0] rfl ?_
              exact ih l3 (l4 + (1 : Int32)) h
            · skip
              refine V_iconst (v := 1) X d_Mo_bestNext_86 (by decide) ?_
              refine V_goto X 91 d_Mo_bestNext_87 (by decide) ?_
              refine V_istore X [(7, Value.int (1 : Int32)), (6, Value.int (0 : Int32)), (5, Value.int r2), (0, Value.ref (ad 91)), (1, Value.int l1), (2, Value.int l2), (3, Value.int l3), (4, Value.int l4)] d_Mo_bestNext_91 (by decide) rfl ?_
              refine V_iload X 0 d_Mo_bestNext_93 rfl ?_
              refine V_if_eqF X d_Mo_bestNext_95 103 (by decide) (by decide) ?_
              refine V_iload X 7 d_Mo_bestNext_98 rfl ?_
              refine V_goto X 104 d_Mo_bestNext_100 (by decide) ?_
              refine V_istore_n X [(3, Value.int l4), (7, Value.int (1 : Int32)), (6, Value.int (0 : Int32)), (5, Value.int r2), (0, Value.ref (ad 91)), (1, Value.int l1), (2, Value.int l2), (4, Value.int l4)] d_Mo_bestNext_104 (by decide) rfl ?_
              refine V_iinc X 7 (l4 + (1 : Int32)) [(4, Value.int (l4 + (1 : Int32))), (3, Value.int l4), (7, Value.int (1 : Int32)), (6, Value.int (0 : Int32)), (5, Value.int r2), (0, Value.ref (ad 91)), (1, Value.int l1), (2, Value.int l2)] d_Mo_bestNext_105 rfl (by first | rfl | decide) (by decide) rfl ?_
              refine V_goto X 5 d_Mo_bestNext_108 (by decide) ?_
              refine V_sub (lv' := [(0, Value.ref (ad 91)), (1, Value.int l1), (2, Value.int l2), (3, Value.int l4), (4, Value.int (l4 + (1 : Int32)))]) [5, 6, 7, 1, 0] rfl ?_
              exact ih l4 (l4 + (1 : Int32)) h
      · skip
        refine V_aload_n X 1 d_Mo_bestNext_29 rfl ?_
        refine V_getR X 10 7 96 rfl ji10 (by decide) (by decide) (by decide) fl_Mo_22 d_Mo_bestNext_30 (by decide) (by decide) (by decide) (by decide) ?_
        refine V_iload X 5 d_Mo_bestNext_33 rfl ?_
        refine V_iald X d_Mo_bestNext_35 (by decide) (by decide) rfl h (fun h => ?_)
        refine V_aload_n X 1 d_Mo_bestNext_36 rfl ?_
        refine V_getR X 10 27 105 rfl ji10 (by decide) (by decide) (by decide) fl_Mo_50 d_Mo_bestNext_37 (by decide) (by decide) (by decide) (by decide) ?_
        refine V_iload_n X 3 d_Mo_bestNext_40 rfl ?_
        refine V_iconst (v := 1) X d_Mo_bestNext_41 (by decide) ?_
        refine V_iload X 5 d_Mo_bestNext_42 rfl ?_
        refine V_ishl X d_Mo_bestNext_44 ?_
        refine V_ior X d_Mo_bestNext_45 ?_
        refine V_iald X d_Mo_bestNext_46 (by decide) (by decide) rfl h (fun h => ?_)
        refine V_isub X d_Mo_bestNext_47 ?_
        refine V_goto X 52 d_Mo_bestNext_48 (by decide) ?_
        refine V_istore X [(6, Value.int ((gA σ 96 (ix l4)) - (gA σ 105 (ix (l2 ||| ((1 : Int32) <<< (l4 &&& 31))))))), (5, Value.int r2), (0, Value.ref (ad 91)), (1, Value.int l1), (2, Value.int l2), (3, Value.int l3), (4, Value.int l4)] d_Mo_bestNext_52 (by decide) rfl ?_
        refine V_iload X 1 d_Mo_bestNext_54 rfl ?_
        refine V_if_eq X 90 d_Mo_bestNext_56 (by decide) h (fun c7 h => ?_) (fun c7 h => ?_)
        · skip
          refine V_iconst (v := 0) X d_Mo_bestNext_90 (by decide) ?_
          refine V_istore X [(7, Value.int (0 : Int32)), (6, Value.int ((gA σ 96 (ix l4)) - (gA σ 105 (ix (l2 ||| ((1 : Int32) <<< (l4 &&& 31))))))), (5, Value.int r2), (0, Value.ref (ad 91)), (1, Value.int l1), (2, Value.int l2), (3, Value.int l3), (4, Value.int l4)] d_Mo_bestNext_91 (by decide) rfl ?_
          refine V_iload X 0 d_Mo_bestNext_93 rfl ?_
          refine V_if_eqT X 103 d_Mo_bestNext_95 (by decide) (by decide) ?_
          refine V_iload_n X 6 d_Mo_bestNext_103 rfl ?_
          refine V_istore_n X [(3, Value.int l3), (7, Value.int (0 : Int32)), (6, Value.int ((gA σ 96 (ix l4)) - (gA σ 105 (ix (l2 ||| ((1 : Int32) <<< (l4 &&& 31))))))), (5, Value.int r2), (0, Value.ref (ad 91)), (1, Value.int l1), (2, Value.int l2), (4, Value.int l4)] d_Mo_bestNext_104 (by decide) rfl ?_
          refine V_iinc X 7 (l4 + (1 : Int32)) [(4, Value.int (l4 + (1 : Int32))), (3, Value.int l3), (7, Value.int (0 : Int32)), (6, Value.int ((gA σ 96 (ix l4)) - (gA σ 105 (ix (l2 ||| ((1 : Int32) <<< (l4 &&& 31))))))), (5, Value.int r2), (0, Value.ref (ad 91)), (1, Value.int l1), (2, Value.int l2)] d_Mo_bestNext_105 rfl (by first | rfl | decide) (by decide) rfl ?_
          refine V_goto X 5 d_Mo_bestNext_108 (by decide) ?_
          refine V_sub (lv' := [(0, Value.ref (ad 91)), (1, Value.int l1), (2, Value.int l2), (3, Value.int l3), (4, Value.int (l4 + (1 : Int32)))]) [5, 6, 7, 1, 0] rfl ?_
          exact ih l3 (l4 + (1 : Int32)) h
        · skip
          refine V_iload_n X 5 d_Mo_bestNext_59 rfl ?_
          refine V_iconst (v := -1) X d_Mo_bestNext_60 (by decide) ?_
          refine V_icmp_eq X 86 d_Mo_bestNext_61 (by decide) h (fun c8 h => ?_) (fun c8 h => ?_)
          · skip
            refine V_iconst (v := 1) X d_Mo_bestNext_86 (by decide) ?_
            refine V_goto X 91 d_Mo_bestNext_87 (by decide) ?_
            refine V_istore X [(7, Value.int (1 : Int32)), (6, Value.int ((gA σ 96 (ix l4)) - (gA σ 105 (ix (l2 ||| ((1 : Int32) <<< (l4 &&& 31))))))), (5, Value.int r2), (0, Value.ref (ad 91)), (1, Value.int l1), (2, Value.int l2), (3, Value.int l3), (4, Value.int l4)] d_Mo_bestNext_91 (by decide) rfl ?_
            refine V_iload X 0 d_Mo_bestNext_93 rfl ?_
            refine V_if_eqF X d_Mo_bestNext_95 103 (by decide) (by decide) ?_
            refine V_iload X 7 d_Mo_bestNext_98 rfl ?_
            refine V_goto X 104 d_Mo_bestNext_100 (by decide) ?_
            refine V_istore_n X [(3, Value.int l4), (7, Value.int (1 : Int32)), (6, Value.int ((gA σ 96 (ix l4)) - (gA σ 105 (ix (l2 ||| ((1 : Int32) <<< (l4 &&& 31))))))), (5, Value.int r2), (0, Value.ref (ad 91)), (1, Value.int l1), (2, Value.int l2), (4, Value.int l4)] d_Mo_bestNext_104 (by decide) rfl ?_
            refine V_iinc X 7 (l4 + (1 : Int32)) [(4, Value.int (l4 + (1 : Int32))), (3, Value.int l4), (7, Value.int (1 : Int32)), (6, Value.int ((gA σ 96 (ix l4)) - (gA σ 105 (ix (l2 ||| ((1 : Int32) <<< (l4 &&& 31))))))), (5, Value.int r2), (0, Value.ref (ad 91)), (1, Value.int l1), (2, Value.int l2)] d_Mo_bestNext_105 rfl (by first | rfl | decide) (by decide) rfl ?_
            refine V_goto X 5 d_Mo_bestNext_108 (by decide) ?_
            refine V_sub (lv' := [(0, Value.ref (ad 91)), (1, Value.int l1), (2, Value.int l2), (3, Value.int l4), (4, Value.int (l4 + (1 : Int32)))]) [5, 6, 7, 1, 0] rfl ?_
            exact ih l4 (l4 + (1 : Int32)) h
          · skip
            refine V_iload X 0 d_Mo_bestNext_64 rfl ?_
            refine V_aload_n X 2 d_Mo_bestNext_66 rfl ?_
            refine V_getR X 10 7 96 rfl ji10 (by decide) (by decide) (by decide) fl_Mo_22 d_Mo_bestNext_67 (by decide) (by decide) (by decide) (by decide) ?_
            refine V_iload_n X 5 d_Mo_bestNext_70 rfl ?_
            refine V_iald X d_Mo_bestNext_71 (by decide) (by decide) rfl h (fun h => ?_)
            refine V_aload_n X 2 d_Mo_bestNext_72 rfl ?_
            refine V_getR X 10 27 105 rfl ji10 (by decide) (by decide) (by decide) fl_Mo_50 d_Mo_bestNext_73 (by decide) (by decide) (by decide) (by decide) ?_
            refine V_iload_n X 4 d_Mo_bestNext_76 rfl ?_
            refine V_iconst (v := 1) X d_Mo_bestNext_77 (by decide) ?_
            refine V_iload_n X 5 d_Mo_bestNext_78 rfl ?_
            refine V_ishl X d_Mo_bestNext_79 ?_
            refine V_ior X d_Mo_bestNext_80 ?_
            refine V_iald X d_Mo_bestNext_81 (by decide) (by decide) rfl h (fun h => ?_)
            refine V_isub X d_Mo_bestNext_82 ?_
            refine V_icmp_le X 90 d_Mo_bestNext_83 (by decide) h (fun c9 h => ?_) (fun c9 h => ?_)
            · skip
              refine V_iconst (v := 0) X d_Mo_bestNext_90 (by decide) ?_
              refine V_istore X [(7, Value.int (0 : Int32)), (6, Value.int ((gA σ 96 (ix l4)) - (gA σ 105 (ix (l2 ||| ((1 : Int32) <<< (l4 &&& 31))))))), (5, Value.int r2), (0, Value.ref (ad 91)), (1, Value.int l1), (2, Value.int l2), (3, Value.int l3), (4, Value.int l4)] d_Mo_bestNext_91 (by decide) rfl ?_
              refine V_iload X 0 d_Mo_bestNext_93 rfl ?_
              refine V_if_eqT X 103 d_Mo_bestNext_95 (by decide) (by decide) ?_
              refine V_iload_n X 6 d_Mo_bestNext_103 rfl ?_
              refine V_istore_n X [(3, Value.int l3), (7, Value.int (0 : Int32)), (6, Value.int ((gA σ 96 (ix l4)) - (gA σ 105 (ix (l2 ||| ((1 : Int32) <<< (l4 &&& 31))))))), (5, Value.int r2), (0, Value.ref (ad 91)), (1, Value.int l1), (2, Value.int l2), (4, Value.int l4)] d_Mo_bestNext_104 (by decide) rfl ?_
              refine V_iinc X 7 (l4 + (1 : Int32)) [(4, Value.int (l4 + (1 : Int32))), (3, Value.int l3), (7, Value.int (0 : Int32)), (6, Value.int ((gA σ 96 (ix l4)) - (gA σ 105 (ix (l2 ||| ((1 : Int32) <<< (l4 &&& 31))))))), (5, Value.int r2), (0, Value.ref (ad 91)), (1, Value.int l1), (2, Value.int l2)] d_Mo_bestNext_105 rfl (by first | rfl | decide) (by decide) rfl ?_
              refine V_goto X 5 d_Mo_bestNext_108 (by decide) ?_
              refine V_sub (lv' := [(0, Value.ref (ad 91)), (1, Value.int l1), (2, Value.int l2), (3, Value.int l3), (4, Value.int (l4 + (1 : Int32)))]) [5, 6, 7, 1, 0] rfl ?_
              exact ih l3 (l4 + (1 : Int32)) h
            · skip
              refine V_iconst (v := 1) X d_Mo_bestNext_86 (by decide) ?_
              refine V_goto X 91 d_Mo_bestNext_87 (by decide) ?_
              refine V_istore X [(7, Value.int (1 : Int32)), (6, Value.int ((gA σ 96 (ix l4)) - (gA σ 105 (ix (l2 ||| ((1 : Int32) <<< (l4 &&& 31))))))), (5, Value.int r2), (0, Value.ref (ad 91)), (1, Value.int l1), (2, Value.int l2), (3, Value.int l3), (4, Value.int l4)] d_Mo_bestNext_91 (by decide) rfl ?_
              refine V_iload X 0 d_Mo_bestNext_93 rfl ?_
              refine V_if_eqF X d_Mo_bestNext_95 103 (by decide) (by decide) ?_
              refine V_iload X 7 d_Mo_bestNext_98 rfl ?_
              refine V_goto X 104 d_Mo_bestNext_100 (by decide) ?_
              refine V_istore_n X [(3, Value.int l4), (7, Value.int (1 : Int32)), (6, Value.int ((gA σ 96 (ix l4)) - (gA σ 105 (ix (l2 ||| ((1 : Int32) <<< (l4 &&& 31))))))), (5, Value.int r2), (0, Value.ref (ad 91)), (1, Value.int l1), (2, Value.int l2), (4, Value.int l4)] d_Mo_bestNext_104 (by decide) rfl ?_
              refine V_iinc X 7 (l4 + (1 : Int32)) [(4, Value.int (l4 + (1 : Int32))), (3, Value.int l4), (7, Value.int (1 : Int32)), (6, Value.int ((gA σ 96 (ix l4)) - (gA σ 105 (ix (l2 ||| ((1 : Int32) <<< (l4 &&& 31))))))), (5, Value.int r2), (0, Value.ref (ad 91)), (1, Value.int l1), (2, Value.int l2)] d_Mo_bestNext_105 rfl (by first | rfl | decide) (by decide) rfl ?_
              refine V_goto X 5 d_Mo_bestNext_108 (by decide) ?_
              refine V_sub (lv' := [(0, Value.ref (ad 91)), (1, Value.int l1), (2, Value.int l2), (3, Value.int l4), (4, Value.int (l4 + (1 : Int32)))]) [5, 6, 7, 1, 0] rfl ?_
              exact ih l4 (l4 + (1 : Int32)) h
set_option maxHeartbeats 4000000 in
set_option maxRecDepth 100000 in
theorem k_Mo_bestNext (fu : Nat) (σ : Sg) (a0 : Int32) (a1 : Int32) (r : Int32) (h : Mo_bestNext fu σ a0 a1 = some r) : Evc y_Mo_bestNext prog_13_method_42_code 8 (some .int) 5 (fun ad => [Value.ref (ad 91), Value.int a0, Value.int a1]) σ σ (fun _ => some (.int r)) := by
  refine Evc_ofI (by decide) (fun ad => Nat.le_of_ble_eq_true rfl) (fun p l e R s m args below meth c D ad cI cB A Q X hQ => ?_)
  have X : Cx p R s m args meth c jR10 prog_13_method_42_code 8 5 D ad cI cB A 0 0 := X
  have hQ := hQ.pure
  have h : wpO (Mo_bestNext fu σ a0 a1) (fun q => q = r) := ⟨_, h, rfl⟩
  rw [Mo_bestNext] at h
  refine V_sub (lv' := [(0, Value.ref (ad 91)), (1, Value.int a0), (2, Value.int a1)]) [0, 1, 2] rfl ?_
  refine V_iconst (v := -1) X d_Mo_bestNext_0 (by decide) ?_
  refine V_istore_n X [(3, Value.int (-1 : Int32)), (0, Value.ref (ad 91)), (1, Value.int a0), (2, Value.int a1)] d_Mo_bestNext_1 (by decide) rfl ?_
  refine V_iconst (v := 0) X d_Mo_bestNext_2 (by decide) ?_
  refine V_istore X [(4, Value.int (0 : Int32)), (3, Value.int (-1 : Int32)), (0, Value.ref (ad 91)), (1, Value.int a0), (2, Value.int a1)] d_Mo_bestNext_3 (by decide) rfl ?_
  refine V_sub (lv' := [(0, Value.ref (ad 91)), (1, Value.int a0), (2, Value.int a1), (3, Value.int (-1 : Int32)), (4, Value.int (0 : Int32))]) [2, 3, 4, 1, 0] rfl ?_
  refine Mo_bestNext_L5_ok X fu a0 a1 σ _ hQ (fun l3_10 l4_11 h => ?_) fu (-1 : Int32) (0 : Int32) h
  refine V_iload_n X 3 d_Mo_bestNext_111 rfl ?_
  have h9 := wp_some h
  exact hQ _ h9 (fun h9 => absurd h9 (by decide)) _ _ d_Mo_bestNext_112
set_option maxHeartbeats 4000000 in
set_option maxRecDepth 100000 in
theorem k_Mo_isTree (σ : Sg) (a0 : Int32) (r : Int32) (h : Mo_isTree σ a0 = some r) : Evc y_Mo_isTree prog_13_method_17_code 2 (some .boolean) 2 (fun ad => [Value.ref (ad 91), Value.int a0]) σ σ (fun _ => some (.int r)) := by
  refine Evc_ofZ (by decide) (fun ad => Nat.le_of_ble_eq_true rfl) (fun p l e R s m args below meth c D ad cI cB A Q X hQ => ?_)
  have X : Cx p R s m args meth c jR10 prog_13_method_17_code 2 2 D ad cI cB A 0 0 := X
  have hQ := hQ.pure
  have h : wpO (Mo_isTree σ a0) (fun q => q = r) := ⟨_, h, rfl⟩
  rw [Mo_isTree] at h
  refine V_sub (lv' := [(0, Value.ref (ad 91)), (1, Value.int a0)]) [0, 1] rfl ?_
  refine V_iload_n X 1 d_Mo_isTree_0 rfl ?_
  refine V_iconst (v := 0) X d_Mo_isTree_1 (by decide) ?_
  refine V_aload_n X 0 d_Mo_isTree_2 rfl ?_
  refine V_getI X 10 1 rfl ji10 (by decide) (by decide) (by decide) fl_Mo_121 d_Mo_isTree_3 (by decide) (by decide) (by decide) ?_
  refine V_iconst (v := 1) X d_Mo_isTree_6 (by decide) ?_
  refine V_isub X d_Mo_isTree_7 ?_
  refine V_cI X h (fun r1 q => C_S X [Value.int a0, Value.int (0 : Int32), Value.int ((gF σ 91 1) - (1 : Int32))] mt_Mo_within ms_Mo_within ml_Mo_83 (k_Mo_within σ a0 (0 : Int32) ((gF σ 91 1) - (1 : Int32)) r1 q) rfl rfl (by omega) (Nat.le_of_ble_eq_true rfl) d_Mo_isTree_8) (fun r1 h => ?_)
  obtain ⟨hz, h⟩ := wp_if h
  have h9 := wp_some h
  exact hQ _ h9 (fun _ => hz) _ _ d_Mo_isTree_11
set_option maxHeartbeats 4000000 in
set_option maxRecDepth 100000 in
theorem k_Mo_birds (σ : Sg) (a0 : Int32) (a1 : Int32) (r : Int32) (σ' : Sg) (h : Mo_birds σ a0 a1 = some (r, σ')) : Evc y_Mo_birds prog_13_method_33_code 4 (some .int) 3 (fun ad => [Value.ref (ad 91), Value.int a0, Value.int a1]) σ σ' (fun _ => some (.int r)) := by
  refine Evc_ofI (by decide) (fun ad => Nat.le_of_ble_eq_true rfl) (fun p l e R s m args below meth c D ad cI cB A Q X hQ => ?_)
  have X : Cx p R s m args meth c jR10 prog_13_method_33_code 4 3 D ad cI cB A 0 0 := X
  have h : wpO (Mo_birds σ a0 a1) (fun q => q = (r, σ')) := ⟨_, h, rfl⟩
  rw [Mo_birds] at h
  refine V_sub (lv' := [(0, Value.ref (ad 91)), (1, Value.int a0), (2, Value.int a1)]) [0, 1, 2] rfl ?_
  refine V_aload_n X 0 d_Mo_birds_0 rfl ?_
  refine V_iload_n X 1 d_Mo_birds_1 rfl ?_
  refine V_cI X h (fun r1 q => C_V (q := 10) X [Value.int a0] mt_Mo_isTree ms_Mo_isTree ml_Mo_158 (k_Mo_isTree σ a0 r1 q) rfl rfl (by omega) (Nat.le_of_ble_eq_true rfl) rfl (by decide) (by decide) (by decide) d_Mo_birds_2) (fun r1 h => ?_)
  refine V_if_ne X 11 d_Mo_birds_5 (by decide) h (fun c2 h => ?_) (fun c2 h => ?_)
  · skip
    refine V_iload_n X 2 d_Mo_birds_11 rfl ?_
    refine V_iconst (v := 0) X d_Mo_birds_12 (by decide) ?_
    refine V_bipush (v := 9) X d_Mo_birds_13 (by decide) ?_
    refine V_cI X h (fun r3 q => C_S X [Value.int a1, Value.int (0 : Int32), Value.int (9 : Int32)] mt_Mo_within ms_Mo_within ml_Mo_83 (k_Mo_within σ a1 (0 : Int32) (9 : Int32) r3 q) rfl rfl (by omega) (Nat.le_of_ble_eq_true rfl) d_Mo_birds_15) (fun r3 h => ?_)
    refine V_if_ne X 24 d_Mo_birds_18 (by decide) h (fun c4 h => ?_) (fun c4 h => ?_)
    · skip
      refine V_aload_n X 0 d_Mo_birds_24 rfl ?_
      refine V_getR X 10 4 93 rfl ji10 (by decide) (by decide) (by decide) fl_Mo_13 d_Mo_birds_25 (by decide) (by decide) (by decide) (by decide) ?_
      refine V_iload_n X 1 d_Mo_birds_28 rfl ?_
      refine V_iald X d_Mo_birds_29 (by decide) (by decide) rfl h (fun h => ?_)
      refine V_istore_n X [(3, Value.int (gA σ 93 (ix a0))), (0, Value.ref (ad 91)), (1, Value.int a0), (2, Value.int a1)] d_Mo_birds_30 (by decide) rfl ?_
      refine V_aload_n X 1 d_Mo_birds_31 rfl ?_
      refine V_getR X 10 4 93 rfl ji10 (by decide) (by decide) (by decide) fl_Mo_13 d_Mo_birds_32 (by decide) (by decide) (by decide) (by decide) ?_
      refine V_iload_n X 2 d_Mo_birds_35 rfl ?_
      refine V_iload_n X 3 d_Mo_birds_36 rfl ?_
      refine V_iast X d_Mo_birds_37 (by decide) (by decide) rfl h (fun h => ?_)
      refine V_iload_n X 0 d_Mo_birds_38 rfl ?_
      have h9 := wp_some h
      exact hQ _ _ h9 (fun h9 => absurd h9 (by decide)) _ _ d_Mo_birds_39
    · skip
      refine V_bipush (v := -102) X d_Mo_birds_21 (by decide) ?_
      have h9 := wp_some h
      exact hQ _ _ h9 (fun h9 => absurd h9 (by decide)) _ _ d_Mo_birds_23
  · skip
    refine V_bipush (v := -101) X d_Mo_birds_8 (by decide) ?_
    have h9 := wp_some h
    exact hQ _ _ h9 (fun h9 => absurd h9 (by decide)) _ _ d_Mo_birds_10
set_option maxHeartbeats 4000000 in
set_option maxRecDepth 100000 in
theorem k_Mo_blank (σ : Sg) (r : Int32) (σ' : Sg) (h : Mo_blank σ = some (r, σ')) : Evc y_Mo_blank prog_13_method_8_code 2 (some .int) 1 (fun ad => [Value.ref (ad 91)]) σ σ' (fun _ => some (.int r)) := by
  refine Evc_ofI (by decide) (fun ad => Nat.le_of_ble_eq_true rfl) (fun p l e R s m args below meth c D ad cI cB A Q X hQ => ?_)
  have X : Cx p R s m args meth c jR10 prog_13_method_8_code 2 1 D ad cI cB A 0 0 := X
  have h : wpO (Mo_blank σ) (fun q => q = (r, σ')) := ⟨_, h, rfl⟩
  rw [Mo_blank] at h
  refine V_sub (lv' := [(0, Value.ref (ad 91))]) [0] rfl ?_
  refine V_aload_n X 0 d_Mo_blank_0 rfl ?_
  refine V_getI X 10 17 rfl ji10 (by decide) (by decide) (by decide) fl_Mo_87 d_Mo_blank_1 (by decide) (by decide) (by decide) ?_
  refine V_istore_n X [(1, Value.int (gF σ 91 17)), (0, Value.ref (ad 91))] d_Mo_blank_4 (by decide) rfl ?_
  refine V_aload_n X 1 d_Mo_blank_5 rfl ?_
  refine V_iconst (v := 0) X d_Mo_blank_6 (by decide) ?_
  refine V_putI X 10 17 rfl ji10 jk10 jn10 (by decide) (by decide) (by decide) rfl (by decide +kernel) fl_Mo_87 d_Mo_blank_7 (by decide) (by decide) (by decide) ?_
  refine V_iload_n X 0 d_Mo_blank_10 rfl ?_
  have h9 := wp_some h
  exact hQ _ _ h9 (fun h9 => absurd h9 (by decide)) _ _ d_Mo_blank_11
