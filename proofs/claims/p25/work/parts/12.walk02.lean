set_option maxHeartbeats 4000000 in
set_option maxRecDepth 100000 in
theorem Rd_readInto_L11_ok {p : Program} {l : Launch} {e : Env} {R : Room} {s : State} {m : MethodId} {args : Array Value} {below : List Frame} {meth : Method} {c : Code} {D : va_G} {ad : Nat → Nat} {cI cB : ClassId} {A : Nat → Prop} {cells slots : Nat} {Q : State → Prop} (X : Cx p R s m args meth c jR2 prog_8_method_4_code 6 6 D ad cI cB A cells slots) (fu : Nat) (q0 : Nat) (hl_q0 : q0 < 93) (hc_q0 : jv_cls q0 = 3) (kont : (Int32 → Sg → Option Sg)) {K : Sg → Prop} (hQ : RV p l e R s m args below meth c 6 D ad cI cB A cells slots Q prog_8_method_4_code K) (hk : ∀ (l2 : Int32) (σ : Sg), wpO (kont l2 σ) K → V p l e R s m args below meth c 6 D A cells slots Q (wl ad cI cB σ) 51 [(0, Value.ref (ad 4)), (1, Value.ref (ad q0)), (2, Value.int l2)] []) : ∀ (n : Nat) (l2 : Int32) (σ : Sg), wpO (Rd_readInto_L11 fu q0 kont n l2 σ) K → V p l e R s m args below meth c 6 D A cells slots Q (wl ad cI cB σ) 11 [(0, Value.ref (ad 4)), (1, Value.ref (ad q0)), (2, Value.int l2)] [] := by
  intro n
  induction n with
  | zero =>
    intro l2 σ h
    exact (wp_none h).elim
  | succ n ih =>
    intro l2 σ h
    rw [Rd_readInto_L11] at h
    refine V_iload_n X 2 d_Rd_readInto_11 rfl ?_
    refine V_aload_n X 0 d_Rd_readInto_12 rfl ?_
    refine V_getI X 2 2 rfl ji2 (by decide) (by decide) (by decide) fl_Rd_19 d_Rd_readInto_13 (by decide) (by decide) (by decide) ?_
    refine V_icmp_ge X 51 d_Rd_readInto_16 (by decide) h (fun c2 h => ?_) (fun c2 h => ?_)
    · skip
      exact hk l2 σ h
    · skip
      refine V_iconst (v := 3) X d_Rd_readInto_19 (by decide) ?_
      refine V_iload_n X 2 d_Rd_readInto_20 rfl ?_
      refine V_imul X d_Rd_readInto_21 ?_
      refine V_istore_n X [(3, Value.int ((3 : Int32) * l2)), (0, Value.ref (ad 4)), (1, Value.ref (ad q0)), (2, Value.int l2)] d_Rd_readInto_22 (by decide) rfl ?_
      refine V_aload_n X 2 d_Rd_readInto_23 rfl ?_
      refine V_aload_n X 1 d_Rd_readInto_24 rfl ?_
      refine V_getR X 2 0 1 rfl ji2 (by decide) (by decide) (by decide) fl_Rd_9 d_Rd_readInto_25 (by decide) (by decide) (by decide) (by decide) ?_
      refine V_iload_n X 0 d_Rd_readInto_28 rfl ?_
      refine V_cI X h (fun r3 q => C_V (q := 1) X [Value.int ((3 : Int32) * l2)] mt_Pg_digit ms_Pg_digit ml_Rd_47 (k_Pg_digit σ ((3 : Int32) * l2) r3 q) rfl rfl (by omega) (Nat.le_of_ble_eq_true rfl) rfl (by decide) (by decide) (by decide) d_Rd_readInto_29) (fun r3 h => ?_)
      refine V_aload_n X 1 d_Rd_readInto_32 rfl ?_
      refine V_getR X 2 0 1 rfl ji2 (by decide) (by decide) (by decide) fl_Rd_9 d_Rd_readInto_33 (by decide) (by decide) (by decide) (by decide) ?_
      refine V_iload_n X 0 d_Rd_readInto_36 rfl ?_
      refine V_iconst (v := 1) X d_Rd_readInto_37 (by decide) ?_
      refine V_iadd X d_Rd_readInto_38 ?_
      refine V_cI X h (fun r4 q => C_V (q := 1) X [Value.int (((3 : Int32) * l2) + (1 : Int32))] mt_Pg_digit ms_Pg_digit ml_Rd_47 (k_Pg_digit σ (((3 : Int32) * l2) + (1 : Int32)) r4 q) rfl rfl (by omega) (Nat.le_of_ble_eq_true rfl) rfl (by decide) (by decide) (by decide) d_Rd_readInto_39) (fun r4 h => ?_)
      refine V_cV X h (fun s5 q => C_V (q := 3) X [Value.int r3, Value.int r4] mt_Sh_addTree ms_Sh_addTree ml_Rd_50 (k_Sh_addTree σ q0 hl_q0 hc_q0 r3 r4 s5 q) rfl rfl (by omega) (Nat.le_of_ble_eq_true rfl) rfl hl_q0 hc_q0 (by decide) d_Rd_readInto_42) (fun s5 h => ?_)
      refine V_iinc X 3 (l2 + (1 : Int32)) [(2, Value.int (l2 + (1 : Int32))), (3, Value.int ((3 : Int32) * l2)), (0, Value.ref (ad 4)), (1, Value.ref (ad q0))] d_Rd_readInto_45 rfl (by first | rfl | decide) (by decide) rfl ?_
      refine V_goto X 11 d_Rd_readInto_48 (by decide) ?_
      refine V_sub (lv' := [(0, Value.ref (ad 4)), (1, Value.ref (ad q0)), (2, Value.int (l2 + (1 : Int32)))]) [2, 3, 0] rfl ?_
      exact ih (l2 + (1 : Int32)) s5 h
set_option maxHeartbeats 4000000 in
set_option maxRecDepth 100000 in
theorem Rd_readInto_L53_ok {p : Program} {l : Launch} {e : Env} {R : Room} {s : State} {m : MethodId} {args : Array Value} {below : List Frame} {meth : Method} {c : Code} {D : va_G} {ad : Nat → Nat} {cI cB : ClassId} {A : Nat → Prop} {cells slots : Nat} {Q : State → Prop} (X : Cx p R s m args meth c jR2 prog_8_method_4_code 6 6 D ad cI cB A cells slots) (fu : Nat) (q0 : Nat) (hl_q0 : q0 < 93) (hc_q0 : jv_cls q0 = 3) (kont : (Int32 → Sg → Option Sg)) {K : Sg → Prop} (hQ : RV p l e R s m args below meth c 6 D ad cI cB A cells slots Q prog_8_method_4_code K) (hk : ∀ (l2 : Int32) (σ : Sg), wpO (kont l2 σ) K → V p l e R s m args below meth c 6 D A cells slots Q (wl ad cI cB σ) 153 [(0, Value.ref (ad 4)), (1, Value.ref (ad q0)), (2, Value.int l2)] []) : ∀ (n : Nat) (l2 : Int32) (σ : Sg), wpO (Rd_readInto_L53 fu q0 kont n l2 σ) K → V p l e R s m args below meth c 6 D A cells slots Q (wl ad cI cB σ) 53 [(0, Value.ref (ad 4)), (1, Value.ref (ad q0)), (2, Value.int l2)] [] := by
  intro n
  induction n with
  | zero =>
    intro l2 σ h
    exact (wp_none h).elim
  | succ n ih =>
    intro l2 σ h
    rw [Rd_readInto_L53] at h
    refine V_iload_n X 2 d_Rd_readInto_53 rfl ?_
    refine V_aload_n X 0 d_Rd_readInto_54 rfl ?_
    refine V_getI X 2 3 rfl ji2 (by decide) (by decide) (by decide) fl_Rd_22 d_Rd_readInto_55 (by decide) (by decide) (by decide) ?_
    refine V_icmp_ge X 153 d_Rd_readInto_58 (by decide) h (fun c8 h => ?_) (fun c8 h => ?_)
    · skip
      exact hk l2 σ h
    · skip
      refine V_iconst (v := 3) X d_Rd_readInto_61 (by decide) ?_
      refine V_aload_n X 0 d_Rd_readInto_62 rfl ?_
      refine V_getI X 2 2 rfl ji2 (by decide) (by decide) (by decide) fl_Rd_19 d_Rd_readInto_63 (by decide) (by decide) (by decide) ?_
      refine V_imul X d_Rd_readInto_66 ?_
      refine V_iconst (v := 5) X d_Rd_readInto_67 (by decide) ?_
      refine V_iload_n X 2 d_Rd_readInto_68 rfl ?_
      refine V_imul X d_Rd_readInto_69 ?_
      refine V_iadd X d_Rd_readInto_70 ?_
      refine V_istore_n X [(3, Value.int (((3 : Int32) * (gF σ 4 2)) + ((5 : Int32) * l2))), (0, Value.ref (ad 4)), (1, Value.ref (ad q0)), (2, Value.int l2)] d_Rd_readInto_71 (by decide) rfl ?_
      refine V_ldcS X d_Rd_readInto_72 ?_
      refine V_aload_n X 1 d_Rd_readInto_74 rfl ?_
      refine V_getR X 2 0 1 rfl ji2 (by decide) (by decide) (by decide) fl_Rd_9 d_Rd_readInto_75 (by decide) (by decide) (by decide) (by decide) ?_
      refine V_iload_n X 0 d_Rd_readInto_78 rfl ?_
      refine V_cI X h (fun r9 q => C_V (q := 1) X [Value.int (((3 : Int32) * (gF σ 4 2)) + ((5 : Int32) * l2))] mt_Pg_code ms_Pg_code ml_Rd_31 (k_Pg_code σ (((3 : Int32) * (gF σ 4 2)) + ((5 : Int32) * l2)) r9 q) rfl rfl (by omega) (Nat.le_of_ble_eq_true rfl) rfl (by decide) (by decide) (by decide) d_Rd_readInto_79) (fun r9 h => ?_)
      refine V_i2c X d_Rd_readInto_82 ?_
      refine V_kidx X ml_Rd_56 d_Rd_readInto_83 (by decide) (Nat.le_of_ble_eq_true rfl) ?_
      refine V_istore X [(4, Value.int (kIndex ((r9.toUInt32 % 65536).toInt32))), (3, Value.int (((3 : Int32) * (gF σ 4 2)) + ((5 : Int32) * l2))), (0, Value.ref (ad 4)), (1, Value.ref (ad q0)), (2, Value.int l2)] d_Rd_readInto_86 (by decide) rfl ?_
      refine V_aload_n X 2 d_Rd_readInto_88 rfl ?_
      refine V_getR X 2 0 1 rfl ji2 (by decide) (by decide) (by decide) fl_Rd_9 d_Rd_readInto_89 (by decide) (by decide) (by decide) (by decide) ?_
      refine V_iload_n X 1 d_Rd_readInto_92 rfl ?_
      refine V_iconst (v := 3) X d_Rd_readInto_93 (by decide) ?_
      refine V_iadd X d_Rd_readInto_94 ?_
      refine V_cI X h (fun r10 q => C_V (q := 1) X [Value.int ((((3 : Int32) * (gF σ 4 2)) + ((5 : Int32) * l2)) + (3 : Int32))] mt_Pg_code ms_Pg_code ml_Rd_31 (k_Pg_code σ ((((3 : Int32) * (gF σ 4 2)) + ((5 : Int32) * l2)) + (3 : Int32)) r10 q) rfl rfl (by omega) (Nat.le_of_ble_eq_true rfl) rfl (by decide) (by decide) (by decide) d_Rd_readInto_95) (fun r10 h => ?_)
      refine V_bipush (v := 45) X d_Rd_readInto_98 (by decide) ?_
      refine V_icmp_ne X 107 d_Rd_readInto_100 (by decide) h (fun c11 h => ?_) (fun c11 h => ?_)
      · skip
        refine V_aload_n X 2 d_Rd_readInto_107 rfl ?_
        refine V_getR X 2 0 1 rfl ji2 (by decide) (by decide) (by decide) fl_Rd_9 d_Rd_readInto_108 (by decide) (by decide) (by decide) (by decide) ?_
        refine V_iload_n X 1 d_Rd_readInto_111 rfl ?_
        refine V_iconst (v := 3) X d_Rd_readInto_112 (by decide) ?_
        refine V_iadd X d_Rd_readInto_113 ?_
        refine V_cI X h (fun r12 q => C_V (q := 1) X [Value.int ((((3 : Int32) * (gF σ 4 2)) + ((5 : Int32) * l2)) + (3 : Int32))] mt_Pg_digit ms_Pg_digit ml_Rd_47 (k_Pg_digit σ ((((3 : Int32) * (gF σ 4 2)) + ((5 : Int32) * l2)) + (3 : Int32)) r12 q) rfl rfl (by omega) (Nat.le_of_ble_eq_true rfl) rfl (by decide) (by decide) (by decide) d_Rd_readInto_114) (fun r12 h => ?_)
        refine V_istore X [(5, Value.int r12), (4, Value.int (kIndex ((r9.toUInt32 % 65536).toInt32))), (3, Value.int (((3 : Int32) * (gF σ 4 2)) + ((5 : Int32) * l2))), (0, Value.ref (ad 4)), (1, Value.ref (ad q0)), (2, Value.int l2)] d_Rd_readInto_117 (by decide) rfl ?_
        refine V_aload_n X 4 d_Rd_readInto_119 rfl ?_
        refine V_iload X 1 d_Rd_readInto_120 rfl ?_
        refine V_aload_n X 3 d_Rd_readInto_122 rfl ?_
        refine V_getR X 2 0 1 rfl ji2 (by decide) (by decide) (by decide) fl_Rd_9 d_Rd_readInto_123 (by decide) (by decide) (by decide) (by decide) ?_
        refine V_iload_n X 2 d_Rd_readInto_126 rfl ?_
        refine V_iconst (v := 1) X d_Rd_readInto_127 (by decide) ?_
        refine V_iadd X d_Rd_readInto_128 ?_
        refine V_cI X h (fun r13 q => C_V (q := 1) X [Value.int ((((3 : Int32) * (gF σ 4 2)) + ((5 : Int32) * l2)) + (1 : Int32))] mt_Pg_digit ms_Pg_digit ml_Rd_47 (k_Pg_digit σ ((((3 : Int32) * (gF σ 4 2)) + ((5 : Int32) * l2)) + (1 : Int32)) r13 q) rfl rfl (by omega) (Nat.le_of_ble_eq_true rfl) rfl (by decide) (by decide) (by decide) d_Rd_readInto_129) (fun r13 h => ?_)
        refine V_aload_n X 3 d_Rd_readInto_132 rfl ?_
        refine V_getR X 2 0 1 rfl ji2 (by decide) (by decide) (by decide) fl_Rd_9 d_Rd_readInto_133 (by decide) (by decide) (by decide) (by decide) ?_
        refine V_iload_n X 2 d_Rd_readInto_136 rfl ?_
        refine V_iconst (v := 2) X d_Rd_readInto_137 (by decide) ?_
        refine V_iadd X d_Rd_readInto_138 ?_
        refine V_cI X h (fun r14 q => C_V (q := 1) X [Value.int ((((3 : Int32) * (gF σ 4 2)) + ((5 : Int32) * l2)) + (2 : Int32))] mt_Pg_digit ms_Pg_digit ml_Rd_47 (k_Pg_digit σ ((((3 : Int32) * (gF σ 4 2)) + ((5 : Int32) * l2)) + (2 : Int32)) r14 q) rfl rfl (by omega) (Nat.le_of_ble_eq_true rfl) rfl (by decide) (by decide) (by decide) d_Rd_readInto_139) (fun r14 h => ?_)
        refine V_iload X 0 d_Rd_readInto_142 rfl ?_
        refine V_cV X h (fun s15 q => C_V (q := 3) X [Value.int (kIndex ((r9.toUInt32 % 65536).toInt32)), Value.int r13, Value.int r14, Value.int r12] mt_Sh_addSuit ms_Sh_addSuit ml_Rd_61 (k_Sh_addSuit fu σ q0 hl_q0 hc_q0 (kIndex ((r9.toUInt32 % 65536).toInt32)) r13 r14 r12 s15 q) rfl rfl (by omega) (Nat.le_of_ble_eq_true rfl) rfl hl_q0 hc_q0 (by decide) d_Rd_readInto_144) (fun s15 h => ?_)
        refine V_iinc X 5 (l2 + (1 : Int32)) [(2, Value.int (l2 + (1 : Int32))), (5, Value.int r12), (4, Value.int (kIndex ((r9.toUInt32 % 65536).toInt32))), (3, Value.int (((3 : Int32) * (gF σ 4 2)) + ((5 : Int32) * l2))), (0, Value.ref (ad 4)), (1, Value.ref (ad q0))] d_Rd_readInto_147 rfl (by first | rfl | decide) (by decide) rfl ?_
        refine V_goto X 53 d_Rd_readInto_150 (by decide) ?_
        refine V_sub (lv' := [(0, Value.ref (ad 4)), (1, Value.ref (ad q0)), (2, Value.int (l2 + (1 : Int32)))]) [4, 5, 0] rfl ?_
        exact ih (l2 + (1 : Int32)) s15 h
      · skip
        refine V_iconst (v := -1) X d_Rd_readInto_103 (by decide) ?_
        refine V_goto X 117 d_Rd_readInto_104 (by decide) ?_
        refine V_istore X [(5, Value.int (-1 : Int32)), (4, Value.int (kIndex ((r9.toUInt32 % 65536).toInt32))), (3, Value.int (((3 : Int32) * (gF σ 4 2)) + ((5 : Int32) * l2))), (0, Value.ref (ad 4)), (1, Value.ref (ad q0)), (2, Value.int l2)] d_Rd_readInto_117 (by decide) rfl ?_
        refine V_aload_n X 4 d_Rd_readInto_119 rfl ?_
        refine V_iload X 1 d_Rd_readInto_120 rfl ?_
        refine V_aload_n X 3 d_Rd_readInto_122 rfl ?_
        refine V_getR X 2 0 1 rfl ji2 (by decide) (by decide) (by decide) fl_Rd_9 d_Rd_readInto_123 (by decide) (by decide) (by decide) (by decide) ?_
        refine V_iload_n X 2 d_Rd_readInto_126 rfl ?_
        refine V_iconst (v := 1) X d_Rd_readInto_127 (by decide) ?_
        refine V_iadd X d_Rd_readInto_128 ?_
        refine V_cI X h (fun r16 q => C_V (q := 1) X [Value.int ((((3 : Int32) * (gF σ 4 2)) + ((5 : Int32) * l2)) + (1 : Int32))] mt_Pg_digit ms_Pg_digit ml_Rd_47 (k_Pg_digit σ ((((3 : Int32) * (gF σ 4 2)) + ((5 : Int32) * l2)) + (1 : Int32)) r16 q) rfl rfl (by omega) (Nat.le_of_ble_eq_true rfl) rfl (by decide) (by decide) (by decide) d_Rd_readInto_129) (fun r16 h => ?_)
        refine V_aload_n X 3 d_Rd_readInto_132 rfl ?_
        refine V_getR X 2 0 1 rfl ji2 (by decide) (by decide) (by decide) fl_Rd_9 d_Rd_readInto_133 (by decide) (by decide) (by decide) (by decide) ?_
        refine V_iload_n X 2 d_Rd_readInto_136 rfl ?_
        refine V_iconst (v := 2) X d_Rd_readInto_137 (by decide) ?_
        refine V_iadd X d_Rd_readInto_138 ?_
        refine V_cI X h (fun r17 q => C_V (q := 1) X [Value.int ((((3 : Int32) * (gF σ 4 2)) + ((5 : Int32) * l2)) + (2 : Int32))] mt_Pg_digit ms_Pg_digit ml_Rd_47 (k_Pg_digit σ ((((3 : Int32) * (gF σ 4 2)) + ((5 : Int32) * l2)) + (2 : Int32)) r17 q) rfl rfl (by omega) (Nat.le_of_ble_eq_true rfl) rfl (by decide) (by decide) (by decide) d_Rd_readInto_139) (fun r17 h => ?_)
        refine V_iload X 0 d_Rd_readInto_142 rfl ?_
        refine V_cV X h (fun s18 q => C_V (q := 3) X [Value.int (kIndex ((r9.toUInt32 % 65536).toInt32)), Value.int r16, Value.int r17, Value.int (-1 : Int32)] mt_Sh_addSuit ms_Sh_addSuit ml_Rd_61 (k_Sh_addSuit fu σ q0 hl_q0 hc_q0 (kIndex ((r9.toUInt32 % 65536).toInt32)) r16 r17 (-1 : Int32) s18 q) rfl rfl (by omega) (Nat.le_of_ble_eq_true rfl) rfl hl_q0 hc_q0 (by decide) d_Rd_readInto_144) (fun s18 h => ?_)
        refine V_iinc X 5 (l2 + (1 : Int32)) [(2, Value.int (l2 + (1 : Int32))), (5, Value.int (-1 : Int32)), (4, Value.int (kIndex ((r9.toUInt32 % 65536).toInt32))), (3, Value.int (((3 : Int32) * (gF σ 4 2)) + ((5 : Int32) * l2))), (0, Value.ref (ad 4)), (1, Value.ref (ad q0))] d_Rd_readInto_147 rfl (by first | rfl | decide) (by decide) rfl ?_
        refine V_goto X 53 d_Rd_readInto_150 (by decide) ?_
        refine V_sub (lv' := [(0, Value.ref (ad 4)), (1, Value.ref (ad q0)), (2, Value.int (l2 + (1 : Int32)))]) [4, 5, 0] rfl ?_
        exact ih (l2 + (1 : Int32)) s18 h
set_option maxHeartbeats 4000000 in
set_option maxRecDepth 100000 in
theorem k_Rd_readInto (fu : Nat) (σ : Sg) (q0 : Nat) (hl_q0 : q0 < 93) (hc_q0 : jv_cls q0 = 3) (σ' : Sg) (h : Rd_readInto fu σ q0 = some σ') : Evc y_Rd_readInto prog_8_method_4_code 6 (none) 6 (fun ad => [Value.ref (ad 4), Value.ref (ad q0)]) σ σ' (fun _ => none) := by
  refine Evc_ofV (by decide) (fun ad => Nat.le_of_ble_eq_true rfl) (fun p l e R s m args below meth c D ad cI cB A Q X hQ => ?_)
  have X : Cx p R s m args meth c jR2 prog_8_method_4_code 6 6 D ad cI cB A 0 0 := X
  have h : wpO (Rd_readInto fu σ q0) (fun q => q = σ') := ⟨_, h, rfl⟩
  rw [Rd_readInto] at h
  refine V_sub (lv' := [(0, Value.ref (ad 4)), (1, Value.ref (ad q0))]) [0, 1] rfl ?_
  refine V_aload_n X 1 d_Rd_readInto_0 rfl ?_
  refine V_ifnonnull X 5 d_Rd_readInto_1 (by decide) ?_
  refine V_aload_n X 1 d_Rd_readInto_5 rfl ?_
  refine V_cV X h (fun s1 q => C_V (q := 3) X [] mt_Sh_begin ms_Sh_begin ml_Rd_42 (k_Sh_begin σ q0 hl_q0 hc_q0 s1 q) rfl rfl (by omega) (Nat.le_of_ble_eq_true rfl) rfl hl_q0 hc_q0 (by decide) d_Rd_readInto_6) (fun s1 h => ?_)
  refine V_iconst (v := 0) X d_Rd_readInto_9 (by decide) ?_
  refine V_istore_n X [(2, Value.int (0 : Int32)), (0, Value.ref (ad 4)), (1, Value.ref (ad q0))] d_Rd_readInto_10 (by decide) rfl ?_
  refine V_sub (lv' := [(0, Value.ref (ad 4)), (1, Value.ref (ad q0)), (2, Value.int (0 : Int32))]) [1, 2, 0] rfl ?_
  refine Rd_readInto_L11_ok X fu q0 hl_q0 hc_q0 _ hQ (fun l2_6 s7 h => ?_) fu (0 : Int32) s1 h
  refine V_iconst (v := 0) X d_Rd_readInto_51 (by decide) ?_
  refine V_istore_n X [(2, Value.int (0 : Int32)), (0, Value.ref (ad 4)), (1, Value.ref (ad q0))] d_Rd_readInto_52 (by decide) rfl ?_
  refine V_sub (lv' := [(0, Value.ref (ad 4)), (1, Value.ref (ad q0)), (2, Value.int (0 : Int32))]) [1, 2, 0] rfl ?_
  refine Rd_readInto_L53_ok X fu q0 hl_q0 hc_q0 _ hQ (fun l2_19 s20 h => ?_) fu (0 : Int32) s7 h
  have h9 := wp_some h
  exact hQ _ h9 _ _ d_Rd_readInto_153
set_option maxHeartbeats 4000000 in
set_option maxRecDepth 100000 in
theorem k_Pg_clear (σ : Sg) (σ' : Sg) (h : Pg_clear σ = some σ') : Evc y_Pg_clear prog_6_method_6_code 1 (none) 1 (fun ad => [Value.ref (ad 1)]) σ σ' (fun _ => none) := by
  refine Evc_ofV (by decide) (fun ad => Nat.le_of_ble_eq_true rfl) (fun p l e R s m args below meth c D ad cI cB A Q X hQ => ?_)
  have X : Cx p R s m args meth c jR1 prog_6_method_6_code 1 1 D ad cI cB A 0 0 := X
  have h : wpO (Pg_clear σ) (fun q => q = σ') := ⟨_, h, rfl⟩
  rw [Pg_clear] at h
  refine V_sub (lv' := [(0, Value.ref (ad 1))]) [0] rfl ?_
  refine V_aload_n X 0 d_Pg_clear_0 rfl ?_
  refine V_iconst (v := 0) X d_Pg_clear_1 (by decide) ?_
  refine V_putI X 1 1 rfl ji1 jk1 jn1 (by decide) (by decide) (by decide) rfl (by decide +kernel) fl_Pg_20 d_Pg_clear_2 (by decide) (by decide) (by decide) ?_
  have h9 := wp_some h
  exact hQ _ h9 _ _ d_Pg_clear_5
set_option maxHeartbeats 4000000 in
set_option maxRecDepth 100000 in
theorem k_Co_shire (fu : Nat) (σ : Sg) (r : Int32) (σ' : Sg) (h : Co_shire fu σ = some (r, σ')) : Evc y_Co_shire prog_1_method_5_code 1 (some .int) 9 (fun ad => [Value.ref (ad 0)]) σ σ' (fun _ => some (.int r)) := by
  refine Evc_ofI (by decide) (fun ad => Nat.le_of_ble_eq_true rfl) (fun p l e R s m args below meth c D ad cI cB A Q X hQ => ?_)
  have X : Cx p R s m args meth c jR0 prog_1_method_5_code 1 9 D ad cI cB A 0 0 := X
  have h : wpO (Co_shire fu σ) (fun q => q = (r, σ')) := ⟨_, h, rfl⟩
  rw [Co_shire] at h
  refine V_sub (lv' := [(0, Value.ref (ad 0))]) [0] rfl ?_
  refine V_aload_n X 0 d_Co_shire_0 rfl ?_
  refine V_getR X 0 1 4 rfl ji0 (by decide) (by decide) (by decide) fl_Co_21 d_Co_shire_1 (by decide) (by decide) (by decide) (by decide) ?_
  refine V_cP X h (fun r1 s2 q => C_V (q := 2) X [] mt_Rd_isWholeShire ms_Rd_isWholeShire ml_Co_79 (k_Rd_isWholeShire fu σ r1 s2 q) rfl rfl (by omega) (Nat.le_of_ble_eq_true rfl) rfl (by decide) (by decide) (by decide) d_Co_shire_4) (fun r1 s2 h => ?_)
  refine V_if_ne X 13 d_Co_shire_7 (by decide) h (fun c3 h => ?_) (fun c3 h => ?_)
  · skip
    refine V_aload_n X 0 d_Co_shire_13 rfl ?_
    refine V_getR X 0 1 4 rfl ji0 (by decide) (by decide) (by decide) fl_Co_21 d_Co_shire_14 (by decide) (by decide) (by decide) (by decide) ?_
    refine V_aload_n X 0 d_Co_shire_17 rfl ?_
    refine V_getR X 0 2 5 rfl ji0 (by decide) (by decide) (by decide) fl_Co_28 d_Co_shire_18 (by decide) (by decide) (by decide) (by decide) ?_
    refine V_cV X h (fun s4 q => C_V (q := 2) X [Value.ref (ad 5)] mt_Rd_readInto ms_Rd_readInto ml_Co_83 (k_Rd_readInto fu s2 5 (by decide) (by decide) s4 q) rfl rfl (by omega) (Nat.le_of_ble_eq_true rfl) rfl (by decide) (by decide) (by decide) d_Co_shire_21) (fun s4 h => ?_)
    refine V_aload_n X 0 d_Co_shire_24 rfl ?_
    refine V_getR X 0 0 1 rfl ji0 (by decide) (by decide) (by decide) fl_Co_10 d_Co_shire_25 (by decide) (by decide) (by decide) (by decide) ?_
    refine V_cV X h (fun s5 q => C_V (q := 1) X [] mt_Pg_clear ms_Pg_clear ml_Co_73 (k_Pg_clear s4 s5 q) rfl rfl (by omega) (Nat.le_of_ble_eq_true rfl) rfl (by decide) (by decide) (by decide) d_Co_shire_28) (fun s5 h => ?_)
    refine V_aload_n X 0 d_Co_shire_31 rfl ?_
    refine V_iconst (v := 0) X d_Co_shire_32 (by decide) ?_
    refine V_putZ X 0 8 (by decide) rfl ji0 jk0 jn0 (by decide) (by decide) (by decide) rfl (by decide +kernel) fl_Co_86 d_Co_shire_33 (by decide) (by decide) (by decide) ?_
    refine V_aload_n X 0 d_Co_shire_36 rfl ?_
    refine V_dup X d_Co_shire_37 rfl ?_
    refine V_getI X 0 9 rfl ji0 (by decide) (by decide) (by decide) fl_Co_90 d_Co_shire_38 (by decide) (by decide) (by decide) ?_
    refine V_iconst (v := 1) X d_Co_shire_41 (by decide) ?_
    refine V_iadd X d_Co_shire_42 ?_
    refine V_putI X 0 9 rfl ji0 jk0 jn0 (by decide) (by decide) (by decide) rfl (by decide +kernel) fl_Co_90 d_Co_shire_43 (by decide) (by decide) (by decide) ?_
    refine V_aload_n X 0 d_Co_shire_46 rfl ?_
    refine V_getR X 0 2 5 rfl ji0 (by decide) (by decide) (by decide) fl_Co_28 d_Co_shire_47 (by decide) (by decide) (by decide) (by decide) ?_
    refine V_cI X h (fun r6 q => C_V (q := 3) X [] mt_Sh_suits ms_Sh_suits ml_Co_94 (k_Sh_suits (sF (sF s5 0 8 (0 : Int32)) 0 9 ((gF (sF s5 0 8 (0 : Int32)) 0 9) + (1 : Int32))) 5 (by decide) (by decide) r6 q) rfl rfl (by omega) (Nat.le_of_ble_eq_true rfl) rfl (by decide) (by decide) (by decide) d_Co_shire_50) (fun r6 h => ?_)
    have h9 := wp_some h
    exact hQ _ _ h9 (fun h9 => absurd h9 (by decide)) _ _ d_Co_shire_53
  · skip
    refine V_bipush (v := -103) X d_Co_shire_10 (by decide) ?_
    have h9 := wp_some h
    exact hQ _ _ h9 (fun h9 => absurd h9 (by decide)) _ _ d_Co_shire_12
set_option maxHeartbeats 4000000 in
set_option maxRecDepth 100000 in
theorem k_Sh_kind (σ : Sg) (k : Nat) (hl_k : k < 93) (hc_k : jv_cls k = 3) (a0 : Int32) (r : Int32) (h : Sh_kind σ k a0 = some r) : Evc y_Sh_kind prog_10_method_18_code 2 (some .int) 2 (fun ad => [Value.ref (ad k), Value.int a0]) σ σ (fun _ => some (.int r)) := by
  refine Evc_ofI (by decide) (fun ad => Nat.le_of_ble_eq_true rfl) (fun p l e R s m args below meth c D ad cI cB A Q X hQ => ?_)
  have X : Cx p R s m args meth c jR3 prog_10_method_18_code 2 2 D ad cI cB A 0 0 := X
  have hQ := hQ.pure
  have h : wpO (Sh_kind σ k a0) (fun q => q = r) := ⟨_, h, rfl⟩
  rw [Sh_kind] at h
  refine V_sub (lv' := [(0, Value.ref (ad k)), (1, Value.int a0)]) [0, 1] rfl ?_
  refine V_aload_n X 0 d_Sh_kind_0 rfl ?_
  refine V_getR X 3 4 (k + 5) rfl ji3 (by decide) (by decide) (by decide) fl_Sh_23 d_Sh_kind_1 hl_k hc_k (by decide) (jl_sh4 k hl_k hc_k).2.2 ?_
  refine V_iload_n X 1 d_Sh_kind_4 rfl ?_
  refine V_cI X h (fun r1 q => C_V (q := 9) X [Value.int a0] mt_Rw_at ms_Rw_at ml_Sh_71 (k_Rw_at σ (k + 5) (jl_sh4 k hl_k hc_k).1 (jl_sh4 k hl_k hc_k).2.1 a0 r1 q) rfl rfl (by omega) (Nat.le_of_ble_eq_true rfl) rfl (jl_sh4 k hl_k hc_k).1 (jl_sh4 k hl_k hc_k).2.1 (by decide) d_Sh_kind_5) (fun r1 h => ?_)
  have h9 := wp_some h
  exact hQ _ h9 (fun h9 => absurd h9 (by decide)) _ _ d_Sh_kind_8
set_option maxHeartbeats 4000000 in
set_option maxRecDepth 100000 in
theorem k_Sh_need (σ : Sg) (k : Nat) (hl_k : k < 93) (hc_k : jv_cls k = 3) (a0 : Int32) (r : Int32) (h : Sh_need σ k a0 = some r) : Evc y_Sh_need prog_10_method_19_code 2 (some .int) 2 (fun ad => [Value.ref (ad k), Value.int a0]) σ σ (fun _ => some (.int r)) := by
  refine Evc_ofI (by decide) (fun ad => Nat.le_of_ble_eq_true rfl) (fun p l e R s m args below meth c D ad cI cB A Q X hQ => ?_)
  have X : Cx p R s m args meth c jR3 prog_10_method_19_code 2 2 D ad cI cB A 0 0 := X
  have hQ := hQ.pure
  have h : wpO (Sh_need σ k a0) (fun q => q = r) := ⟨_, h, rfl⟩
  rw [Sh_need] at h
  refine V_sub (lv' := [(0, Value.ref (ad k)), (1, Value.int a0)]) [0, 1] rfl ?_
  refine V_aload_n X 0 d_Sh_need_0 rfl ?_
  refine V_getR X 3 5 (k + 7) rfl ji3 (by decide) (by decide) (by decide) fl_Sh_26 d_Sh_need_1 hl_k hc_k (by decide) (jl_sh5 k hl_k hc_k).2.2 ?_
  refine V_iload_n X 1 d_Sh_need_4 rfl ?_
  refine V_cI X h (fun r1 q => C_V (q := 9) X [Value.int a0] mt_Rw_at ms_Rw_at ml_Sh_71 (k_Rw_at σ (k + 7) (jl_sh5 k hl_k hc_k).1 (jl_sh5 k hl_k hc_k).2.1 a0 r1 q) rfl rfl (by omega) (Nat.le_of_ble_eq_true rfl) rfl (jl_sh5 k hl_k hc_k).1 (jl_sh5 k hl_k hc_k).2.1 (by decide) d_Sh_need_5) (fun r1 h => ?_)
  have h9 := wp_some h
  exact hQ _ h9 (fun h9 => absurd h9 (by decide)) _ _ d_Sh_need_8
set_option maxHeartbeats 4000000 in
set_option maxRecDepth 100000 in
theorem k_Sh_hangsOn (σ : Sg) (k : Nat) (hl_k : k < 93) (hc_k : jv_cls k = 3) (a0 : Int32) (r : Int32) (h : Sh_hangsOn σ k a0 = some r) : Evc y_Sh_hangsOn prog_10_method_21_code 2 (some .int) 2 (fun ad => [Value.ref (ad k), Value.int a0]) σ σ (fun _ => some (.int r)) := by
  refine Evc_ofI (by decide) (fun ad => Nat.le_of_ble_eq_true rfl) (fun p l e R s m args below meth c D ad cI cB A Q X hQ => ?_)
  have X : Cx p R s m args meth c jR3 prog_10_method_21_code 2 2 D ad cI cB A 0 0 := X
  have hQ := hQ.pure
  have h : wpO (Sh_hangsOn σ k a0) (fun q => q = r) := ⟨_, h, rfl⟩
  rw [Sh_hangsOn] at h
  refine V_sub (lv' := [(0, Value.ref (ad k)), (1, Value.int a0)]) [0, 1] rfl ?_
  refine V_aload_n X 0 d_Sh_hangsOn_0 rfl ?_
  refine V_getR X 3 7 (k + 11) rfl ji3 (by decide) (by decide) (by decide) fl_Sh_32 d_Sh_hangsOn_1 hl_k hc_k (by decide) (jl_sh7 k hl_k hc_k).2.2 ?_
  refine V_iload_n X 1 d_Sh_hangsOn_4 rfl ?_
  refine V_cI X h (fun r1 q => C_V (q := 9) X [Value.int a0] mt_Rw_at ms_Rw_at ml_Sh_71 (k_Rw_at σ (k + 11) (jl_sh7 k hl_k hc_k).1 (jl_sh7 k hl_k hc_k).2.1 a0 r1 q) rfl rfl (by omega) (Nat.le_of_ble_eq_true rfl) rfl (jl_sh7 k hl_k hc_k).1 (jl_sh7 k hl_k hc_k).2.1 (by decide) d_Sh_hangsOn_5) (fun r1 h => ?_)
  have h9 := wp_some h
  exact hQ _ h9 (fun h9 => absurd h9 (by decide)) _ _ d_Sh_hangsOn_8
set_option maxHeartbeats 4000000 in
set_option maxRecDepth 100000 in
theorem k_Sh_below (σ : Sg) (k : Nat) (hl_k : k < 93) (hc_k : jv_cls k = 3) (a0 : Int32) (r : Int32) (h : Sh_below σ k a0 = some r) : Evc y_Sh_below prog_10_method_22_code 2 (some .int) 2 (fun ad => [Value.ref (ad k), Value.int a0]) σ σ (fun _ => some (.int r)) := by
  refine Evc_ofI (by decide) (fun ad => Nat.le_of_ble_eq_true rfl) (fun p l e R s m args below meth c D ad cI cB A Q X hQ => ?_)
  have X : Cx p R s m args meth c jR3 prog_10_method_22_code 2 2 D ad cI cB A 0 0 := X
  have hQ := hQ.pure
  have h : wpO (Sh_below σ k a0) (fun q => q = r) := ⟨_, h, rfl⟩
  rw [Sh_below] at h
  refine V_sub (lv' := [(0, Value.ref (ad k)), (1, Value.int a0)]) [0, 1] rfl ?_
  refine V_aload_n X 0 d_Sh_below_0 rfl ?_
  refine V_getR X 3 9 (k + 15) rfl ji3 (by decide) (by decide) (by decide) fl_Sh_38 d_Sh_below_1 hl_k hc_k (by decide) (jl_sh9 k hl_k hc_k).2.2 ?_
  refine V_iload_n X 1 d_Sh_below_4 rfl ?_
  refine V_cI X h (fun r1 q => C_V (q := 9) X [Value.int a0] mt_Rw_at ms_Rw_at ml_Sh_71 (k_Rw_at σ (k + 15) (jl_sh9 k hl_k hc_k).1 (jl_sh9 k hl_k hc_k).2.1 a0 r1 q) rfl rfl (by omega) (Nat.le_of_ble_eq_true rfl) rfl (jl_sh9 k hl_k hc_k).1 (jl_sh9 k hl_k hc_k).2.1 (by decide) d_Sh_below_5) (fun r1 h => ?_)
  have h9 := wp_some h
  exact hQ _ h9 (fun h9 => absurd h9 (by decide)) _ _ d_Sh_below_8
set_option maxHeartbeats 4000000 in
set_option maxRecDepth 100000 in
theorem Si_allow_L2_ok {p : Program} {l : Launch} {e : Env} {R : Room} {s : State} {m : MethodId} {args : Array Value} {below : List Frame} {meth : Method} {c : Code} {D : va_G} {ad : Nat → Nat} {cI cB : ClassId} {A : Nat → Prop} {cells slots : Nat} {Q : State → Prop} (X : Cx p R s m args meth c jR4 prog_11_method_6_code 5 2 D ad cI cB A cells slots) (fu : Nat) (k : Nat) (hl_k : k < 93) (hc_k : jv_cls k = 4) (l1 : Int32) (l2 : Int32) (σ : Sg) (kont : (Int32 → Option Int32)) {K : Int32 → Prop} (hQ : RP p l e R s m args below meth c 5 D ad cI cB A cells slots Q prog_11_method_6_code true σ K) (hk : ∀ (l3 : Int32), wpO (kont l3) K → V p l e R s m args below meth c 5 D A cells slots Q (wl ad cI cB σ) 71 [(0, Value.ref (ad k)), (1, Value.int l1), (2, Value.int l2), (3, Value.int l3)] []) : ∀ (n : Nat) (l3 : Int32), wpO (Si_allow_L2 fu k l1 l2 σ kont n l3) K → V p l e R s m args below meth c 5 D A cells slots Q (wl ad cI cB σ) 2 [(0, Value.ref (ad k)), (1, Value.int l1), (2, Value.int l2), (3, Value.int l3)] [] := by
  intro n
  induction n with
  | zero =>
    intro l3 h
    exact (wp_none h).elim
  | succ n ih =>
    intro l3 h
    rw [Si_allow_L2] at h
    refine V_iload_n X 3 d_Si_allow_2 rfl ?_
    refine V_aload_n X 0 d_Si_allow_3 rfl ?_
    refine V_getI X 4 3 rfl ji4 (by decide) (by decide) (by decide) fl_Si_26 d_Si_allow_4 hl_k hc_k (by decide) ?_
    refine V_icmp_ge X 71 d_Si_allow_7 (by decide) h (fun c1 h => ?_) (fun c1 h => ?_)
    · skip
      exact hk l3 h
    · skip
      refine V_aload_n X 0 d_Si_allow_10 rfl ?_
      refine V_getR X 4 1 (k + 3) rfl ji4 (by decide) (by decide) (by decide) fl_Si_20 d_Si_allow_11 hl_k hc_k (by decide) (jl_si1 k hl_k hc_k).2.2 ?_
      refine V_iload_n X 3 d_Si_allow_14 rfl ?_
      refine V_cI X h (fun r2 q => C_V (q := 9) X [Value.int l3] mt_Rw_at ms_Rw_at ml_Si_38 (k_Rw_at σ (k + 3) (jl_si1 k hl_k hc_k).1 (jl_si1 k hl_k hc_k).2.1 l3 r2 q) rfl rfl (by omega) (Nat.le_of_ble_eq_true rfl) rfl (jl_si1 k hl_k hc_k).1 (jl_si1 k hl_k hc_k).2.1 (by decide) d_Si_allow_15) (fun r2 h => ?_)
      refine V_iload_n X 2 d_Si_allow_18 rfl ?_
      refine V_icmp_lt X 26 d_Si_allow_19 (by decide) h (fun c3 h => ?_) (fun c3 h => ?_)
      · skip
        refine V_iconst (v := 0) X d_Si_allow_26 (by decide) ?_
        refine V_istore X [(4, Value.int (0 : Int32)), (0, Value.ref (ad k)), (1, Value.int l1), (2, Value.int l2), (3, Value.int l3)] d_Si_allow_27 (by decide) rfl ?_
        refine V_aload_n X 1 d_Si_allow_29 rfl ?_
        refine V_getR X 4 0 (k + 1) rfl ji4 (by decide) (by decide) (by decide) fl_Si_14 d_Si_allow_30 hl_k hc_k (by decide) (jl_si0 k hl_k hc_k).2.2 ?_
        refine V_iload_n X 4 d_Si_allow_33 rfl ?_
        refine V_cI X h (fun r4 q => C_V (q := 9) X [Value.int l3] mt_Rw_at ms_Rw_at ml_Si_38 (k_Rw_at σ (k + 1) (jl_si0 k hl_k hc_k).1 (jl_si0 k hl_k hc_k).2.1 l3 r4 q) rfl rfl (by omega) (Nat.le_of_ble_eq_true rfl) rfl (jl_si0 k hl_k hc_k).1 (jl_si0 k hl_k hc_k).2.1 (by decide) d_Si_allow_34) (fun r4 h => ?_)
        refine V_iload_n X 2 d_Si_allow_37 rfl ?_
        refine V_icmp_ne X 65 d_Si_allow_38 (by decide) h (fun c5 h => ?_) (fun c5 h => ?_)
        · skip
          refine V_iinc X 4 (l3 + (1 : Int32)) [(3, Value.int (l3 + (1 : Int32))), (4, Value.int (0 : Int32)), (0, Value.ref (ad k)), (1, Value.int l1), (2, Value.int l2)] d_Si_allow_65 rfl (by first | rfl | decide) (by decide) rfl ?_
          refine V_goto X 2 d_Si_allow_68 (by decide) ?_
          refine V_sub (lv' := [(0, Value.ref (ad k)), (1, Value.int l1), (2, Value.int l2), (3, Value.int (l3 + (1 : Int32)))]) [2, 3, 4, 0] rfl ?_
          exact ih (l3 + (1 : Int32)) h
        · skip
          refine V_iload X 0 d_Si_allow_41 rfl ?_
          refine V_aload_n X 1 d_Si_allow_43 rfl ?_
          refine V_getR X 4 2 (k + 5) rfl ji4 (by decide) (by decide) (by decide) fl_Si_23 d_Si_allow_44 hl_k hc_k (by decide) (jl_si2 k hl_k hc_k).2.2 ?_
          refine V_iload_n X 4 d_Si_allow_47 rfl ?_
          refine V_cI X h (fun r6 q => C_V (q := 9) X [Value.int l3] mt_Rw_at ms_Rw_at ml_Si_38 (k_Rw_at σ (k + 5) (jl_si2 k hl_k hc_k).1 (jl_si2 k hl_k hc_k).2.1 l3 r6 q) rfl rfl (by omega) (Nat.le_of_ble_eq_true rfl) rfl (jl_si2 k hl_k hc_k).1 (jl_si2 k hl_k hc_k).2.1 (by decide) d_Si_allow_48) (fun r6 h => ?_)
          refine V_iconst (v := 1) X d_Si_allow_51 (by decide) ?_
          refine V_icmp_ne X 59 d_Si_allow_52 (by decide) h (fun c7 h => ?_) (fun c7 h => ?_)
          · skip
            refine V_iconst (v := 0) X d_Si_allow_59 (by decide) ?_
            refine V_icmp_eq X 65 d_Si_allow_60 (by decide) h (fun c8 h => ?_) (fun c8 h => ?_)
            · skip
              refine V_iinc X 4 (l3 + (1 : Int32)) [(3, Value.int (l3 + (1 : Int32))), (4, Value.int (0 : Int32)), (0, Value.ref (ad k)), (1, Value.int l1), (2, Value.int l2)] d_Si_allow_65 rfl (by first | rfl | decide) (by decide) rfl ?_
              refine V_goto X 2 d_Si_allow_68 (by decide) ?_
              refine V_sub (lv' := [(0, Value.ref (ad k)), (1, Value.int l1), (2, Value.int l2), (3, Value.int (l3 + (1 : Int32)))]) [2, 3, 4, 0] rfl ?_
              exact ih (l3 + (1 : Int32)) h
            · skip
              refine V_iconst (v := 0) X d_Si_allow_63 (by decide) ?_
              have h9 := wp_some h
              exact hQ _ h9 (fun _ => by decide) _ _ d_Si_allow_64
          · skip
            refine V_iconst (v := 1) X d_Si_allow_55 (by decide) ?_
            refine V_goto X 60 d_Si_allow_56 (by decide) ?_
            refine V_icmp_eq X 65 d_Si_allow_60 (by decide) h (fun c9 h => ?_) (fun c9 h => ?_)
            · skip
              refine V_iinc X 4 (l3 + (1 : Int32)) [(3, Value.int (l3 + (1 : Int32))), (4, Value.int (0 : Int32)), (0, Value.ref (ad k)), (1, Value.int l1), (2, Value.int l2)] d_Si_allow_65 rfl (by first | rfl | decide) (by decide) rfl ?_
              refine V_goto X 2 d_Si_allow_68 (by decide) ?_
              refine V_sub (lv' := [(0, Value.ref (ad k)), (1, Value.int l1), (2, Value.int l2), (3, Value.int (l3 + (1 : Int32)))]) [2, 3, 4, 0] rfl ?_
              exact ih (l3 + (1 : Int32)) h
            · skip
              refine V_iconst (v := 0) X d_Si_allow_63 (by decide) ?_
              have h9 := wp_some h
              exact hQ _ h9 (fun _ => by decide) _ _ d_Si_allow_64
      · skip
        refine V_iconst (v := 1) X d_Si_allow_22 (by decide) ?_
        refine V_goto X 27 d_Si_allow_23 (by decide) ?_
        refine V_istore X [(4, Value.int (1 : Int32)), (0, Value.ref (ad k)), (1, Value.int l1), (2, Value.int l2), (3, Value.int l3)] d_Si_allow_27 (by decide) rfl ?_
        refine V_aload_n X 1 d_Si_allow_29 rfl ?_
        refine V_getR X 4 0 (k + 1) rfl ji4 (by decide) (by decide) (by decide) fl_Si_14 d_Si_allow_30 hl_k hc_k (by decide) (jl_si0 k hl_k hc_k).2.2 ?_
        refine V_iload_n X 4 d_Si_allow_33 rfl ?_
        refine V_cI X h (fun r10 q => C_V (q := 9) X [Value.int l3] mt_Rw_at ms_Rw_at ml_Si_38 (k_Rw_at σ (k + 1) (jl_si0 k hl_k hc_k).1 (jl_si0 k hl_k hc_k).2.1 l3 r10 q) rfl rfl (by omega) (Nat.le_of_ble_eq_true rfl) rfl (jl_si0 k hl_k hc_k).1 (jl_si0 k hl_k hc_k).2.1 (by decide) d_Si_allow_34) (fun r10 h => ?_)
        refine V_iload_n X 2 d_Si_allow_37 rfl ?_
        refine V_icmp_ne X 65 d_Si_allow_38 (by decide) h (fun c11 h => ?_) (fun c11 h => ?_)
        · skip
          refine V_iinc X 4 (l3 + (1 : Int32)) [(3, Value.int (l3 + (1 : Int32))), (4, Value.int (1 : Int32)), (0, Value.ref (ad k)), (1, Value.int l1), (2, Value.int l2)] d_Si_allow_65 rfl (by first | rfl | decide) (by decide) rfl ?_
          refine V_goto X 2 d_Si_allow_68 (by decide) ?_
          refine V_sub (lv' := [(0, Value.ref (ad k)), (1, Value.int l1), (2, Value.int l2), (3, Value.int (l3 + (1 : Int32)))]) [2, 3, 4, 0] rfl ?_
          exact ih (l3 + (1 : Int32)) h
        · skip
          refine V_iload X 0 d_Si_allow_41 rfl ?_
          refine V_aload_n X 1 d_Si_allow_43 rfl ?_
          refine V_getR X 4 2 (k + 5) rfl ji4 (by decide) (by decide) (by decide) fl_Si_23 d_Si_allow_44 hl_k hc_k (by decide) (jl_si2 k hl_k hc_k).2.2 ?_
          refine V_iload_n X 4 d_Si_allow_47 rfl ?_
          refine V_cI X h (fun r12 q => C_V (q := 9) X [Value.int l3] mt_Rw_at ms_Rw_at ml_Si_38 (k_Rw_at σ (k + 5) (jl_si2 k hl_k hc_k).1 (jl_si2 k hl_k hc_k).2.1 l3 r12 q) rfl rfl (by omega) (Nat.le_of_ble_eq_true rfl) rfl (jl_si2 k hl_k hc_k).1 (jl_si2 k hl_k hc_k).2.1 (by decide) d_Si_allow_48) (fun r12 h => ?_)
          refine V_iconst (v := 1) X d_Si_allow_51 (by decide) ?_
          refine V_icmp_ne X 59 d_Si_allow_52 (by decide) h (fun c13 h => ?_) (fun c13 h => ?_)
          · skip
            refine V_iconst (v := 0) X d_Si_allow_59 (by decide) ?_
            refine V_icmp_eq X 65 d_Si_allow_60 (by decide) h (fun c14 h => ?_) (fun c14 h => ?_)
            · skip
              refine V_iinc X 4 (l3 + (1 : Int32)) [(3, Value.int (l3 + (1 : Int32))), (4, Value.int (1 : Int32)), (0, Value.ref (ad k)), (1, Value.int l1), (2, Value.int l2)] d_Si_allow_65 rfl (by first | rfl | decide) (by decide) rfl ?_
              refine V_goto X 2 d_Si_allow_68 (by decide) ?_
              refine V_sub (lv' := [(0, Value.ref (ad k)), (1, Value.int l1), (2, Value.int l2), (3, Value.int (l3 + (1 : Int32)))]) [2, 3, 4, 0] rfl ?_
              exact ih (l3 + (1 : Int32)) h
            · skip
              refine V_iconst (v := 0) X d_Si_allow_63 (by decide) ?_
              have h9 := wp_some h
              exact hQ _ h9 (fun _ => by decide) _ _ d_Si_allow_64
          · skip
            refine V_iconst (v := 1) X d_Si_allow_55 (by decide) ?_
            refine V_goto X 60 d_Si_allow_56 (by decide) ?_
            refine V_icmp_eq X 65 d_Si_allow_60 (by decide) h (fun c15 h => ?_) (fun c15 h => ?_)
            · skip
              refine V_iinc X 4 (l3 + (1 : Int32)) [(3, Value.int (l3 + (1 : Int32))), (4, Value.int (1 : Int32)), (0, Value.ref (ad k)), (1, Value.int l1), (2, Value.int l2)] d_Si_allow_65 rfl (by first | rfl | decide) (by decide) rfl ?_
              refine V_goto X 2 d_Si_allow_68 (by decide) ?_
              refine V_sub (lv' := [(0, Value.ref (ad k)), (1, Value.int l1), (2, Value.int l2), (3, Value.int (l3 + (1 : Int32)))]) [2, 3, 4, 0] rfl ?_
              exact ih (l3 + (1 : Int32)) h
            · skip
              refine V_iconst (v := 0) X d_Si_allow_63 (by decide) ?_
              have h9 := wp_some h
              exact hQ _ h9 (fun _ => by decide) _ _ d_Si_allow_64
set_option maxHeartbeats 4000000 in
set_option maxRecDepth 100000 in
theorem k_Si_allow (fu : Nat) (σ : Sg) (k : Nat) (hl_k : k < 93) (hc_k : jv_cls k = 4) (a0 : Int32) (a1 : Int32) (r : Int32) (h : Si_allow fu σ k a0 a1 = some r) : Evc y_Si_allow prog_11_method_6_code 5 (some .boolean) 2 (fun ad => [Value.ref (ad k), Value.int a0, Value.int a1]) σ σ (fun _ => some (.int r)) := by
  refine Evc_ofZ (by decide) (fun ad => Nat.le_of_ble_eq_true rfl) (fun p l e R s m args below meth c D ad cI cB A Q X hQ => ?_)
  have X : Cx p R s m args meth c jR4 prog_11_method_6_code 5 2 D ad cI cB A 0 0 := X
  have hQ := hQ.pure
  have h : wpO (Si_allow fu σ k a0 a1) (fun q => q = r) := ⟨_, h, rfl⟩
  rw [Si_allow] at h
  refine V_sub (lv' := [(0, Value.ref (ad k)), (1, Value.int a0), (2, Value.int a1)]) [0, 1, 2] rfl ?_
  refine V_iconst (v := 0) X d_Si_allow_0 (by decide) ?_
  refine V_istore_n X [(3, Value.int (0 : Int32)), (0, Value.ref (ad k)), (1, Value.int a0), (2, Value.int a1)] d_Si_allow_1 (by decide) rfl ?_
  refine V_sub (lv' := [(0, Value.ref (ad k)), (1, Value.int a0), (2, Value.int a1), (3, Value.int (0 : Int32))]) [1, 2, 3, 0] rfl ?_
  refine Si_allow_L2_ok X fu k hl_k hc_k a0 a1 σ _ hQ (fun l3_16 h => ?_) fu (0 : Int32) h
  refine V_iconst (v := 1) X d_Si_allow_71 (by decide) ?_
  have h9 := wp_some h
  exact hQ _ h9 (fun _ => by decide) _ _ d_Si_allow_72
set_option maxHeartbeats 4000000 in
set_option maxRecDepth 100000 in
theorem Gu_possibleNeeds_L4_ok {p : Program} {l : Launch} {e : Env} {R : Room} {s : State} {m : MethodId} {args : Array Value} {below : List Frame} {meth : Method} {c : Code} {D : va_G} {ad : Nat → Nat} {cI cB : ClassId} {A : Nat → Prop} {cells slots : Nat} {Q : State → Prop} (X : Cx p R s m args meth c jR5 prog_5_method_2_code 4 3 D ad cI cB A cells slots) (fu : Nat) (l1 : Int32) (σ : Sg) (kont : (Int32 → Int32 → Option Int32)) {K : Int32 → Prop} (hQ : RP p l e R s m args below meth c 4 D ad cI cB A cells slots Q prog_5_method_2_code false σ K) (hk : ∀ (l2 : Int32) (l3 : Int32), wpO (kont l2 l3) K → V p l e R s m args below meth c 4 D A cells slots Q (wl ad cI cB σ) 48 [(0, Value.ref (ad 53)), (1, Value.int l1), (2, Value.int l2), (3, Value.int l3)] []) : ∀ (n : Nat) (l2 : Int32) (l3 : Int32), wpO (Gu_possibleNeeds_L4 fu l1 σ kont n l2 l3) K → V p l e R s m args below meth c 4 D A cells slots Q (wl ad cI cB σ) 4 [(0, Value.ref (ad 53)), (1, Value.int l1), (2, Value.int l2), (3, Value.int l3)] [] := by
  intro n
  induction n with
  | zero =>
    intro l2 l3 h
    exact (wp_none h).elim
  | succ n ih =>
    intro l2 l3 h
    rw [Gu_possibleNeeds_L4] at h
    refine V_iload_n X 3 d_Gu_possibleNeeds_4 rfl ?_
    refine V_bipush (v := 9) X d_Gu_possibleNeeds_5 (by decide) ?_
    refine V_icmp_gt X 48 d_Gu_possibleNeeds_7 (by decide) h (fun c1 h => ?_) (fun c1 h => ?_)
    · skip
      exact hk l2 l3 h
    · skip
      refine V_aload_n X 0 d_Gu_possibleNeeds_10 rfl ?_
      refine V_getR X 5 0 5 rfl ji5 (by decide) (by decide) (by decide) fl_Gu_9 d_Gu_possibleNeeds_11 (by decide) (by decide) (by decide) (by decide) ?_
      refine V_cR (t := 22) X (C_V (q := 3) X [] mt_Sh_sightings ms_Sh_sightings ml_Gu_15 (k_Sh_sightings σ 5 (by decide) (by decide)) rfl rfl (by omega) (Nat.le_of_ble_eq_true rfl) rfl (by decide) (by decide) (by decide) d_Gu_possibleNeeds_14) ?_
      refine V_iload_n X 1 d_Gu_possibleNeeds_17 rfl ?_
      refine V_aload_n X 0 d_Gu_possibleNeeds_18 rfl ?_
      refine V_getR X 5 0 5 rfl ji5 (by decide) (by decide) (by decide) fl_Gu_9 d_Gu_possibleNeeds_19 (by decide) (by decide) (by decide) (by decide) ?_
      refine V_iload_n X 1 d_Gu_possibleNeeds_22 rfl ?_
      refine V_iload_n X 3 d_Gu_possibleNeeds_23 rfl ?_
      refine V_cI X h (fun r2 q => C_V (q := 3) X [Value.int l1, Value.int l3] mt_Sh_costAtNeed ms_Sh_costAtNeed ml_Gu_21 (k_Sh_costAtNeed σ 5 (by decide) (by decide) l1 l3 r2 q) rfl rfl (by omega) (Nat.le_of_ble_eq_true rfl) rfl (by decide) (by decide) (by decide) d_Gu_possibleNeeds_24) (fun r2 h => ?_)
      refine V_cI X h (fun r3 q => C_V (q := 4) X [Value.int l1, Value.int r2] mt_Si_allow ms_Si_allow ml_Gu_25 (k_Si_allow fu σ 22 (by decide) (by decide) l1 r2 r3 q) rfl rfl (by omega) (Nat.le_of_ble_eq_true rfl) rfl (by decide) (by decide) (by decide) d_Gu_possibleNeeds_27) (fun r3 h => ?_)
      refine V_if_eq X 42 d_Gu_possibleNeeds_30 (by decide) h (fun c4 h => ?_) (fun c4 h => ?_)
      · skip
        refine V_iinc X 3 (l3 + (1 : Int32)) [(3, Value.int (l3 + (1 : Int32))), (0, Value.ref (ad 53)), (1, Value.int l1), (2, Value.int l2)] d_Gu_possibleNeeds_42 rfl (by first | rfl | decide) (by decide) rfl ?_
        refine V_goto X 4 d_Gu_possibleNeeds_45 (by decide) ?_
        refine V_sub (lv' := [(0, Value.ref (ad 53)), (1, Value.int l1), (2, Value.int l2), (3, Value.int (l3 + (1 : Int32)))]) [1, 2, 3, 0] rfl ?_
        exact ih l2 (l3 + (1 : Int32)) h
      · skip
        refine V_iload_n X 2 d_Gu_possibleNeeds_33 rfl ?_
        refine V_iload_n X 3 d_Gu_possibleNeeds_34 rfl ?_
        refine V_iconst (v := 1) X d_Gu_possibleNeeds_35 (by decide) ?_
        refine V_isub X d_Gu_possibleNeeds_36 ?_
        refine V_cI X h (fun r5 q => C_SN X [Value.int (l3 - (1 : Int32))] mt_Co_bit ms_Co_bit mn_Gu_31 (k_Co_bit σ (l3 - (1 : Int32)) r5 q) rfl rfl (by omega) (Nat.le_of_ble_eq_true rfl) d_Gu_possibleNeeds_37) (fun r5 h => ?_)
        refine V_ior X d_Gu_possibleNeeds_40 ?_
        refine V_istore_n X [(2, Value.int (l2 ||| r5)), (0, Value.ref (ad 53)), (1, Value.int l1), (3, Value.int l3)] d_Gu_possibleNeeds_41 (by decide) rfl ?_
        refine V_iinc X 3 (l3 + (1 : Int32)) [(3, Value.int (l3 + (1 : Int32))), (2, Value.int (l2 ||| r5)), (0, Value.ref (ad 53)), (1, Value.int l1)] d_Gu_possibleNeeds_42 rfl (by first | rfl | decide) (by decide) rfl ?_
        refine V_goto X 4 d_Gu_possibleNeeds_45 (by decide) ?_
        refine V_sub (lv' := [(0, Value.ref (ad 53)), (1, Value.int l1), (2, Value.int (l2 ||| r5)), (3, Value.int (l3 + (1 : Int32)))]) [2, 3, 1, 0] rfl ?_
        exact ih (l2 ||| r5) (l3 + (1 : Int32)) h
set_option maxHeartbeats 4000000 in
set_option maxRecDepth 100000 in
theorem k_Gu_possibleNeeds (fu : Nat) (σ : Sg) (a0 : Int32) (r : Int32) (h : Gu_possibleNeeds fu σ a0 = some r) : Evc y_Gu_possibleNeeds prog_5_method_2_code 4 (some .int) 3 (fun ad => [Value.ref (ad 53), Value.int a0]) σ σ (fun _ => some (.int r)) := by
  refine Evc_ofI (by decide) (fun ad => Nat.le_of_ble_eq_true rfl) (fun p l e R s m args below meth c D ad cI cB A Q X hQ => ?_)
  have X : Cx p R s m args meth c jR5 prog_5_method_2_code 4 3 D ad cI cB A 0 0 := X
  have hQ := hQ.pure
  have h : wpO (Gu_possibleNeeds fu σ a0) (fun q => q = r) := ⟨_, h, rfl⟩
  rw [Gu_possibleNeeds] at h
  refine V_sub (lv' := [(0, Value.ref (ad 53)), (1, Value.int a0)]) [0, 1] rfl ?_
  refine V_iconst (v := 0) X d_Gu_possibleNeeds_0 (by decide) ?_
  refine V_istore_n X [(2, Value.int (0 : Int32)), (0, Value.ref (ad 53)), (1, Value.int a0)] d_Gu_possibleNeeds_1 (by decide) rfl ?_
  refine V_iconst (v := 1) X d_Gu_possibleNeeds_2 (by decide) ?_
  refine V_istore_n X [(3, Value.int (1 : Int32)), (2, Value.int (0 : Int32)), (0, Value.ref (ad 53)), (1, Value.int a0)] d_Gu_possibleNeeds_3 (by decide) rfl ?_
  refine V_sub (lv' := [(0, Value.ref (ad 53)), (1, Value.int a0), (2, Value.int (0 : Int32)), (3, Value.int (1 : Int32))]) [2, 3, 1, 0] rfl ?_
  refine Gu_possibleNeeds_L4_ok X fu a0 σ _ hQ (fun l2_6 l3_7 h => ?_) fu (0 : Int32) (1 : Int32) h
  refine V_iload_n X 2 d_Gu_possibleNeeds_48 rfl ?_
  have h9 := wp_some h
  exact hQ _ h9 (fun h9 => absurd h9 (by decide)) _ _ d_Gu_possibleNeeds_49
set_option maxHeartbeats 4000000 in
set_option maxRecDepth 100000 in
theorem Gu_leftAtWorst_L6_ok {p : Program} {l : Launch} {e : Env} {R : Room} {s : State} {m : MethodId} {args : Array Value} {below : List Frame} {meth : Method} {c : Code} {D : va_G} {ad : Nat → Nat} {cI cB : ClassId} {A : Nat → Prop} {cells slots : Nat} {Q : State → Prop} (X : Cx p R s m args meth c jR5 prog_5_method_4_code 7 3 D ad cI cB A cells slots) (fu : Nat) (l1 : Int32) (l2 : Int32) (l3 : Int32) (σ : Sg) (kont : (Int32 → Int32 → Option Int32)) {K : Int32 → Prop} (hQ : RP p l e R s m args below meth c 7 D ad cI cB A cells slots Q prog_5_method_4_code false σ K) (hk : ∀ (l4 : Int32) (l5 : Int32), wpO (kont l4 l5) K → V p l e R s m args below meth c 7 D A cells slots Q (wl ad cI cB σ) 66 [(0, Value.ref (ad 53)), (1, Value.int l1), (2, Value.int l2), (3, Value.int l3), (4, Value.int l4), (5, Value.int l5)] []) : ∀ (n : Nat) (l4 : Int32) (l5 : Int32), wpO (Gu_leftAtWorst_L6 fu l1 l2 l3 σ kont n l4 l5) K → V p l e R s m args below meth c 7 D A cells slots Q (wl ad cI cB σ) 6 [(0, Value.ref (ad 53)), (1, Value.int l1), (2, Value.int l2), (3, Value.int l3), (4, Value.int l4), (5, Value.int l5)] [] := by
  intro n
  induction n with
  | zero =>
    intro l4 l5 h
    exact (wp_none h).elim
  | succ n ih =>
    intro l4 l5 h
    rw [Gu_leftAtWorst_L6] at h
    refine V_iload X 5 d_Gu_leftAtWorst_6 rfl ?_
    refine V_bipush (v := 9) X d_Gu_leftAtWorst_8 (by decide) ?_
    refine V_icmp_gt X 66 d_Gu_leftAtWorst_10 (by decide) h (fun c1 h => ?_) (fun c1 h => ?_)
    · skip
      exact hk l4 l5 h
    · skip
      refine V_aload_n X 0 d_Gu_leftAtWorst_13 rfl ?_
      refine V_getR X 5 0 5 rfl ji5 (by decide) (by decide) (by decide) fl_Gu_9 d_Gu_leftAtWorst_14 (by decide) (by decide) (by decide) (by decide) ?_
      refine V_iload_n X 1 d_Gu_leftAtWorst_17 rfl ?_
      refine V_iload X 5 d_Gu_leftAtWorst_18 rfl ?_
      refine V_cI X h (fun r2 q => C_V (q := 3) X [Value.int l1, Value.int l5] mt_Sh_costAtNeed ms_Sh_costAtNeed ml_Gu_21 (k_Sh_costAtNeed σ 5 (by decide) (by decide) l1 l5 r2 q) rfl rfl (by omega) (Nat.le_of_ble_eq_true rfl) rfl (by decide) (by decide) (by decide) d_Gu_leftAtWorst_20) (fun r2 h => ?_)
      refine V_iload_n X 3 d_Gu_leftAtWorst_23 rfl ?_
      refine V_icmp_gt X 31 d_Gu_leftAtWorst_24 (by decide) h (fun c3 h => ?_) (fun c3 h => ?_)
      · skip
        refine V_iconst (v := 0) X d_Gu_leftAtWorst_31 (by decide) ?_
        refine V_istore X [(6, Value.int (0 : Int32)), (0, Value.ref (ad 53)), (1, Value.int l1), (2, Value.int l2), (3, Value.int l3), (4, Value.int l4), (5, Value.int l5)] d_Gu_leftAtWorst_32 (by decide) rfl ?_
        refine V_iload X 5 d_Gu_leftAtWorst_34 rfl ?_
        refine V_iload X 0 d_Gu_leftAtWorst_36 rfl ?_
        refine V_if_eqT X 56 d_Gu_leftAtWorst_38 (by decide) (by decide) ?_
        refine V_iconst (v := 0) X d_Gu_leftAtWorst_56 (by decide) ?_
        refine V_iadd X d_Gu_leftAtWorst_57 ?_
        refine V_istore X [(4, Value.int (l4 + (0 : Int32))), (6, Value.int (0 : Int32)), (0, Value.ref (ad 53)), (1, Value.int l1), (2, Value.int l2), (3, Value.int l3), (5, Value.int l5)] d_Gu_leftAtWorst_58 (by decide) rfl ?_
        refine V_iinc X 6 (l5 + (1 : Int32)) [(5, Value.int (l5 + (1 : Int32))), (4, Value.int (l4 + (0 : Int32))), (6, Value.int (0 : Int32)), (0, Value.ref (ad 53)), (1, Value.int l1), (2, Value.int l2), (3, Value.int l3)] d_Gu_leftAtWorst_60 rfl (by first | rfl | decide) (by decide) rfl ?_
        refine V_goto X 6 d_Gu_leftAtWorst_63 (by decide) ?_
        refine V_sub (lv' := [(0, Value.ref (ad 53)), (1, Value.int l1), (2, Value.int l2), (3, Value.int l3), (4, Value.int (l4 + (0 : Int32))), (5, Value.int (l5 + (1 : Int32)))]) [3, 4, 5, 6, 1, 0] rfl ?_
        exact ih (l4 + (0 : Int32)) (l5 + (1 : Int32)) h
      · skip
        refine V_iconst (v := 1) X d_Gu_leftAtWorst_27 (by decide) ?_
        refine V_goto X 32 d_Gu_leftAtWorst_28 (by decide) ?_
        refine V_istore X [(6, Value.int (1 : Int32)), (0, Value.ref (ad 53)), (1, Value.int l1), (2, Value.int l2), (3, Value.int l3), (4, Value.int l4), (5, Value.int l5)] d_Gu_leftAtWorst_32 (by decide) rfl ?_
        refine V_iload X 5 d_Gu_leftAtWorst_34 rfl ?_
        refine V_iload X 0 d_Gu_leftAtWorst_36 rfl ?_
        refine V_if_eqF X d_Gu_leftAtWorst_38 56 (by decide) (by decide) ?_
        refine V_iload_n X 3 d_Gu_leftAtWorst_41 rfl ?_
        refine V_iload X 6 d_Gu_leftAtWorst_42 rfl ?_
        refine V_iconst (v := 1) X d_Gu_leftAtWorst_44 (by decide) ?_
        refine V_isub X d_Gu_leftAtWorst_45 ?_
        refine V_cI X h (fun r4 q => C_SN X [Value.int l2, Value.int (l5 - (1 : Int32))] mt_Co_has ms_Co_has mn_Gu_42 (k_Co_has σ l2 (l5 - (1 : Int32)) r4 q) rfl rfl (by omega) (Nat.le_of_ble_eq_true rfl) d_Gu_leftAtWorst_46) (fun r4 h => ?_)
        refine V_if_eq X 56 d_Gu_leftAtWorst_49 (by decide) h (fun c5 h => ?_) (fun c5 h => ?_)
        · skip
          refine V_iconst (v := 0) X d_Gu_leftAtWorst_56 (by decide) ?_
          refine V_iadd X d_Gu_leftAtWorst_57 ?_
          refine V_istore X [(4, Value.int (l4 + (0 : Int32))), (6, Value.int (1 : Int32)), (0, Value.ref (ad 53)), (1, Value.int l1), (2, Value.int l2), (3, Value.int l3), (5, Value.int l5)] d_Gu_leftAtWorst_58 (by decide) rfl ?_
          refine V_iinc X 6 (l5 + (1 : Int32)) [(5, Value.int (l5 + (1 : Int32))), (4, Value.int (l4 + (0 : Int32))), (6, Value.int (1 : Int32)), (0, Value.ref (ad 53)), (1, Value.int l1), (2, Value.int l2), (3, Value.int l3)] d_Gu_leftAtWorst_60 rfl (by first | rfl | decide) (by decide) rfl ?_
          refine V_goto X 6 d_Gu_leftAtWorst_63 (by decide) ?_
          refine V_sub (lv' := [(0, Value.ref (ad 53)), (1, Value.int l1), (2, Value.int l2), (3, Value.int l3), (4, Value.int (l4 + (0 : Int32))), (5, Value.int (l5 + (1 : Int32)))]) [3, 4, 5, 6, 1, 0] rfl ?_
          exact ih (l4 + (0 : Int32)) (l5 + (1 : Int32)) h
        · skip
          refine V_iconst (v := 1) X d_Gu_leftAtWorst_52 (by decide) ?_
          refine V_goto X 57 d_Gu_leftAtWorst_53 (by decide) ?_
          refine V_iadd X d_Gu_leftAtWorst_57 ?_
          refine V_istore X [(4, Value.int (l4 + (1 : Int32))), (6, Value.int (1 : Int32)), (0, Value.ref (ad 53)), (1, Value.int l1), (2, Value.int l2), (3, Value.int l3), (5, Value.int l5)] d_Gu_leftAtWorst_58 (by decide) rfl ?_
          refine V_iinc X 6 (l5 + (1 : Int32)) [(5, Value.int (l5 + (1 : Int32))), (4, Value.int (l4 + (1 : Int32))), (6, Value.int (1 : Int32)), (0, Value.ref (ad 53)), (1, Value.int l1), (2, Value.int l2), (3, Value.int l3)] d_Gu_leftAtWorst_60 rfl (by first | rfl | decide) (by decide) rfl ?_
          refine V_goto X 6 d_Gu_leftAtWorst_63 (by decide) ?_
          refine V_sub (lv' := [(0, Value.ref (ad 53)), (1, Value.int l1), (2, Value.int l2), (3, Value.int l3), (4, Value.int (l4 + (1 : Int32))), (5, Value.int (l5 + (1 : Int32)))]) [3, 4, 5, 6, 1, 0] rfl ?_
          exact ih (l4 + (1 : Int32)) (l5 + (1 : Int32)) h
set_option maxHeartbeats 4000000 in
set_option maxRecDepth 100000 in
theorem k_Gu_leftAtWorst (fu : Nat) (σ : Sg) (a0 : Int32) (a1 : Int32) (a2 : Int32) (r : Int32) (h : Gu_leftAtWorst fu σ a0 a1 a2 = some r) : Evc y_Gu_leftAtWorst prog_5_method_4_code 7 (some .int) 3 (fun ad => [Value.ref (ad 53), Value.int a0, Value.int a1, Value.int a2]) σ σ (fun _ => some (.int r)) := by
  refine Evc_ofI (by decide) (fun ad => Nat.le_of_ble_eq_true rfl) (fun p l e R s m args below meth c D ad cI cB A Q X hQ => ?_)
  have X : Cx p R s m args meth c jR5 prog_5_method_4_code 7 3 D ad cI cB A 0 0 := X
  have hQ := hQ.pure
  have h : wpO (Gu_leftAtWorst fu σ a0 a1 a2) (fun q => q = r) := ⟨_, h, rfl⟩
  rw [Gu_leftAtWorst] at h
  refine V_sub (lv' := [(0, Value.ref (ad 53)), (1, Value.int a0), (2, Value.int a1), (3, Value.int a2)]) [0, 1, 2, 3] rfl ?_
  refine V_iconst (v := 0) X d_Gu_leftAtWorst_0 (by decide) ?_
  refine V_istore X [(4, Value.int (0 : Int32)), (0, Value.ref (ad 53)), (1, Value.int a0), (2, Value.int a1), (3, Value.int a2)] d_Gu_leftAtWorst_1 (by decide) rfl ?_
  refine V_iconst (v := 1) X d_Gu_leftAtWorst_3 (by decide) ?_
  refine V_istore X [(5, Value.int (1 : Int32)), (4, Value.int (0 : Int32)), (0, Value.ref (ad 53)), (1, Value.int a0), (2, Value.int a1), (3, Value.int a2)] d_Gu_leftAtWorst_4 (by decide) rfl ?_
  refine V_sub (lv' := [(0, Value.ref (ad 53)), (1, Value.int a0), (2, Value.int a1), (3, Value.int a2), (4, Value.int (0 : Int32)), (5, Value.int (1 : Int32))]) [2, 3, 4, 5, 1, 0] rfl ?_
  refine Gu_leftAtWorst_L6_ok X fu a0 a1 a2 σ _ hQ (fun l4_6 l5_7 h => ?_) fu (0 : Int32) (1 : Int32) h
  refine V_iload X 4 d_Gu_leftAtWorst_66 rfl ?_
  refine V_iload_n X 2 d_Gu_leftAtWorst_68 rfl ?_
  refine V_cI X h (fun r8 q => C_S X [Value.int a1] mt_In_bitCount ms_In_bitCount ml_Gu_45 (k_In_bitCount σ a1 r8 q) rfl rfl (by omega) (Nat.le_of_ble_eq_true rfl) d_Gu_leftAtWorst_69) (fun r8 h => ?_)
  refine V_iload X 4 d_Gu_leftAtWorst_72 rfl ?_
  refine V_isub X d_Gu_leftAtWorst_74 ?_
  refine V_mmax X ml_Gu_50 d_Gu_leftAtWorst_75 (by omega) (Nat.le_of_ble_eq_true rfl) ?_
  have h9 := wp_some h
  exact hQ _ h9 (fun h9 => absurd h9 (by decide)) _ _ d_Gu_leftAtWorst_78
set_option maxHeartbeats 4000000 in
set_option maxRecDepth 100000 in
theorem Gu_bestTry_L21_ok {p : Program} {l : Launch} {e : Env} {R : Room} {s : State} {m : MethodId} {args : Array Value} {below : List Frame} {meth : Method} {c : Code} {D : va_G} {ad : Nat → Nat} {cI cB : ClassId} {A : Nat → Prop} {cells slots : Nat} {Q : State → Prop} (X : Cx p R s m args meth c jR5 prog_5_method_3_code 7 4 D ad cI cB A cells slots) (fu : Nat) (l1 : Int32) (l2 : Int32) (σ : Sg) (kont : (Int32 → Int32 → Int32 → Option Int32)) {K : Int32 → Prop} (hQ : RP p l e R s m args below meth c 7 D ad cI cB A cells slots Q prog_5_method_3_code false σ K) (hk : ∀ (l3 : Int32) (l4 : Int32) (l5 : Int32), wpO (kont l3 l4 l5) K → V p l e R s m args below meth c 7 D A cells slots Q (wl ad cI cB σ) 58 [(0, Value.ref (ad 53)), (1, Value.int l1), (2, Value.int l2), (3, Value.int l3), (4, Value.int l4), (5, Value.int l5)] []) : ∀ (n : Nat) (l3 : Int32) (l4 : Int32) (l5 : Int32), wpO (Gu_bestTry_L21 fu l1 l2 σ kont n l3 l4 l5) K → V p l e R s m args below meth c 7 D A cells slots Q (wl ad cI cB σ) 21 [(0, Value.ref (ad 53)), (1, Value.int l1), (2, Value.int l2), (3, Value.int l3), (4, Value.int l4), (5, Value.int l5)] [] := by
  intro n
  induction n with
  | zero =>
    intro l3 l4 l5 h
    exact (wp_none h).elim
  | succ n ih =>
    intro l3 l4 l5 h
    rw [Gu_bestTry_L21] at h
    refine V_iload X 5 d_Gu_bestTry_21 rfl ?_
    refine V_bipush (v := 18) X d_Gu_bestTry_23 (by decide) ?_
    refine V_icmp_gt X 58 d_Gu_bestTry_25 (by decide) h (fun c3 h => ?_) (fun c3 h => ?_)
    · skip
      exact hk l3 l4 l5 h
    · skip
      refine V_aload_n X 0 d_Gu_bestTry_28 rfl ?_
      refine V_iload_n X 1 d_Gu_bestTry_29 rfl ?_
      refine V_iload_n X 2 d_Gu_bestTry_30 rfl ?_
      refine V_iload X 5 d_Gu_bestTry_31 rfl ?_
      refine V_cI X h (fun r4 q => C_V (q := 5) X [Value.int l1, Value.int l2, Value.int l5] mt_Gu_leftAtWorst ms_Gu_leftAtWorst ml_Gu_38 (k_Gu_leftAtWorst fu σ l1 l2 l5 r4 q) rfl rfl (by omega) (Nat.le_of_ble_eq_true rfl) rfl (by decide) (by decide) (by decide) d_Gu_bestTry_33) (fun r4 h => ?_)
      refine V_istore X [(6, Value.int r4), (0, Value.ref (ad 53)), (1, Value.int l1), (2, Value.int l2), (3, Value.int l3), (4, Value.int l4), (5, Value.int l5)] d_Gu_bestTry_36 (by decide) rfl ?_
      refine V_iload X 0 d_Gu_bestTry_38 rfl ?_
      refine V_iload X 5 d_Gu_bestTry_40 rfl ?_
      refine V_icmp_ge X 52 d_Gu_bestTry_42 (by decide) h (fun c5 h => ?_) (fun c5 h => ?_)
      · skip
        refine V_iinc X 6 (l5 + (1 : Int32)) [(5, Value.int (l5 + (1 : Int32))), (6, Value.int r4), (0, Value.ref (ad 53)), (1, Value.int l1), (2, Value.int l2), (3, Value.int l3), (4, Value.int l4)] d_Gu_bestTry_52 rfl (by first | rfl | decide) (by decide) rfl ?_
        refine V_goto X 21 d_Gu_bestTry_55 (by decide) ?_
        refine V_sub (lv' := [(0, Value.ref (ad 53)), (1, Value.int l1), (2, Value.int l2), (3, Value.int l3), (4, Value.int l4), (5, Value.int (l5 + (1 : Int32)))]) [2, 3, 4, 5, 6, 0] rfl ?_
        exact ih l3 l4 (l5 + (1 : Int32)) h
      · skip
        refine V_iload X 0 d_Gu_bestTry_45 rfl ?_
        refine V_istore X [(4, Value.int r4), (6, Value.int r4), (0, Value.ref (ad 53)), (1, Value.int l1), (2, Value.int l2), (3, Value.int l3), (5, Value.int l5)] d_Gu_bestTry_47 (by decide) rfl ?_
        refine V_iload X 6 d_Gu_bestTry_49 rfl ?_
        refine V_istore_n X [(3, Value.int l5), (4, Value.int r4), (6, Value.int r4), (0, Value.ref (ad 53)), (1, Value.int l1), (2, Value.int l2), (5, Value.int l5)] d_Gu_bestTry_51 (by decide) rfl ?_
        refine V_iinc X 6 (l5 + (1 : Int32)) [(5, Value.int (l5 + (1 : Int32))), (3, Value.int l5), (4, Value.int r4), (6, Value.int r4), (0, Value.ref (ad 53)), (1, Value.int l1), (2, Value.int l2)] d_Gu_bestTry_52 rfl (by first | rfl | decide) (by decide) rfl ?_
        refine V_goto X 21 d_Gu_bestTry_55 (by decide) ?_
        refine V_sub (lv' := [(0, Value.ref (ad 53)), (1, Value.int l1), (2, Value.int l2), (3, Value.int l5), (4, Value.int r4), (5, Value.int (l5 + (1 : Int32)))]) [4, 5, 6, 1, 2, 0] rfl ?_
        exact ih l5 r4 (l5 + (1 : Int32)) h
set_option maxHeartbeats 4000000 in
set_option maxRecDepth 100000 in
theorem k_Gu_bestTry (fu : Nat) (σ : Sg) (a0 : Int32) (r : Int32) (h : Gu_bestTry fu σ a0 = some r) : Evc y_Gu_bestTry prog_5_method_3_code 7 (some .int) 4 (fun ad => [Value.ref (ad 53), Value.int a0]) σ σ (fun _ => some (.int r)) := by
  refine Evc_ofI (by decide) (fun ad => Nat.le_of_ble_eq_true rfl) (fun p l e R s m args below meth c D ad cI cB A Q X hQ => ?_)
  have X : Cx p R s m args meth c jR5 prog_5_method_3_code 7 4 D ad cI cB A 0 0 := X
  have hQ := hQ.pure
  have h : wpO (Gu_bestTry fu σ a0) (fun q => q = r) := ⟨_, h, rfl⟩
  rw [Gu_bestTry] at h
  refine V_sub (lv' := [(0, Value.ref (ad 53)), (1, Value.int a0)]) [0, 1] rfl ?_
  refine V_aload_n X 0 d_Gu_bestTry_0 rfl ?_
  refine V_iload_n X 1 d_Gu_bestTry_1 rfl ?_
  refine V_cI X h (fun r1 q => C_V (q := 5) X [Value.int a0] mt_Gu_possibleNeeds ms_Gu_possibleNeeds ml_Gu_35 (k_Gu_possibleNeeds fu σ a0 r1 q) rfl rfl (by omega) (Nat.le_of_ble_eq_true rfl) rfl (by decide) (by decide) (by decide) d_Gu_bestTry_2) (fun r1 h => ?_)
  refine V_istore_n X [(2, Value.int r1), (0, Value.ref (ad 53)), (1, Value.int a0)] d_Gu_bestTry_5 (by decide) rfl ?_
  refine V_iload_n X 0 d_Gu_bestTry_6 rfl ?_
  refine V_if_ne X 12 d_Gu_bestTry_7 (by decide) h (fun c2 h => ?_) (fun c2 h => ?_)
  · skip
    refine V_iconst (v := -1) X d_Gu_bestTry_12 (by decide) ?_
    refine V_istore_n X [(3, Value.int (-1 : Int32)), (2, Value.int r1), (0, Value.ref (ad 53)), (1, Value.int a0)] d_Gu_bestTry_13 (by decide) rfl ?_
    refine V_bipush (v := 10) X d_Gu_bestTry_14 (by decide) ?_
    refine V_istore X [(4, Value.int (10 : Int32)), (3, Value.int (-1 : Int32)), (2, Value.int r1), (0, Value.ref (ad 53)), (1, Value.int a0)] d_Gu_bestTry_16 (by decide) rfl ?_
    refine V_iconst (v := 1) X d_Gu_bestTry_18 (by decide) ?_
    refine V_istore X [(5, Value.int (1 : Int32)), (4, Value.int (10 : Int32)), (3, Value.int (-1 : Int32)), (2, Value.int r1), (0, Value.ref (ad 53)), (1, Value.int a0)] d_Gu_bestTry_19 (by decide) rfl ?_
    refine V_sub (lv' := [(0, Value.ref (ad 53)), (1, Value.int a0), (2, Value.int r1), (3, Value.int (-1 : Int32)), (4, Value.int (10 : Int32)), (5, Value.int (1 : Int32))]) [4, 5, 3, 2, 1, 0] rfl ?_
    refine Gu_bestTry_L21_ok X fu a0 r1 σ _ hQ (fun l3_6 l4_7 l5_8 h => ?_) fu (-1 : Int32) (10 : Int32) (1 : Int32) h
    refine V_iload_n X 3 d_Gu_bestTry_58 rfl ?_
    have h9 := wp_some h
    exact hQ _ h9 (fun h9 => absurd h9 (by decide)) _ _ d_Gu_bestTry_59
  · skip
    refine V_iconst (v := -1) X d_Gu_bestTry_10 (by decide) ?_
    have h9 := wp_some h
    exact hQ _ h9 (fun h9 => absurd h9 (by decide)) _ _ d_Gu_bestTry_11
set_option maxHeartbeats 4000000 in
set_option maxRecDepth 100000 in
theorem k_Co_suit (fu : Nat) (σ : Sg) (a0 : Int32) (a1 : Int32) (r : Int32) (h : Co_suit fu σ a0 a1 = some r) : Evc y_Co_suit prog_1_method_7_code 3 (some .int) 5 (fun ad => [Value.ref (ad 0), Value.int a0, Value.int a1]) σ σ (fun _ => some (.int r)) := by
  refine Evc_ofI (by decide) (fun ad => Nat.le_of_ble_eq_true rfl) (fun p l e R s m args below meth c D ad cI cB A Q X hQ => ?_)
  have X : Cx p R s m args meth c jR0 prog_1_method_7_code 3 5 D ad cI cB A 0 0 := X
  have hQ := hQ.pure
  have h : wpO (Co_suit fu σ a0 a1) (fun q => q = r) := ⟨_, h, rfl⟩
  rw [Co_suit] at h
  refine V_sub (lv' := [(0, Value.ref (ad 0)), (1, Value.int a0), (2, Value.int a1)]) [0, 1, 2] rfl ?_
  refine V_aload_n X 0 d_Co_suit_0 rfl ?_
  refine V_getR X 0 2 5 rfl ji0 (by decide) (by decide) (by decide) fl_Co_28 d_Co_suit_1 (by decide) (by decide) (by decide) (by decide) ?_
  refine V_iload_n X 1 d_Co_suit_4 rfl ?_
  refine V_cI X h (fun r1 q => C_V (q := 3) X [Value.int a0] mt_Sh_hasSuit ms_Sh_hasSuit ml_Co_111 (k_Sh_hasSuit σ 5 (by decide) (by decide) a0 r1 q) rfl rfl (by omega) (Nat.le_of_ble_eq_true rfl) rfl (by decide) (by decide) (by decide) d_Co_suit_5) (fun r1 h => ?_)
  refine V_if_ne X 14 d_Co_suit_8 (by decide) h (fun c2 h => ?_) (fun c2 h => ?_)
  · skip
    refine V_iload_n X 2 d_Co_suit_14 rfl ?_
    rcases wp_case h with ⟨c3, h⟩ | ⟨c3, h⟩
    · skip
      refine V_tableIn X 53 68 d_Co_suit_15 (0) (by rw [c3]; decide) (by decide) (by decide) rfl (by decide) ?_
      refine V_aload_n X 0 d_Co_suit_68 rfl ?_
      refine V_getR X 0 2 5 rfl ji0 (by decide) (by decide) (by decide) fl_Co_28 d_Co_suit_69 (by decide) (by decide) (by decide) (by decide) ?_
      refine V_iload_n X 1 d_Co_suit_72 rfl ?_
      refine V_cI X h (fun r4 q => C_V (q := 3) X [Value.int a0] mt_Sh_kind ms_Sh_kind ml_Co_114 (k_Sh_kind σ 5 (by decide) (by decide) a0 r4 q) rfl rfl (by omega) (Nat.le_of_ble_eq_true rfl) rfl (by decide) (by decide) (by decide) d_Co_suit_73) (fun r4 h => ?_)
      have h9 := wp_some h
      exact hQ _ h9 (fun h9 => absurd h9 (by decide)) _ _ d_Co_suit_76
    · skip
      rcases wp_case h with ⟨c5, h⟩ | ⟨c5, h⟩
      · skip
        refine V_tableIn X 62 77 d_Co_suit_15 (1) (by rw [c5]; decide) (by decide) (by decide) rfl (by decide) ?_
        refine V_aload_n X 0 d_Co_suit_77 rfl ?_
        refine V_getR X 0 2 5 rfl ji0 (by decide) (by decide) (by decide) fl_Co_28 d_Co_suit_78 (by decide) (by decide) (by decide) (by decide) ?_
        refine V_iload_n X 1 d_Co_suit_81 rfl ?_
        refine V_cI X h (fun r6 q => C_V (q := 3) X [Value.int a0] mt_Sh_need ms_Sh_need ml_Co_117 (k_Sh_need σ 5 (by decide) (by decide) a0 r6 q) rfl rfl (by omega) (Nat.le_of_ble_eq_true rfl) rfl (by decide) (by decide) (by decide) d_Co_suit_82) (fun r6 h => ?_)
        have h9 := wp_some h
        exact hQ _ h9 (fun h9 => absurd h9 (by decide)) _ _ d_Co_suit_85
      · skip
        rcases wp_case h with ⟨c7, h⟩ | ⟨c7, h⟩
        · skip
          refine V_tableIn X 71 86 d_Co_suit_15 (2) (by rw [c7]; decide) (by decide) (by decide) rfl (by decide) ?_
          refine V_aload_n X 0 d_Co_suit_86 rfl ?_
          refine V_getR X 0 2 5 rfl ji0 (by decide) (by decide) (by decide) fl_Co_28 d_Co_suit_87 (by decide) (by decide) (by decide) (by decide) ?_
          refine V_iload_n X 1 d_Co_suit_90 rfl ?_
          refine V_cI X h (fun r8 q => C_V (q := 3) X [Value.int a0] mt_Sh_worth ms_Sh_worth ml_Co_120 (k_Sh_worth σ 5 (by decide) (by decide) a0 r8 q) rfl rfl (by omega) (Nat.le_of_ble_eq_true rfl) rfl (by decide) (by decide) (by decide) d_Co_suit_91) (fun r8 h => ?_)
          have h9 := wp_some h
          exact hQ _ h9 (fun h9 => absurd h9 (by decide)) _ _ d_Co_suit_94
        · skip
          rcases wp_case h with ⟨c9, h⟩ | ⟨c9, h⟩
          · skip
            refine V_tableIn X 80 95 d_Co_suit_15 (3) (by rw [c9]; decide) (by decide) (by decide) rfl (by decide) ?_
            refine V_aload_n X 0 d_Co_suit_95 rfl ?_
            refine V_getR X 0 2 5 rfl ji0 (by decide) (by decide) (by decide) fl_Co_28 d_Co_suit_96 (by decide) (by decide) (by decide) (by decide) ?_
            refine V_iload_n X 1 d_Co_suit_99 rfl ?_
            refine V_cI X h (fun r10 q => C_V (q := 3) X [Value.int a0] mt_Sh_hangsOn ms_Sh_hangsOn ml_Co_123 (k_Sh_hangsOn σ 5 (by decide) (by decide) a0 r10 q) rfl rfl (by omega) (Nat.le_of_ble_eq_true rfl) rfl (by decide) (by decide) (by decide) d_Co_suit_100) (fun r10 h => ?_)
            have h9 := wp_some h
            exact hQ _ h9 (fun h9 => absurd h9 (by decide)) _ _ d_Co_suit_103
          · skip
            rcases wp_case h with ⟨c11, h⟩ | ⟨c11, h⟩
            · skip
              refine V_tableIn X 89 104 d_Co_suit_15 (4) (by rw [c11]; decide) (by decide) (by decide) rfl (by decide) ?_
              refine V_aload_n X 0 d_Co_suit_104 rfl ?_
              refine V_getR X 0 2 5 rfl ji0 (by decide) (by decide) (by decide) fl_Co_28 d_Co_suit_105 (by decide) (by decide) (by decide) (by decide) ?_
              refine V_iload_n X 1 d_Co_suit_108 rfl ?_
              refine V_cI X h (fun r12 q => C_V (q := 3) X [Value.int a0] mt_Sh_cost ms_Sh_cost ml_Co_126 (k_Sh_cost σ 5 (by decide) (by decide) a0 r12 q) rfl rfl (by omega) (Nat.le_of_ble_eq_true rfl) rfl (by decide) (by decide) (by decide) d_Co_suit_109) (fun r12 h => ?_)
              have h9 := wp_some h
              exact hQ _ h9 (fun h9 => absurd h9 (by decide)) _ _ d_Co_suit_112
            · skip
              rcases wp_case h with ⟨c13, h⟩ | ⟨c13, h⟩
              · skip
                refine V_tableIn X 98 113 d_Co_suit_15 (5) (by rw [c13]; decide) (by decide) (by decide) rfl (by decide) ?_
                refine V_aload_n X 0 d_Co_suit_113 rfl ?_
                refine V_getR X 0 2 5 rfl ji0 (by decide) (by decide) (by decide) fl_Co_28 d_Co_suit_114 (by decide) (by decide) (by decide) (by decide) ?_
                refine V_cI X h (fun r14 q => C_V (q := 3) X [] mt_Sh_righted ms_Sh_righted ml_Co_129 (k_Sh_righted σ 5 (by decide) (by decide) r14 q) rfl rfl (by omega) (Nat.le_of_ble_eq_true rfl) rfl (by decide) (by decide) (by decide) d_Co_suit_117) (fun r14 h => ?_)
                refine V_iload_n X 1 d_Co_suit_120 rfl ?_
                refine V_cI X h (fun r15 q => C_S X [Value.int r14, Value.int a0] mt_Co_has ms_Co_has ml_Co_132 (k_Co_has σ r14 a0 r15 q) rfl rfl (by omega) (Nat.le_of_ble_eq_true rfl) d_Co_suit_121) (fun r15 h => ?_)
                refine V_if_eq X 131 d_Co_suit_124 (by decide) h (fun c16 h => ?_) (fun c16 h => ?_)
                · skip
                  refine V_iconst (v := 0) X d_Co_suit_131 (by decide) ?_
                  have h9 := wp_some h
                  exact hQ _ h9 (fun h9 => absurd h9 (by decide)) _ _ d_Co_suit_132
                · skip
                  refine V_iconst (v := 1) X d_Co_suit_127 (by decide) ?_
                  refine V_goto X 132 d_Co_suit_128 (by decide) ?_
                  have h9 := wp_some h
                  exact hQ _ h9 (fun h9 => absurd h9 (by decide)) _ _ d_Co_suit_132
              · skip
                rcases wp_case h with ⟨c17, h⟩ | ⟨c17, h⟩
                · skip
                  refine V_tableIn X 118 133 d_Co_suit_15 (6) (by rw [c17]; decide) (by decide) (by decide) rfl (by decide) ?_
                  refine V_aload_n X 0 d_Co_suit_133 rfl ?_
                  refine V_getR X 0 2 5 rfl ji0 (by decide) (by decide) (by decide) fl_Co_28 d_Co_suit_134 (by decide) (by decide) (by decide) (by decide) ?_
                  refine V_iload_n X 1 d_Co_suit_137 rfl ?_
                  refine V_cI X h (fun r18 q => C_V (q := 3) X [Value.int a0] mt_Sh_below ms_Sh_below ml_Co_136 (k_Sh_below σ 5 (by decide) (by decide) a0 r18 q) rfl rfl (by omega) (Nat.le_of_ble_eq_true rfl) rfl (by decide) (by decide) (by decide) d_Co_suit_138) (fun r18 h => ?_)
                  have h9 := wp_some h
                  exact hQ _ h9 (fun h9 => absurd h9 (by decide)) _ _ d_Co_suit_141
                · skip
                  rcases wp_case h with ⟨c19, h⟩ | ⟨c19, h⟩
                  · skip
                    refine V_tableIn X 127 142 d_Co_suit_15 (7) (by rw [c19]; decide) (by decide) (by decide) rfl (by decide) ?_
                    refine V_aload_n X 0 d_Co_suit_142 rfl ?_
                    refine V_getR X 0 2 5 rfl ji0 (by decide) (by decide) (by decide) fl_Co_28 d_Co_suit_143 (by decide) (by decide) (by decide) (by decide) ?_
                    refine V_iload_n X 1 d_Co_suit_146 rfl ?_
                    refine V_cI X h (fun r20 q => C_V (q := 3) X [Value.int a0] mt_Sh_shakes ms_Sh_shakes ml_Co_139 (k_Sh_shakes σ 5 (by decide) (by decide) a0 r20 q) rfl rfl (by omega) (Nat.le_of_ble_eq_true rfl) rfl (by decide) (by decide) (by decide) d_Co_suit_147) (fun r20 h => ?_)
                    have h9 := wp_some h
                    exact hQ _ h9 (fun h9 => absurd h9 (by decide)) _ _ d_Co_suit_150
                  · skip
                    rcases wp_case h with ⟨c21, h⟩ | ⟨c21, h⟩
                    · skip
                      refine V_tableIn X 136 151 d_Co_suit_15 (8) (by rw [c21]; decide) (by decide) (by decide) rfl (by decide) ?_
                      refine V_aload_n X 0 d_Co_suit_151 rfl ?_
                      refine V_getR X 0 4 53 rfl ji0 (by decide) (by decide) (by decide) fl_Co_40 d_Co_suit_152 (by decide) (by decide) (by decide) (by decide) ?_
                      refine V_iload_n X 1 d_Co_suit_155 rfl ?_
                      refine V_cI X h (fun r22 q => C_V (q := 5) X [Value.int a0] mt_Gu_possibleNeeds ms_Gu_possibleNeeds ml_Co_142 (k_Gu_possibleNeeds fu σ a0 r22 q) rfl rfl (by omega) (Nat.le_of_ble_eq_true rfl) rfl (by decide) (by decide) (by decide) d_Co_suit_156) (fun r22 h => ?_)
                      have h9 := wp_some h
                      exact hQ _ h9 (fun h9 => absurd h9 (by decide)) _ _ d_Co_suit_159
                    · skip
                      rcases wp_case h with ⟨c23, h⟩ | ⟨c23, h⟩
                      · skip
                        refine V_tableIn X 145 160 d_Co_suit_15 (9) (by rw [c23]; decide) (by decide) (by decide) rfl (by decide) ?_
                        refine V_aload_n X 0 d_Co_suit_160 rfl ?_
                        refine V_getR X 0 4 53 rfl ji0 (by decide) (by decide) (by decide) fl_Co_40 d_Co_suit_161 (by decide) (by decide) (by decide) (by decide) ?_
                        refine V_iload_n X 1 d_Co_suit_164 rfl ?_
                        refine V_cI X h (fun r24 q => C_V (q := 5) X [Value.int a0] mt_Gu_bestTry ms_Gu_bestTry ml_Co_145 (k_Gu_bestTry fu σ a0 r24 q) rfl rfl (by omega) (Nat.le_of_ble_eq_true rfl) rfl (by decide) (by decide) (by decide) d_Co_suit_165) (fun r24 h => ?_)
                        have h9 := wp_some h
                        exact hQ _ h9 (fun h9 => absurd h9 (by decide)) _ _ d_Co_suit_168
                      · skip
                        refine V_tableOut X 169 d_Co_suit_15 (by have z0 := sw_ne c3 (0) (by decide); have z1 := sw_ne c5 (1) (by decide); have z2 := sw_ne c7 (2) (by decide); have z3 := sw_ne c9 (3) (by decide); have z4 := sw_ne c11 (4) (by decide); have z5 := sw_ne c13 (5) (by decide); have z6 := sw_ne c17 (6) (by decide); have z7 := sw_ne c19 (7) (by decide); have z8 := sw_ne c21 (8) (by decide); have z9 := sw_ne c23 (9) (by decide); omega) (by decide) ?_
                        refine V_bipush (v := -102) X d_Co_suit_169 (by decide) ?_
                        have h9 := wp_some h
                        exact hQ _ h9 (fun h9 => absurd h9 (by decide)) _ _ d_Co_suit_171
  · skip
    refine V_bipush (v := -101) X d_Co_suit_11 (by decide) ?_
    have h9 := wp_some h
    exact hQ _ h9 (fun h9 => absurd h9 (by decide)) _ _ d_Co_suit_13
set_option maxHeartbeats 4000000 in
set_option maxRecDepth 100000 in
theorem k_Sh_berries (σ : Sg) (k : Nat) (hl_k : k < 93) (hc_k : jv_cls k = 3) (a0 : Int32) (r : Int32) (h : Sh_berries σ k a0 = some r) : Evc y_Sh_berries prog_10_method_14_code 2 (some .int) 2 (fun ad => [Value.ref (ad k), Value.int a0]) σ σ (fun _ => some (.int r)) := by
  refine Evc_ofI (by decide) (fun ad => Nat.le_of_ble_eq_true rfl) (fun p l e R s m args below meth c D ad cI cB A Q X hQ => ?_)
  have X : Cx p R s m args meth c jR3 prog_10_method_14_code 2 2 D ad cI cB A 0 0 := X
  have hQ := hQ.pure
  have h : wpO (Sh_berries σ k a0) (fun q => q = r) := ⟨_, h, rfl⟩
  rw [Sh_berries] at h
  refine V_sub (lv' := [(0, Value.ref (ad k)), (1, Value.int a0)]) [0, 1] rfl ?_
  refine V_aload_n X 0 d_Sh_berries_0 rfl ?_
  refine V_getR X 3 2 (k + 1) rfl ji3 (by decide) (by decide) (by decide) fl_Sh_14 d_Sh_berries_1 hl_k hc_k (by decide) (jl_sh2 k hl_k hc_k).2.2 ?_
  refine V_iload_n X 1 d_Sh_berries_4 rfl ?_
  refine V_cI X h (fun r1 q => C_V (q := 9) X [Value.int a0] mt_Rw_at ms_Rw_at ml_Sh_71 (k_Rw_at σ (k + 1) (jl_sh2 k hl_k hc_k).1 (jl_sh2 k hl_k hc_k).2.1 a0 r1 q) rfl rfl (by omega) (Nat.le_of_ble_eq_true rfl) rfl (jl_sh2 k hl_k hc_k).1 (jl_sh2 k hl_k hc_k).2.1 (by decide) d_Sh_berries_5) (fun r1 h => ?_)
  have h9 := wp_some h
  exact hQ _ h9 (fun h9 => absurd h9 (by decide)) _ _ d_Sh_berries_8
set_option maxHeartbeats 4000000 in
set_option maxRecDepth 100000 in
theorem Sh_possibleAt_L4_ok {p : Program} {l : Launch} {e : Env} {R : Room} {s : State} {m : MethodId} {args : Array Value} {below : List Frame} {meth : Method} {c : Code} {D : va_G} {ad : Nat → Nat} {cI cB : ClassId} {A : Nat → Prop} {cells slots : Nat} {Q : State → Prop} (X : Cx p R s m args meth c jR3 prog_10_method_31_code 4 5 D ad cI cB A cells slots) (fu : Nat) (k : Nat) (hl_k : k < 93) (hc_k : jv_cls k = 3) (l1 : Int32) (σ : Sg) (kont : (Int32 → Int32 → Option Int32)) {K : Int32 → Prop} (hQ : RP p l e R s m args below meth c 4 D ad cI cB A cells slots Q prog_10_method_31_code false σ K) (hk : ∀ (l2 : Int32) (l3 : Int32), wpO (kont l2 l3) K → V p l e R s m args below meth c 4 D A cells slots Q (wl ad cI cB σ) 38 [(0, Value.ref (ad k)), (1, Value.int l1), (2, Value.int l2), (3, Value.int l3)] []) : ∀ (n : Nat) (l2 : Int32) (l3 : Int32), wpO (Sh_possibleAt_L4 fu k l1 σ kont n l2 l3) K → V p l e R s m args below meth c 4 D A cells slots Q (wl ad cI cB σ) 4 [(0, Value.ref (ad k)), (1, Value.int l1), (2, Value.int l2), (3, Value.int l3)] [] := by
  intro n
  induction n with
  | zero =>
    intro l2 l3 h
    exact (wp_none h).elim
  | succ n ih =>
    intro l2 l3 h
    rw [Sh_possibleAt_L4] at h
    refine V_iload_n X 3 d_Sh_possibleAt_4 rfl ?_
    refine V_aload_n X 0 d_Sh_possibleAt_5 rfl ?_
    refine V_getI X 3 1 rfl ji3 (by decide) (by decide) (by decide) fl_Sh_52 d_Sh_possibleAt_6 hl_k hc_k (by decide) ?_
    refine V_icmp_ge X 38 d_Sh_possibleAt_9 (by decide) h (fun c1 h => ?_) (fun c1 h => ?_)
    · skip
      exact hk l2 l3 h
    · skip
      refine V_iload_n X 2 d_Sh_possibleAt_12 rfl ?_
      refine V_aload_n X 0 d_Sh_possibleAt_13 rfl ?_
      refine V_iload_n X 3 d_Sh_possibleAt_14 rfl ?_
      refine V_iload_n X 1 d_Sh_possibleAt_15 rfl ?_
      refine V_cI X h (fun r2 q => C_V (q := 3) X [Value.int l3, Value.int l1] mt_Sh_isPossible ms_Sh_isPossible ml_Sh_115 (k_Sh_isPossible σ k hl_k hc_k l3 l1 r2 q) rfl rfl (by omega) (Nat.le_of_ble_eq_true rfl) rfl hl_k hc_k (by decide) d_Sh_possibleAt_16) (fun r2 h => ?_)
      refine V_if_eq X 29 d_Sh_possibleAt_19 (by decide) h (fun c3 h => ?_) (fun c3 h => ?_)
      · skip
        refine V_iconst (v := 0) X d_Sh_possibleAt_29 (by decide) ?_
        refine V_ior X d_Sh_possibleAt_30 ?_
        refine V_istore_n X [(2, Value.int (l2 ||| (0 : Int32))), (0, Value.ref (ad k)), (1, Value.int l1), (3, Value.int l3)] d_Sh_possibleAt_31 (by decide) rfl ?_
        refine V_iinc X 3 (l3 + (1 : Int32)) [(3, Value.int (l3 + (1 : Int32))), (2, Value.int (l2 ||| (0 : Int32))), (0, Value.ref (ad k)), (1, Value.int l1)] d_Sh_possibleAt_32 rfl (by first | rfl | decide) (by decide) rfl ?_
        refine V_goto X 4 d_Sh_possibleAt_35 (by decide) ?_
        refine V_sub (lv' := [(0, Value.ref (ad k)), (1, Value.int l1), (2, Value.int (l2 ||| (0 : Int32))), (3, Value.int (l3 + (1 : Int32)))]) [2, 3, 1, 0] rfl ?_
        exact ih (l2 ||| (0 : Int32)) (l3 + (1 : Int32)) h
      · skip
        refine V_iload_n X 3 d_Sh_possibleAt_22 rfl ?_
        refine V_cI X h (fun r4 q => C_SN X [Value.int l3] mt_Co_bit ms_Co_bit mn_Sh_75 (k_Co_bit σ l3 r4 q) rfl rfl (by omega) (Nat.le_of_ble_eq_true rfl) d_Sh_possibleAt_23) (fun r4 h => ?_)
        refine V_goto X 30 d_Sh_possibleAt_26 (by decide) ?_
        refine V_ior X d_Sh_possibleAt_30 ?_
        refine V_istore_n X [(2, Value.int (l2 ||| r4)), (0, Value.ref (ad k)), (1, Value.int l1), (3, Value.int l3)] d_Sh_possibleAt_31 (by decide) rfl ?_
        refine V_iinc X 3 (l3 + (1 : Int32)) [(3, Value.int (l3 + (1 : Int32))), (2, Value.int (l2 ||| r4)), (0, Value.ref (ad k)), (1, Value.int l1)] d_Sh_possibleAt_32 rfl (by first | rfl | decide) (by decide) rfl ?_
        refine V_goto X 4 d_Sh_possibleAt_35 (by decide) ?_
        refine V_sub (lv' := [(0, Value.ref (ad k)), (1, Value.int l1), (2, Value.int (l2 ||| r4)), (3, Value.int (l3 + (1 : Int32)))]) [2, 3, 1, 0] rfl ?_
        exact ih (l2 ||| r4) (l3 + (1 : Int32)) h
set_option maxHeartbeats 4000000 in
set_option maxRecDepth 100000 in
theorem k_Sh_possibleAt (fu : Nat) (σ : Sg) (k : Nat) (hl_k : k < 93) (hc_k : jv_cls k = 3) (a0 : Int32) (r : Int32) (h : Sh_possibleAt fu σ k a0 = some r) : Evc y_Sh_possibleAt prog_10_method_31_code 4 (some .int) 5 (fun ad => [Value.ref (ad k), Value.int a0]) σ σ (fun _ => some (.int r)) := by
  refine Evc_ofI (by decide) (fun ad => Nat.le_of_ble_eq_true rfl) (fun p l e R s m args below meth c D ad cI cB A Q X hQ => ?_)
  have X : Cx p R s m args meth c jR3 prog_10_method_31_code 4 5 D ad cI cB A 0 0 := X
  have hQ := hQ.pure
  have h : wpO (Sh_possibleAt fu σ k a0) (fun q => q = r) := ⟨_, h, rfl⟩
  rw [Sh_possibleAt] at h
  refine V_sub (lv' := [(0, Value.ref (ad k)), (1, Value.int a0)]) [0, 1] rfl ?_
  refine V_iconst (v := 0) X d_Sh_possibleAt_0 (by decide) ?_
  refine V_istore_n X [(2, Value.int (0 : Int32)), (0, Value.ref (ad k)), (1, Value.int a0)] d_Sh_possibleAt_1 (by decide) rfl ?_
  refine V_iconst (v := 0) X d_Sh_possibleAt_2 (by decide) ?_
  refine V_istore_n X [(3, Value.int (0 : Int32)), (2, Value.int (0 : Int32)), (0, Value.ref (ad k)), (1, Value.int a0)] d_Sh_possibleAt_3 (by decide) rfl ?_
  refine V_sub (lv' := [(0, Value.ref (ad k)), (1, Value.int a0), (2, Value.int (0 : Int32)), (3, Value.int (0 : Int32))]) [2, 3, 1, 0] rfl ?_
  refine Sh_possibleAt_L4_ok X fu k hl_k hc_k a0 σ _ hQ (fun l2_5 l3_6 h => ?_) fu (0 : Int32) (0 : Int32) h
  refine V_iload_n X 2 d_Sh_possibleAt_38 rfl ?_
  have h9 := wp_some h
  exact hQ _ h9 (fun h9 => absurd h9 (by decide)) _ _ d_Sh_possibleAt_39
set_option maxHeartbeats 4000000 in
set_option maxRecDepth 100000 in
theorem k_Co_tree (fu : Nat) (σ : Sg) (a0 : Int32) (a1 : Int32) (r : Int32) (h : Co_tree fu σ a0 a1 = some r) : Evc y_Co_tree prog_1_method_6_code 3 (some .int) 6 (fun ad => [Value.ref (ad 0), Value.int a0, Value.int a1]) σ σ (fun _ => some (.int r)) := by
  refine Evc_ofI (by decide) (fun ad => Nat.le_of_ble_eq_true rfl) (fun p l e R s m args below meth c D ad cI cB A Q X hQ => ?_)
  have X : Cx p R s m args meth c jR0 prog_1_method_6_code 3 6 D ad cI cB A 0 0 := X
  have hQ := hQ.pure
  have h : wpO (Co_tree fu σ a0 a1) (fun q => q = r) := ⟨_, h, rfl⟩
  rw [Co_tree] at h
  refine V_sub (lv' := [(0, Value.ref (ad 0)), (1, Value.int a0), (2, Value.int a1)]) [0, 1, 2] rfl ?_
  refine V_aload_n X 0 d_Co_tree_0 rfl ?_
  refine V_getR X 0 2 5 rfl ji0 (by decide) (by decide) (by decide) fl_Co_28 d_Co_tree_1 (by decide) (by decide) (by decide) (by decide) ?_
  refine V_iload_n X 1 d_Co_tree_4 rfl ?_
  refine V_cI X h (fun r1 q => C_V (q := 3) X [Value.int a0] mt_Sh_hasTree ms_Sh_hasTree ml_Co_97 (k_Sh_hasTree σ 5 (by decide) (by decide) a0 r1 q) rfl rfl (by omega) (Nat.le_of_ble_eq_true rfl) rfl (by decide) (by decide) (by decide) d_Co_tree_5) (fun r1 h => ?_)
  refine V_if_ne X 14 d_Co_tree_8 (by decide) h (fun c2 h => ?_) (fun c2 h => ?_)
  · skip
    refine V_iload_n X 2 d_Co_tree_14 rfl ?_
    rcases wp_case h with ⟨c3, h⟩ | ⟨c3, h⟩
    · skip
      refine V_tableIn X 25 40 d_Co_tree_15 (0) (by rw [c3]; decide) (by decide) (by decide) rfl (by decide) ?_
      refine V_aload_n X 0 d_Co_tree_40 rfl ?_
      refine V_getR X 0 2 5 rfl ji0 (by decide) (by decide) (by decide) fl_Co_28 d_Co_tree_41 (by decide) (by decide) (by decide) (by decide) ?_
      refine V_iload_n X 1 d_Co_tree_44 rfl ?_
      refine V_cI X h (fun r4 q => C_V (q := 3) X [Value.int a0] mt_Sh_berries ms_Sh_berries ml_Co_101 (k_Sh_berries σ 5 (by decide) (by decide) a0 r4 q) rfl rfl (by omega) (Nat.le_of_ble_eq_true rfl) rfl (by decide) (by decide) (by decide) d_Co_tree_45) (fun r4 h => ?_)
      have h9 := wp_some h
      exact hQ _ h9 (fun h9 => absurd h9 (by decide)) _ _ d_Co_tree_48
    · skip
      rcases wp_case h with ⟨c5, h⟩ | ⟨c5, h⟩
      · skip
        refine V_tableIn X 34 49 d_Co_tree_15 (1) (by rw [c5]; decide) (by decide) (by decide) rfl (by decide) ?_
        refine V_aload_n X 0 d_Co_tree_49 rfl ?_
        refine V_getR X 0 2 5 rfl ji0 (by decide) (by decide) (by decide) fl_Co_28 d_Co_tree_50 (by decide) (by decide) (by decide) (by decide) ?_
        refine V_iload_n X 1 d_Co_tree_53 rfl ?_
        refine V_cI X h (fun r6 q => C_V (q := 3) X [Value.int a0] mt_Sh_birdsAt ms_Sh_birdsAt ml_Co_105 (k_Sh_birdsAt σ 5 (by decide) (by decide) a0 r6 q) rfl rfl (by omega) (Nat.le_of_ble_eq_true rfl) rfl (by decide) (by decide) (by decide) d_Co_tree_54) (fun r6 h => ?_)
        have h9 := wp_some h
        exact hQ _ h9 (fun h9 => absurd h9 (by decide)) _ _ d_Co_tree_57
      · skip
        rcases wp_case h with ⟨c7, h⟩ | ⟨c7, h⟩
        · skip
          refine V_tableIn X 43 58 d_Co_tree_15 (2) (by rw [c7]; decide) (by decide) (by decide) rfl (by decide) ?_
          refine V_aload_n X 0 d_Co_tree_58 rfl ?_
          refine V_getR X 0 2 5 rfl ji0 (by decide) (by decide) (by decide) fl_Co_28 d_Co_tree_59 (by decide) (by decide) (by decide) (by decide) ?_
          refine V_iload_n X 1 d_Co_tree_62 rfl ?_
          refine V_cI X h (fun r8 q => C_V (q := 3) X [Value.int a0] mt_Sh_possibleAt ms_Sh_possibleAt ml_Co_108 (k_Sh_possibleAt fu σ 5 (by decide) (by decide) a0 r8 q) rfl rfl (by omega) (Nat.le_of_ble_eq_true rfl) rfl (by decide) (by decide) (by decide) d_Co_tree_63) (fun r8 h => ?_)
          have h9 := wp_some h
          exact hQ _ h9 (fun h9 => absurd h9 (by decide)) _ _ d_Co_tree_66
        · skip
          refine V_tableOut X 67 d_Co_tree_15 (by have z0 := sw_ne c3 (0) (by decide); have z1 := sw_ne c5 (1) (by decide); have z2 := sw_ne c7 (2) (by decide); omega) (by decide) ?_
          refine V_bipush (v := -102) X d_Co_tree_67 (by decide) ?_
          have h9 := wp_some h
          exact hQ _ h9 (fun h9 => absurd h9 (by decide)) _ _ d_Co_tree_69
  · skip
    refine V_bipush (v := -101) X d_Co_tree_11 (by decide) ?_
    have h9 := wp_some h
    exact hQ _ h9 (fun h9 => absurd h9 (by decide)) _ _ d_Co_tree_13
set_option maxHeartbeats 4000000 in
set_option maxRecDepth 100000 in
theorem k_Sh_unright (σ : Sg) (k : Nat) (hl_k : k < 93) (hc_k : jv_cls k = 3) (a0 : Int32) (σ' : Sg) (h : Sh_unright σ k a0 = some σ') : Evc y_Sh_unright prog_10_method_34_code 2 (none) 2 (fun ad => [Value.ref (ad k), Value.int a0]) σ σ' (fun _ => none) := by
  refine Evc_ofV (by decide) (fun ad => Nat.le_of_ble_eq_true rfl) (fun p l e R s m args below meth c D ad cI cB A Q X hQ => ?_)
  have X : Cx p R s m args meth c jR3 prog_10_method_34_code 2 2 D ad cI cB A 0 0 := X
  have h : wpO (Sh_unright σ k a0) (fun q => q = σ') := ⟨_, h, rfl⟩
  rw [Sh_unright] at h
  refine V_sub (lv' := [(0, Value.ref (ad k)), (1, Value.int a0)]) [0, 1] rfl ?_
  refine V_aload_n X 0 d_Sh_unright_0 rfl ?_
  refine V_dup X d_Sh_unright_1 rfl ?_
  refine V_getI X 3 11 rfl ji3 (by decide) (by decide) (by decide) fl_Sh_55 d_Sh_unright_2 hl_k hc_k (by decide) ?_
  refine V_iload_n X 1 d_Sh_unright_5 rfl ?_
  refine V_cI X h (fun r1 q => C_SN X [Value.int a0] mt_Co_bit ms_Co_bit mn_Sh_75 (k_Co_bit σ a0 r1 q) rfl rfl (by omega) (Nat.le_of_ble_eq_true rfl) d_Sh_unright_6) (fun r1 h => ?_)
  refine V_iconst (v := -1) X d_Sh_unright_9 (by decide) ?_
  refine V_ixor X d_Sh_unright_10 ?_
  refine V_iand X d_Sh_unright_11 ?_
  refine V_putI X 3 11 rfl ji3 jk3 jn3 (by decide) (by decide) (by decide) rfl (by decide +kernel) fl_Sh_55 d_Sh_unright_12 hl_k hc_k (by decide) ?_
  have h9 := wp_some h
  exact hQ _ h9 _ _ d_Sh_unright_15
set_option maxHeartbeats 4000000 in
set_option maxRecDepth 100000 in
theorem k_Co_walk (fu : Nat) (σ : Sg) (a0 : Int32) (r : Int32) (σ' : Sg) (h : Co_walk fu σ a0 = some (r, σ')) : Evc y_Co_walk prog_1_method_13_code 2 (some .int) 4 (fun ad => [Value.ref (ad 0), Value.int a0]) σ σ' (fun _ => some (.int r)) := by
  refine Evc_ofI (by decide) (fun ad => Nat.le_of_ble_eq_true rfl) (fun p l e R s m args below meth c D ad cI cB A Q X hQ => ?_)
  have X : Cx p R s m args meth c jR0 prog_1_method_13_code 2 4 D ad cI cB A 0 0 := X
  have h : wpO (Co_walk fu σ a0) (fun q => q = (r, σ')) := ⟨_, h, rfl⟩
  rw [Co_walk] at h
  refine V_sub (lv' := [(0, Value.ref (ad 0)), (1, Value.int a0)]) [0, 1] rfl ?_
  refine V_aload_n X 0 d_Co_walk_0 rfl ?_
  refine V_getR X 0 2 5 rfl ji0 (by decide) (by decide) (by decide) fl_Co_28 d_Co_walk_1 (by decide) (by decide) (by decide) (by decide) ?_
  refine V_iload_n X 1 d_Co_walk_4 rfl ?_
  refine V_cI X h (fun r1 q => C_V (q := 3) X [Value.int a0] mt_Sh_hasSuit ms_Sh_hasSuit ml_Co_111 (k_Sh_hasSuit σ 5 (by decide) (by decide) a0 r1 q) rfl rfl (by omega) (Nat.le_of_ble_eq_true rfl) rfl (by decide) (by decide) (by decide) d_Co_walk_5) (fun r1 h => ?_)
  refine V_if_ne X 14 d_Co_walk_8 (by decide) h (fun c2 h => ?_) (fun c2 h => ?_)
  · skip
    refine V_aload_n X 0 d_Co_walk_14 rfl ?_
    refine V_getR X 0 2 5 rfl ji0 (by decide) (by decide) (by decide) fl_Co_28 d_Co_walk_15 (by decide) (by decide) (by decide) (by decide) ?_
    refine V_cI X h (fun r3 q => C_V (q := 3) X [] mt_Sh_righted ms_Sh_righted ml_Co_129 (k_Sh_righted σ 5 (by decide) (by decide) r3 q) rfl rfl (by omega) (Nat.le_of_ble_eq_true rfl) rfl (by decide) (by decide) (by decide) d_Co_walk_18) (fun r3 h => ?_)
    refine V_iload_n X 1 d_Co_walk_21 rfl ?_
    refine V_cI X h (fun r4 q => C_S X [Value.int r3, Value.int a0] mt_Co_has ms_Co_has ml_Co_132 (k_Co_has σ r3 a0 r4 q) rfl rfl (by omega) (Nat.le_of_ble_eq_true rfl) d_Co_walk_22) (fun r4 h => ?_)
    refine V_if_ne X 31 d_Co_walk_25 (by decide) h (fun c5 h => ?_) (fun c5 h => ?_)
    · skip
      refine V_aload_n X 0 d_Co_walk_31 rfl ?_
      refine V_getR X 0 2 5 rfl ji0 (by decide) (by decide) (by decide) fl_Co_28 d_Co_walk_32 (by decide) (by decide) (by decide) (by decide) ?_
      refine V_iload_n X 1 d_Co_walk_35 rfl ?_
      refine V_cV X h (fun s6 q => C_V (q := 3) X [Value.int a0] mt_Sh_unright ms_Sh_unright ml_Co_177 (k_Sh_unright σ 5 (by decide) (by decide) a0 s6 q) rfl rfl (by omega) (Nat.le_of_ble_eq_true rfl) rfl (by decide) (by decide) (by decide) d_Co_walk_36) (fun s6 h => ?_)
      refine V_aload_n X 0 d_Co_walk_39 rfl ?_
      refine V_getR X 0 2 5 rfl ji0 (by decide) (by decide) (by decide) fl_Co_28 d_Co_walk_40 (by decide) (by decide) (by decide) (by decide) ?_
      refine V_cI X h (fun r7 q => C_V (q := 3) X [] mt_Sh_holds ms_Sh_holds ml_Co_180 (k_Sh_holds fu s6 5 (by decide) (by decide) r7 q) rfl rfl (by omega) (Nat.le_of_ble_eq_true rfl) rfl (by decide) (by decide) (by decide) d_Co_walk_43) (fun r7 h => ?_)
      have h9 := wp_some h
      exact hQ _ _ h9 (fun h9 => absurd h9 (by decide)) _ _ d_Co_walk_46
    · skip
      refine V_bipush (v := -103) X d_Co_walk_28 (by decide) ?_
      have h9 := wp_some h
      exact hQ _ _ h9 (fun h9 => absurd h9 (by decide)) _ _ d_Co_walk_30
  · skip
    refine V_bipush (v := -101) X d_Co_walk_11 (by decide) ?_
    have h9 := wp_some h
    exact hQ _ _ h9 (fun h9 => absurd h9 (by decide)) _ _ d_Co_walk_13
set_option maxHeartbeats 4000000 in
set_option maxRecDepth 100000 in
theorem k_Co_year (fu : Nat) (σ : Sg) (r : Int32) (σ' : Sg) (h : Co_year fu σ = some (r, σ')) : Evc y_Co_year prog_1_method_10_code 1 (some .int) 3 (fun ad => [Value.ref (ad 0)]) σ σ' (fun _ => some (.int r)) := by
  refine Evc_ofI (by decide) (fun ad => Nat.le_of_ble_eq_true rfl) (fun p l e R s m args below meth c D ad cI cB A Q X hQ => ?_)
  have X : Cx p R s m args meth c jR0 prog_1_method_10_code 1 3 D ad cI cB A 0 0 := X
  have h : wpO (Co_year fu σ) (fun q => q = (r, σ')) := ⟨_, h, rfl⟩
  rw [Co_year] at h
  refine V_sub (lv' := [(0, Value.ref (ad 0))]) [0] rfl ?_
  refine V_aload_n X 0 d_Co_year_0 rfl ?_
  refine V_cI X h (fun r1 q => C_V (q := 0) X [] mt_Co_isRead ms_Co_isRead ml_Co_161 (k_Co_isRead σ r1 q) rfl rfl (by omega) (Nat.le_of_ble_eq_true rfl) rfl (by decide) (by decide) (by decide) d_Co_year_1) (fun r1 h => ?_)
  refine V_if_ne X 10 d_Co_year_4 (by decide) h (fun c2 h => ?_) (fun c2 h => ?_)
  · skip
    refine V_aload_n X 0 d_Co_year_10 rfl ?_
    refine V_getR X 0 2 5 rfl ji0 (by decide) (by decide) (by decide) fl_Co_28 d_Co_year_11 (by decide) (by decide) (by decide) (by decide) ?_
    refine V_cI X h (fun r3 q => C_V (q := 3) X [] mt_Sh_years ms_Sh_years ml_Co_164 (k_Sh_years σ 5 (by decide) (by decide) r3 q) rfl rfl (by omega) (Nat.le_of_ble_eq_true rfl) rfl (by decide) (by decide) (by decide) d_Co_year_14) (fun r3 h => ?_)
    refine V_sipush (v := 999) X d_Co_year_17 (by decide) ?_
    refine V_icmp_lt X 26 d_Co_year_20 (by decide) h (fun c4 h => ?_) (fun c4 h => ?_)
    · skip
      refine V_aload_n X 0 d_Co_year_26 rfl ?_
      refine V_getR X 0 2 5 rfl ji0 (by decide) (by decide) (by decide) fl_Co_28 d_Co_year_27 (by decide) (by decide) (by decide) (by decide) ?_
      refine V_cV X h (fun s5 q => C_V (q := 3) X [] mt_Sh_passYear ms_Sh_passYear ml_Co_167 (k_Sh_passYear fu σ 5 (by decide) (by decide) s5 q) rfl rfl (by omega) (Nat.le_of_ble_eq_true rfl) rfl (by decide) (by decide) (by decide) d_Co_year_30) (fun s5 h => ?_)
      refine V_aload_n X 0 d_Co_year_33 rfl ?_
      refine V_getR X 0 2 5 rfl ji0 (by decide) (by decide) (by decide) fl_Co_28 d_Co_year_34 (by decide) (by decide) (by decide) (by decide) ?_
      refine V_cI X h (fun r6 q => C_V (q := 3) X [] mt_Sh_years ms_Sh_years ml_Co_164 (k_Sh_years s5 5 (by decide) (by decide) r6 q) rfl rfl (by omega) (Nat.le_of_ble_eq_true rfl) rfl (by decide) (by decide) (by decide) d_Co_year_37) (fun r6 h => ?_)
      have h9 := wp_some h
      exact hQ _ _ h9 (fun h9 => absurd h9 (by decide)) _ _ d_Co_year_40
    · skip
      refine V_bipush (v := -104) X d_Co_year_23 (by decide) ?_
      have h9 := wp_some h
      exact hQ _ _ h9 (fun h9 => absurd h9 (by decide)) _ _ d_Co_year_25
  · skip
    refine V_bipush (v := -103) X d_Co_year_7 (by decide) ?_
    have h9 := wp_some h
    exact hQ _ _ h9 (fun h9 => absurd h9 (by decide)) _ _ d_Co_year_9
