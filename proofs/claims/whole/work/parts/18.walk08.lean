set_option maxHeartbeats 4000000 in
set_option maxRecDepth 100000 in
theorem Mo_shire_L33_ok {p : Program} {l : Launch} {e : Env} {R : Room} {s : State} {m : MethodId} {args : Array Value} {below : List Frame} {meth : Method} {c : Code} {D : va_G} {ad : Nat → Nat} {cI cB : ClassId} {A : Nat → Prop} {cells slots : Nat} {Q : State → Prop} (X : Cx p R s m args meth c jR10 prog_13_method_16_code 3 6 D ad cI cB A cells slots) (fu : Nat) (kont : (Int32 → Sg → Option (Int32 × Sg))) {K : (Int32 × Sg) → Prop} (hQ : RI p l e R s m args below meth c 3 D ad cI cB A cells slots Q prog_13_method_16_code false K) (hk : ∀ (l1 : Int32) (σ : Sg), wpO (kont l1 σ) K → V p l e R s m args below meth c 3 D A cells slots Q (wl ad cI cB σ) 83 [(0, Value.ref (ad 91)), (1, Value.int l1)] []) : ∀ (n : Nat) (l1 : Int32) (σ : Sg), wpO (Mo_shire_L33 fu kont n l1 σ) K → V p l e R s m args below meth c 3 D A cells slots Q (wl ad cI cB σ) 33 [(0, Value.ref (ad 91)), (1, Value.int l1)] [] := by
  intro n
  induction n with
  | zero =>
    intro l1 σ h
    exact (wp_none h).elim
  | succ n ih =>
    intro l1 σ h
    rw [Mo_shire_L33] at h
    refine V_iload_n X 1 d_Mo_shire_33 rfl ?_
    refine V_aload_n X 0 d_Mo_shire_34 rfl ?_
    refine V_getI X 10 1 rfl ji10 (by decide) (by decide) (by decide) fl_Mo_121 d_Mo_shire_35 (by decide) (by decide) (by decide) ?_
    refine V_icmp_ge X 83 d_Mo_shire_38 (by decide) h (fun c4 h => ?_) (fun c4 h => ?_)
    · skip
      exact hk l1 σ h
    · skip
      refine V_aload_n X 0 d_Mo_shire_41 rfl ?_
      refine V_getR X 10 3 92 rfl ji10 (by decide) (by decide) (by decide) fl_Mo_7 d_Mo_shire_42 (by decide) (by decide) (by decide) (by decide) ?_
      refine V_iload_n X 1 d_Mo_shire_45 rfl ?_
      refine V_aload_n X 0 d_Mo_shire_46 rfl ?_
      refine V_getR X 10 18 101 rfl ji10 (by decide) (by decide) (by decide) fl_Mo_37 d_Mo_shire_47 (by decide) (by decide) (by decide) (by decide) ?_
      refine V_iconst (v := 3) X d_Mo_shire_50 (by decide) ?_
      refine V_iload_n X 1 d_Mo_shire_51 rfl ?_
      refine V_imul X d_Mo_shire_52 ?_
      refine V_bald X d_Mo_shire_53 (by decide) (by decide) rfl h (fun h => ?_)
      refine V_bipush (v := 48) X d_Mo_shire_54 (by decide) ?_
      refine V_isub X d_Mo_shire_56 ?_
      refine V_iast X d_Mo_shire_57 (by decide) (by decide) rfl h (fun h => ?_)
      refine V_aload_n X 0 d_Mo_shire_58 rfl ?_
      refine V_getR X 10 4 93 rfl ji10 (by decide) (by decide) (by decide) fl_Mo_13 d_Mo_shire_59 (by decide) (by decide) (by decide) (by decide) ?_
      refine V_iload_n X 1 d_Mo_shire_62 rfl ?_
      refine V_aload_n X 0 d_Mo_shire_63 rfl ?_
      refine V_getR X 10 18 101 rfl ji10 (by decide) (by decide) (by decide) fl_Mo_37 d_Mo_shire_64 (by decide) (by decide) (by decide) (by decide) ?_
      refine V_iconst (v := 3) X d_Mo_shire_67 (by decide) ?_
      refine V_iload_n X 1 d_Mo_shire_68 rfl ?_
      refine V_imul X d_Mo_shire_69 ?_
      refine V_iconst (v := 1) X d_Mo_shire_70 (by decide) ?_
      refine V_iadd X d_Mo_shire_71 ?_
      refine V_bald X d_Mo_shire_72 (by decide) (by decide) rfl h (fun h => ?_)
      refine V_bipush (v := 48) X d_Mo_shire_73 (by decide) ?_
      refine V_isub X d_Mo_shire_75 ?_
      refine V_iast X d_Mo_shire_76 (by decide) (by decide) rfl h (fun h => ?_)
      refine V_iinc X 1 (l1 + (1 : Int32)) [(1, Value.int (l1 + (1 : Int32))), (0, Value.ref (ad 91))] d_Mo_shire_77 rfl (by first | rfl | decide) (by decide) rfl ?_
      refine V_goto X 33 d_Mo_shire_80 (by decide) ?_
      refine V_sub (lv' := [(0, Value.ref (ad 91)), (1, Value.int (l1 + (1 : Int32)))]) [1, 0] rfl ?_
      exact ih (l1 + (1 : Int32)) (sA (sA σ 92 (ix l1) ((gA σ 101 (ix ((3 : Int32) * l1))) - (48 : Int32))) 93 (ix l1) ((gA (sA σ 92 (ix l1) ((gA σ 101 (ix ((3 : Int32) * l1))) - (48 : Int32))) 101 (ix (((3 : Int32) * l1) + (1 : Int32)))) - (48 : Int32))) h
set_option maxHeartbeats 4000000 in
set_option maxRecDepth 100000 in
theorem Mo_shire_L85_ok {p : Program} {l : Launch} {e : Env} {R : Room} {s : State} {m : MethodId} {args : Array Value} {below : List Frame} {meth : Method} {c : Code} {D : va_G} {ad : Nat → Nat} {cI cB : ClassId} {A : Nat → Prop} {cells slots : Nat} {Q : State → Prop} (X : Cx p R s m args meth c jR10 prog_13_method_16_code 3 6 D ad cI cB A cells slots) (fu : Nat) (kont : (Int32 → Sg → Option (Int32 × Sg))) {K : (Int32 × Sg) → Prop} (hQ : RI p l e R s m args below meth c 3 D ad cI cB A cells slots Q prog_13_method_16_code false K) (hk : ∀ (l1 : Int32) (σ : Sg), wpO (kont l1 σ) K → V p l e R s m args below meth c 3 D A cells slots Q (wl ad cI cB σ) 193 [(0, Value.ref (ad 91)), (1, Value.int l1)] []) : ∀ (n : Nat) (l1 : Int32) (σ : Sg), wpO (Mo_shire_L85 fu kont n l1 σ) K → V p l e R s m args below meth c 3 D A cells slots Q (wl ad cI cB σ) 85 [(0, Value.ref (ad 91)), (1, Value.int l1)] [] := by
  intro n
  induction n with
  | zero =>
    intro l1 σ h
    exact (wp_none h).elim
  | succ n ih =>
    intro l1 σ h
    rw [Mo_shire_L85] at h
    refine V_iload_n X 1 d_Mo_shire_85 rfl ?_
    refine V_aload_n X 0 d_Mo_shire_86 rfl ?_
    refine V_getI X 10 2 rfl ji10 (by decide) (by decide) (by decide) fl_Mo_124 d_Mo_shire_87 (by decide) (by decide) (by decide) ?_
    refine V_icmp_ge X 193 d_Mo_shire_90 (by decide) h (fun c7 h => ?_) (fun c7 h => ?_)
    · skip
      exact hk l1 σ h
    · skip
      refine V_iconst (v := 3) X d_Mo_shire_93 (by decide) ?_
      refine V_aload_n X 0 d_Mo_shire_94 rfl ?_
      refine V_getI X 10 1 rfl ji10 (by decide) (by decide) (by decide) fl_Mo_121 d_Mo_shire_95 (by decide) (by decide) (by decide) ?_
      refine V_imul X d_Mo_shire_98 ?_
      refine V_iconst (v := 5) X d_Mo_shire_99 (by decide) ?_
      refine V_iload_n X 1 d_Mo_shire_100 rfl ?_
      refine V_imul X d_Mo_shire_101 ?_
      refine V_iadd X d_Mo_shire_102 ?_
      refine V_istore_n X [(2, Value.int (((3 : Int32) * (gF σ 91 1)) + ((5 : Int32) * l1))), (0, Value.ref (ad 91)), (1, Value.int l1)] d_Mo_shire_103 (by decide) rfl ?_
      refine V_aload_n X 1 d_Mo_shire_104 rfl ?_
      refine V_getR X 10 5 94 rfl ji10 (by decide) (by decide) (by decide) fl_Mo_16 d_Mo_shire_105 (by decide) (by decide) (by decide) (by decide) ?_
      refine V_iload_n X 2 d_Mo_shire_108 rfl ?_
      refine V_aload_n X 1 d_Mo_shire_109 rfl ?_
      refine V_getR X 10 18 101 rfl ji10 (by decide) (by decide) (by decide) fl_Mo_37 d_Mo_shire_110 (by decide) (by decide) (by decide) (by decide) ?_
      refine V_iload_n X 0 d_Mo_shire_113 rfl ?_
      refine V_bald X d_Mo_shire_114 (by decide) (by decide) rfl h (fun h => ?_)
      refine V_cI X h (fun r8 q => C_S X [Value.int (gA σ 101 (ix (((3 : Int32) * (gF σ 91 1)) + ((5 : Int32) * l1))))] mt_Mo_kindBy ms_Mo_kindBy ml_Mo_95 (k_Mo_kindBy σ (gA σ 101 (ix (((3 : Int32) * (gF σ 91 1)) + ((5 : Int32) * l1)))) r8 q) rfl rfl (by omega) (Nat.le_of_ble_eq_true rfl) d_Mo_shire_115) (fun r8 h => ?_)
      refine V_iast X d_Mo_shire_118 (by decide) (by decide) rfl h (fun h => ?_)
      refine V_aload_n X 1 d_Mo_shire_119 rfl ?_
      refine V_getR X 10 6 95 rfl ji10 (by decide) (by decide) (by decide) fl_Mo_19 d_Mo_shire_120 (by decide) (by decide) (by decide) (by decide) ?_
      refine V_iload_n X 2 d_Mo_shire_123 rfl ?_
      refine V_aload_n X 1 d_Mo_shire_124 rfl ?_
      refine V_getR X 10 18 101 rfl ji10 (by decide) (by decide) (by decide) fl_Mo_37 d_Mo_shire_125 (by decide) (by decide) (by decide) (by decide) ?_
      refine V_iload_n X 0 d_Mo_shire_128 rfl ?_
      refine V_iconst (v := 1) X d_Mo_shire_129 (by decide) ?_
      refine V_iadd X d_Mo_shire_130 ?_
      refine V_bald X d_Mo_shire_131 (by decide) (by decide) rfl h (fun h => ?_)
      refine V_bipush (v := 48) X d_Mo_shire_132 (by decide) ?_
      refine V_isub X d_Mo_shire_134 ?_
      refine V_iast X d_Mo_shire_135 (by decide) (by decide) rfl h (fun h => ?_)
      refine V_aload_n X 1 d_Mo_shire_136 rfl ?_
      refine V_getR X 10 7 96 rfl ji10 (by decide) (by decide) (by decide) fl_Mo_22 d_Mo_shire_137 (by decide) (by decide) (by decide) (by decide) ?_
      refine V_iload_n X 2 d_Mo_shire_140 rfl ?_
      refine V_aload_n X 1 d_Mo_shire_141 rfl ?_
      refine V_getR X 10 18 101 rfl ji10 (by decide) (by decide) (by decide) fl_Mo_37 d_Mo_shire_142 (by decide) (by decide) (by decide) (by decide) ?_
      refine V_iload_n X 0 d_Mo_shire_145 rfl ?_
      refine V_iconst (v := 2) X d_Mo_shire_146 (by decide) ?_
      refine V_iadd X d_Mo_shire_147 ?_
      refine V_bald X d_Mo_shire_148 (by decide) (by decide) rfl h (fun h => ?_)
      refine V_bipush (v := 48) X d_Mo_shire_149 (by decide) ?_
      refine V_isub X d_Mo_shire_151 ?_
      refine V_iast X d_Mo_shire_152 (by decide) (by decide) rfl h (fun h => ?_)
      refine V_aload_n X 1 d_Mo_shire_153 rfl ?_
      refine V_getR X 10 8 97 rfl ji10 (by decide) (by decide) (by decide) fl_Mo_25 d_Mo_shire_154 (by decide) (by decide) (by decide) (by decide) ?_
      refine V_iload_n X 2 d_Mo_shire_157 rfl ?_
      refine V_aload_n X 1 d_Mo_shire_158 rfl ?_
      refine V_getR X 10 18 101 rfl ji10 (by decide) (by decide) (by decide) fl_Mo_37 d_Mo_shire_159 (by decide) (by decide) (by decide) (by decide) ?_
      refine V_iload_n X 0 d_Mo_shire_162 rfl ?_
      refine V_iconst (v := 3) X d_Mo_shire_163 (by decide) ?_
      refine V_iadd X d_Mo_shire_164 ?_
      refine V_bald X d_Mo_shire_165 (by decide) (by decide) rfl h (fun h => ?_)
      refine V_bipush (v := 45) X d_Mo_shire_166 (by decide) ?_
      refine V_icmp_ne X 175 d_Mo_shire_168 (by decide) h (fun c9 h => ?_) (fun c9 h => ?_)
      · skip
        refine V_aload_n X 1 d_Mo_shire_175 rfl ?_
        refine V_getR X 10 18 101 rfl ji10 (by decide) (by decide) (by decide) fl_Mo_37 d_Mo_shire_176 (by decide) (by decide) (by decide) (by decide) ?_
        refine V_iload_n X 0 d_Mo_shire_179 rfl ?_
        refine V_iconst (v := 3) X d_Mo_shire_180 (by decide) ?_
        refine V_iadd X d_Mo_shire_181 ?_
        refine V_bald X d_Mo_shire_182 (by decide) (by decide) rfl h (fun h => ?_)
        refine V_bipush (v := 48) X d_Mo_shire_183 (by decide) ?_
        refine V_isub X d_Mo_shire_185 ?_
        refine V_iast X d_Mo_shire_186 (by decide) (by decide) rfl h (fun h => ?_)
        refine V_iinc X 2 (l1 + (1 : Int32)) [(1, Value.int (l1 + (1 : Int32))), (2, Value.int (((3 : Int32) * (gF σ 91 1)) + ((5 : Int32) * l1))), (0, Value.ref (ad 91))] d_Mo_shire_187 rfl (by first | rfl | decide) (by decide) rfl ?_
        refine V_goto X 85 d_Mo_shire_190 (by decide) ?_
        refine V_sub (lv' := [(0, Value.ref (ad 91)), (1, Value.int (l1 + (1 : Int32)))]) [2, 0] rfl ?_
        exact ih (l1 + (1 : Int32)) (sA (sA (sA (sA σ 94 (ix l1) r8) 95 (ix l1) ((gA (sA σ 94 (ix l1) r8) 101 (ix ((((3 : Int32) * (gF σ 91 1)) + ((5 : Int32) * l1)) + (1 : Int32)))) - (48 : Int32))) 96 (ix l1) ((gA (sA (sA σ 94 (ix l1) r8) 95 (ix l1) ((gA (sA σ 94 (ix l1) r8) 101 (ix ((((3 : Int32) * (gF σ 91 1)) + ((5 : Int32) * l1)) + (1 : Int32)))) - (48 : Int32))) 101 (ix ((((3 : Int32) * (gF σ 91 1)) + ((5 : Int32) * l1)) + (2 : Int32)))) - (48 : Int32))) 97 (ix l1) ((gA (sA (sA (sA σ 94 (ix l1) r8) 95 (ix l1) ((gA (sA σ 94 (ix l1) r8) 101 (ix ((((3 : Int32) * (gF σ 91 1)) + ((5 : Int32) * l1)) + (1 : Int32)))) - (48 : Int32))) 96 (ix l1) ((gA (sA (sA σ 94 (ix l1) r8) 95 (ix l1) ((gA (sA σ 94 (ix l1) r8) 101 (ix ((((3 : Int32) * (gF σ 91 1)) + ((5 : Int32) * l1)) + (1 : Int32)))) - (48 : Int32))) 101 (ix ((((3 : Int32) * (gF σ 91 1)) + ((5 : Int32) * l1)) + (2 : Int32)))) - (48 : Int32))) 101 (ix ((((3 : Int32) * (gF σ 91 1)) + ((5 : Int32) * l1)) + (3 : Int32)))) - (48 : Int32))) h
      · skip
        refine V_iconst (v := -1) X d_Mo_shire_171 (by decide) ?_
        refine V_goto X 186 d_Mo_shire_172 (by decide) ?_
        refine V_iast X d_Mo_shire_186 (by decide) (by decide) rfl h (fun h => ?_)
        refine V_iinc X 2 (l1 + (1 : Int32)) [(1, Value.int (l1 + (1 : Int32))), (2, Value.int (((3 : Int32) * (gF σ 91 1)) + ((5 : Int32) * l1))), (0, Value.ref (ad 91))] d_Mo_shire_187 rfl (by first | rfl | decide) (by decide) rfl ?_
        refine V_goto X 85 d_Mo_shire_190 (by decide) ?_
        refine V_sub (lv' := [(0, Value.ref (ad 91)), (1, Value.int (l1 + (1 : Int32)))]) [2, 0] rfl ?_
        exact ih (l1 + (1 : Int32)) (sA (sA (sA (sA σ 94 (ix l1) r8) 95 (ix l1) ((gA (sA σ 94 (ix l1) r8) 101 (ix ((((3 : Int32) * (gF σ 91 1)) + ((5 : Int32) * l1)) + (1 : Int32)))) - (48 : Int32))) 96 (ix l1) ((gA (sA (sA σ 94 (ix l1) r8) 95 (ix l1) ((gA (sA σ 94 (ix l1) r8) 101 (ix ((((3 : Int32) * (gF σ 91 1)) + ((5 : Int32) * l1)) + (1 : Int32)))) - (48 : Int32))) 101 (ix ((((3 : Int32) * (gF σ 91 1)) + ((5 : Int32) * l1)) + (2 : Int32)))) - (48 : Int32))) 97 (ix l1) (-1 : Int32)) h
set_option maxHeartbeats 4000000 in
set_option maxRecDepth 100000 in
theorem k_Mo_shire (fu : Nat) (σ : Sg) (r : Int32) (σ' : Sg) (h : Mo_shire fu σ = some (r, σ')) : Evc y_Mo_shire prog_13_method_16_code 3 (some .int) 6 (fun ad => [Value.ref (ad 91)]) σ σ' (fun _ => some (.int r)) := by
  refine Evc_ofI (by decide) (fun ad => Nat.le_of_ble_eq_true rfl) (fun p l e R s m args below meth c D ad cI cB A Q X hQ => ?_)
  have X : Cx p R s m args meth c jR10 prog_13_method_16_code 3 6 D ad cI cB A 0 0 := X
  have h : wpO (Mo_shire fu σ) (fun q => q = (r, σ')) := ⟨_, h, rfl⟩
  rw [Mo_shire] at h
  refine V_sub (lv' := [(0, Value.ref (ad 91))]) [0] rfl ?_
  refine V_aload_n X 0 d_Mo_shire_0 rfl ?_
  refine V_cP X h (fun r1 s2 q => C_V (q := 10) X [] mt_Mo_read ms_Mo_read ml_Mo_117 (k_Mo_read fu σ r1 s2 q) rfl rfl (by omega) (Nat.le_of_ble_eq_true rfl) rfl (by decide) (by decide) (by decide) d_Mo_shire_1) (fun r1 s2 h => ?_)
  refine V_pop X d_Mo_shire_4 rfl ?_
  refine V_aload_n X 0 d_Mo_shire_5 rfl ?_
  refine V_getI X 10 19 rfl ji10 (by decide) (by decide) (by decide) fl_Mo_107 d_Mo_shire_6 (by decide) (by decide) (by decide) ?_
  refine V_if_ne X 15 d_Mo_shire_9 (by decide) h (fun c3 h => ?_) (fun c3 h => ?_)
  · skip
    refine V_aload_n X 0 d_Mo_shire_15 rfl ?_
    refine V_aload_n X 0 d_Mo_shire_16 rfl ?_
    refine V_getI X 10 20 rfl ji10 (by decide) (by decide) (by decide) fl_Mo_111 d_Mo_shire_17 (by decide) (by decide) (by decide) ?_
    refine V_putI X 10 1 rfl ji10 jk10 jn10 (by decide) (by decide) (by decide) rfl (by decide +kernel) fl_Mo_121 d_Mo_shire_20 (by decide) (by decide) (by decide) ?_
    refine V_aload_n X 0 d_Mo_shire_23 rfl ?_
    refine V_aload_n X 0 d_Mo_shire_24 rfl ?_
    refine V_getI X 10 21 rfl ji10 (by decide) (by decide) (by decide) fl_Mo_101 d_Mo_shire_25 (by decide) (by decide) (by decide) ?_
    refine V_putI X 10 2 rfl ji10 jk10 jn10 (by decide) (by decide) (by decide) rfl (by decide +kernel) fl_Mo_124 d_Mo_shire_28 (by decide) (by decide) (by decide) ?_
    refine V_iconst (v := 0) X d_Mo_shire_31 (by decide) ?_
    refine V_istore_n X [(1, Value.int (0 : Int32)), (0, Value.ref (ad 91))] d_Mo_shire_32 (by decide) rfl ?_
    refine V_sub (lv' := [(0, Value.ref (ad 91)), (1, Value.int (0 : Int32))]) [1, 0] rfl ?_
    refine Mo_shire_L33_ok X fu _ hQ (fun l1_5 s6 h => ?_) fu (0 : Int32) (sF (sF s2 91 1 (gF s2 91 20)) 91 2 (gF (sF s2 91 1 (gF s2 91 20)) 91 21)) h
    refine V_iconst (v := 0) X d_Mo_shire_83 (by decide) ?_
    refine V_istore_n X [(1, Value.int (0 : Int32)), (0, Value.ref (ad 91))] d_Mo_shire_84 (by decide) rfl ?_
    refine V_sub (lv' := [(0, Value.ref (ad 91)), (1, Value.int (0 : Int32))]) [1, 0] rfl ?_
    refine Mo_shire_L85_ok X fu _ hQ (fun l1_10 s11 h => ?_) fu (0 : Int32) s6 h
    refine V_aload_n X 0 d_Mo_shire_193 rfl ?_
    refine V_iconst (v := 0) X d_Mo_shire_194 (by decide) ?_
    refine V_putI X 10 9 rfl ji10 jk10 jn10 (by decide) (by decide) (by decide) rfl (by decide +kernel) fl_Mo_127 d_Mo_shire_195 (by decide) (by decide) (by decide) ?_
    refine V_aload_n X 0 d_Mo_shire_198 rfl ?_
    refine V_iconst (v := 0) X d_Mo_shire_199 (by decide) ?_
    refine V_putI X 10 10 rfl ji10 jk10 jn10 (by decide) (by decide) (by decide) rfl (by decide +kernel) fl_Mo_130 d_Mo_shire_200 (by decide) (by decide) (by decide) ?_
    refine V_aload_n X 0 d_Mo_shire_203 rfl ?_
    refine V_iconst (v := 0) X d_Mo_shire_204 (by decide) ?_
    refine V_putI X 10 11 rfl ji10 jk10 jn10 (by decide) (by decide) (by decide) rfl (by decide +kernel) fl_Mo_133 d_Mo_shire_205 (by decide) (by decide) (by decide) ?_
    refine V_aload_n X 0 d_Mo_shire_208 rfl ?_
    refine V_dup X d_Mo_shire_209 rfl ?_
    refine V_getI X 10 0 rfl ji10 (by decide) (by decide) (by decide) fl_Mo_136 d_Mo_shire_210 (by decide) (by decide) (by decide) ?_
    refine V_iconst (v := 1) X d_Mo_shire_213 (by decide) ?_
    refine V_iadd X d_Mo_shire_214 ?_
    refine V_putI X 10 0 rfl ji10 jk10 jn10 (by decide) (by decide) (by decide) rfl (by decide +kernel) fl_Mo_136 d_Mo_shire_215 (by decide) (by decide) (by decide) ?_
    refine V_aload_n X 0 d_Mo_shire_218 rfl ?_
    refine V_iconst (v := 0) X d_Mo_shire_219 (by decide) ?_
    refine V_putI X 10 13 rfl ji10 jk10 jn10 (by decide) (by decide) (by decide) rfl (by decide +kernel) fl_Mo_139 d_Mo_shire_220 (by decide) (by decide) (by decide) ?_
    refine V_aload_n X 0 d_Mo_shire_223 rfl ?_
    refine V_iconst (v := 0) X d_Mo_shire_224 (by decide) ?_
    refine V_putI X 10 17 rfl ji10 jk10 jn10 (by decide) (by decide) (by decide) rfl (by decide +kernel) fl_Mo_87 d_Mo_shire_225 (by decide) (by decide) (by decide) ?_
    refine V_aload_n X 0 d_Mo_shire_228 rfl ?_
    refine V_getI X 10 2 rfl ji10 (by decide) (by decide) (by decide) fl_Mo_124 d_Mo_shire_229 (by decide) (by decide) (by decide) ?_
    have h9 := wp_some h
    exact hQ _ _ h9 (fun h9 => absurd h9 (by decide)) _ _ d_Mo_shire_232
  · skip
    refine V_bipush (v := -103) X d_Mo_shire_12 (by decide) ?_
    have h9 := wp_some h
    exact hQ _ _ h9 (fun h9 => absurd h9 (by decide)) _ _ d_Mo_shire_14
set_option maxHeartbeats 4000000 in
set_option maxRecDepth 100000 in
theorem k_Mo_suit (fu : Nat) (σ : Sg) (a0 : Int32) (a1 : Int32) (r : Int32) (σ' : Sg) (h : Mo_suit fu σ a0 a1 = some (r, σ')) : Evc y_Mo_suit prog_13_method_28_code 3 (some .int) 7 (fun ad => [Value.ref (ad 91), Value.int a0, Value.int a1]) σ σ' (fun _ => some (.int r)) := by
  refine Evc_ofI (by decide) (fun ad => Nat.le_of_ble_eq_true rfl) (fun p l e R s m args below meth c D ad cI cB A Q X hQ => ?_)
  have X : Cx p R s m args meth c jR10 prog_13_method_28_code 3 7 D ad cI cB A 0 0 := X
  have h : wpO (Mo_suit fu σ a0 a1) (fun q => q = (r, σ')) := ⟨_, h, rfl⟩
  rw [Mo_suit] at h
  refine V_sub (lv' := [(0, Value.ref (ad 91)), (1, Value.int a0), (2, Value.int a1)]) [0, 1, 2] rfl ?_
  refine V_aload_n X 0 d_Mo_suit_0 rfl ?_
  refine V_iload_n X 1 d_Mo_suit_1 rfl ?_
  refine V_cI X h (fun r1 q => C_V (q := 10) X [Value.int a0] mt_Mo_isCase ms_Mo_isCase ml_Mo_178 (k_Mo_isCase σ a0 r1 q) rfl rfl (by omega) (Nat.le_of_ble_eq_true rfl) rfl (by decide) (by decide) (by decide) d_Mo_suit_2) (fun r1 h => ?_)
  refine V_if_ne X 13 d_Mo_suit_5 (by decide) h (fun c2 h => ?_) (fun c2 h => ?_)
  · skip
    refine V_iload_n X 2 d_Mo_suit_13 rfl ?_
    refine V_iconst (v := 0) X d_Mo_suit_14 (by decide) ?_
    refine V_bipush (v := 9) X d_Mo_suit_15 (by decide) ?_
    refine V_cI X h (fun r3 q => C_S X [Value.int a1, Value.int (0 : Int32), Value.int (9 : Int32)] mt_Mo_within ms_Mo_within ml_Mo_83 (k_Mo_within σ a1 (0 : Int32) (9 : Int32) r3 q) rfl rfl (by omega) (Nat.le_of_ble_eq_true rfl) d_Mo_suit_17) (fun r3 h => ?_)
    refine V_if_eq X 32 d_Mo_suit_20 (by decide) h (fun c4 h => ?_) (fun c4 h => ?_)
    · skip
      refine V_bipush (v := -102) X d_Mo_suit_32 (by decide) ?_
      have h9 := wp_some h
      exact hQ _ _ h9 (fun h9 => absurd h9 (by decide)) _ _ d_Mo_suit_34
    · skip
      refine V_aload_n X 0 d_Mo_suit_23 rfl ?_
      refine V_iload_n X 1 d_Mo_suit_24 rfl ?_
      refine V_iload_n X 2 d_Mo_suit_25 rfl ?_
      refine V_cP X h (fun r5 s6 q => C_V (q := 10) X [Value.int a0, Value.int a1] mt_Mo_suitNow ms_Mo_suitNow ml_Mo_181 (k_Mo_suitNow fu σ a0 a1 r5 s6 q) rfl rfl (by omega) (Nat.le_of_ble_eq_true rfl) rfl (by decide) (by decide) (by decide) d_Mo_suit_26) (fun r5 s6 h => ?_)
      refine V_goto X 34 d_Mo_suit_29 (by decide) ?_
      have h9 := wp_some h
      exact hQ _ _ h9 (fun h9 => absurd h9 (by decide)) _ _ d_Mo_suit_34
  · skip
    refine V_bipush (v := -101) X d_Mo_suit_8 (by decide) ?_
    refine V_goto X 34 d_Mo_suit_10 (by decide) ?_
    have h9 := wp_some h
    exact hQ _ _ h9 (fun h9 => absurd h9 (by decide)) _ _ d_Mo_suit_34
set_option maxHeartbeats 4000000 in
set_option maxRecDepth 100000 in
theorem k_Mo_tree (fu : Nat) (σ : Sg) (a0 : Int32) (a1 : Int32) (r : Int32) (h : Mo_tree fu σ a0 a1 = some r) : Evc y_Mo_tree prog_13_method_26_code 3 (some .int) 5 (fun ad => [Value.ref (ad 91), Value.int a0, Value.int a1]) σ σ (fun _ => some (.int r)) := by
  refine Evc_ofI (by decide) (fun ad => Nat.le_of_ble_eq_true rfl) (fun p l e R s m args below meth c D ad cI cB A Q X hQ => ?_)
  have X : Cx p R s m args meth c jR10 prog_13_method_26_code 3 5 D ad cI cB A 0 0 := X
  have hQ := hQ.pure
  have h : wpO (Mo_tree fu σ a0 a1) (fun q => q = r) := ⟨_, h, rfl⟩
  rw [Mo_tree] at h
  refine V_sub (lv' := [(0, Value.ref (ad 91)), (1, Value.int a0), (2, Value.int a1)]) [0, 1, 2] rfl ?_
  refine V_aload_n X 0 d_Mo_tree_0 rfl ?_
  refine V_iload_n X 1 d_Mo_tree_1 rfl ?_
  refine V_cI X h (fun r1 q => C_V (q := 10) X [Value.int a0] mt_Mo_isTree ms_Mo_isTree ml_Mo_158 (k_Mo_isTree σ a0 r1 q) rfl rfl (by omega) (Nat.le_of_ble_eq_true rfl) rfl (by decide) (by decide) (by decide) d_Mo_tree_2) (fun r1 h => ?_)
  refine V_if_ne X 13 d_Mo_tree_5 (by decide) h (fun c2 h => ?_) (fun c2 h => ?_)
  · skip
    refine V_iload_n X 2 d_Mo_tree_13 rfl ?_
    refine V_iconst (v := 0) X d_Mo_tree_14 (by decide) ?_
    refine V_iconst (v := 2) X d_Mo_tree_15 (by decide) ?_
    refine V_cI X h (fun r3 q => C_S X [Value.int a1, Value.int (0 : Int32), Value.int (2 : Int32)] mt_Mo_within ms_Mo_within ml_Mo_83 (k_Mo_within σ a1 (0 : Int32) (2 : Int32) r3 q) rfl rfl (by omega) (Nat.le_of_ble_eq_true rfl) d_Mo_tree_16) (fun r3 h => ?_)
    refine V_if_eq X 31 d_Mo_tree_19 (by decide) h (fun c4 h => ?_) (fun c4 h => ?_)
    · skip
      refine V_bipush (v := -102) X d_Mo_tree_31 (by decide) ?_
      have h9 := wp_some h
      exact hQ _ h9 (fun h9 => absurd h9 (by decide)) _ _ d_Mo_tree_33
    · skip
      refine V_aload_n X 0 d_Mo_tree_22 rfl ?_
      refine V_iload_n X 1 d_Mo_tree_23 rfl ?_
      refine V_iload_n X 2 d_Mo_tree_24 rfl ?_
      refine V_cI X h (fun r5 q => C_V (q := 10) X [Value.int a0, Value.int a1] mt_Mo_treeNow ms_Mo_treeNow ml_Mo_162 (k_Mo_treeNow fu σ a0 a1 r5 q) rfl rfl (by omega) (Nat.le_of_ble_eq_true rfl) rfl (by decide) (by decide) (by decide) d_Mo_tree_25) (fun r5 h => ?_)
      refine V_goto X 33 d_Mo_tree_28 (by decide) ?_
      have h9 := wp_some h
      exact hQ _ h9 (fun h9 => absurd h9 (by decide)) _ _ d_Mo_tree_33
  · skip
    refine V_bipush (v := -101) X d_Mo_tree_8 (by decide) ?_
    refine V_goto X 33 d_Mo_tree_10 (by decide) ?_
    have h9 := wp_some h
    exact hQ _ h9 (fun h9 => absurd h9 (by decide)) _ _ d_Mo_tree_33
set_option maxHeartbeats 4000000 in
set_option maxRecDepth 100000 in
theorem k_Mo_walk (fu : Nat) (σ : Sg) (a0 : Int32) (r : Int32) (σ' : Sg) (h : Mo_walk fu σ a0 = some (r, σ')) : Evc y_Mo_walk prog_13_method_35_code 2 (some .int) 3 (fun ad => [Value.ref (ad 91), Value.int a0]) σ σ' (fun _ => some (.int r)) := by
  refine Evc_ofI (by decide) (fun ad => Nat.le_of_ble_eq_true rfl) (fun p l e R s m args below meth c D ad cI cB A Q X hQ => ?_)
  have X : Cx p R s m args meth c jR10 prog_13_method_35_code 2 3 D ad cI cB A 0 0 := X
  have h : wpO (Mo_walk fu σ a0) (fun q => q = (r, σ')) := ⟨_, h, rfl⟩
  rw [Mo_walk] at h
  refine V_sub (lv' := [(0, Value.ref (ad 91)), (1, Value.int a0)]) [0, 1] rfl ?_
  refine V_aload_n X 0 d_Mo_walk_0 rfl ?_
  refine V_iload_n X 1 d_Mo_walk_1 rfl ?_
  refine V_cI X h (fun r1 q => C_V (q := 10) X [Value.int a0] mt_Mo_isCase ms_Mo_isCase ml_Mo_178 (k_Mo_isCase σ a0 r1 q) rfl rfl (by omega) (Nat.le_of_ble_eq_true rfl) rfl (by decide) (by decide) (by decide) d_Mo_walk_2) (fun r1 h => ?_)
  refine V_if_ne X 11 d_Mo_walk_5 (by decide) h (fun c2 h => ?_) (fun c2 h => ?_)
  · skip
    refine V_aload_n X 0 d_Mo_walk_11 rfl ?_
    refine V_getI X 10 9 rfl ji10 (by decide) (by decide) (by decide) fl_Mo_127 d_Mo_walk_12 (by decide) (by decide) (by decide) ?_
    refine V_iload_n X 1 d_Mo_walk_15 rfl ?_
    refine V_cI X h (fun r3 q => C_S X [Value.int (gF σ 91 9), Value.int a0] mt_Mo_isIn ms_Mo_isIn ml_Mo_142 (k_Mo_isIn σ (gF σ 91 9) a0 r3 q) rfl rfl (by omega) (Nat.le_of_ble_eq_true rfl) d_Mo_walk_16) (fun r3 h => ?_)
    refine V_if_ne X 25 d_Mo_walk_19 (by decide) h (fun c4 h => ?_) (fun c4 h => ?_)
    · skip
      refine V_aload_n X 0 d_Mo_walk_25 rfl ?_
      refine V_dup X d_Mo_walk_26 rfl ?_
      refine V_getI X 10 9 rfl ji10 (by decide) (by decide) (by decide) fl_Mo_127 d_Mo_walk_27 (by decide) (by decide) (by decide) ?_
      refine V_iconst (v := 1) X d_Mo_walk_30 (by decide) ?_
      refine V_iload_n X 1 d_Mo_walk_31 rfl ?_
      refine V_ishl X d_Mo_walk_32 ?_
      refine V_iconst (v := -1) X d_Mo_walk_33 (by decide) ?_
      refine V_ixor X d_Mo_walk_34 ?_
      refine V_iand X d_Mo_walk_35 ?_
      refine V_putI X 10 9 rfl ji10 jk10 jn10 (by decide) (by decide) (by decide) rfl (by decide +kernel) fl_Mo_127 d_Mo_walk_36 (by decide) (by decide) (by decide) ?_
      refine V_aload_n X 0 d_Mo_walk_39 rfl ?_
      refine V_aload_n X 0 d_Mo_walk_40 rfl ?_
      refine V_getI X 10 9 rfl ji10 (by decide) (by decide) (by decide) fl_Mo_127 d_Mo_walk_41 (by decide) (by decide) (by decide) ?_
      refine V_cI X h (fun r5 q => C_V (q := 10) X [Value.int (gF (sF σ 91 9 ((gF σ 91 9) &&& (((1 : Int32) <<< (a0 &&& 31)) ^^^ (-1 : Int32)))) 91 9)] mt_Mo_worthIn ms_Mo_worthIn ml_Mo_187 (k_Mo_worthIn fu (sF σ 91 9 ((gF σ 91 9) &&& (((1 : Int32) <<< (a0 &&& 31)) ^^^ (-1 : Int32)))) (gF (sF σ 91 9 ((gF σ 91 9) &&& (((1 : Int32) <<< (a0 &&& 31)) ^^^ (-1 : Int32)))) 91 9) r5 q) rfl rfl (by omega) (Nat.le_of_ble_eq_true rfl) rfl (by decide) (by decide) (by decide) d_Mo_walk_44) (fun r5 h => ?_)
      have h9 := wp_some h
      exact hQ _ _ h9 (fun h9 => absurd h9 (by decide)) _ _ d_Mo_walk_47
    · skip
      refine V_bipush (v := -103) X d_Mo_walk_22 (by decide) ?_
      have h9 := wp_some h
      exact hQ _ _ h9 (fun h9 => absurd h9 (by decide)) _ _ d_Mo_walk_24
  · skip
    refine V_bipush (v := -101) X d_Mo_walk_8 (by decide) ?_
    have h9 := wp_some h
    exact hQ _ _ h9 (fun h9 => absurd h9 (by decide)) _ _ d_Mo_walk_10
set_option maxHeartbeats 4000000 in
set_option maxRecDepth 100000 in
theorem k_Mo_year (fu : Nat) (σ : Sg) (r : Int32) (σ' : Sg) (h : Mo_year fu σ = some (r, σ')) : Evc y_Mo_year prog_13_method_32_code 1 (some .int) 2 (fun ad => [Value.ref (ad 91)]) σ σ' (fun _ => some (.int r)) := by
  refine Evc_ofI (by decide) (fun ad => Nat.le_of_ble_eq_true rfl) (fun p l e R s m args below meth c D ad cI cB A Q X hQ => ?_)
  have X : Cx p R s m args meth c jR10 prog_13_method_32_code 1 2 D ad cI cB A 0 0 := X
  have h : wpO (Mo_year fu σ) (fun q => q = (r, σ')) := ⟨_, h, rfl⟩
  rw [Mo_year] at h
  refine V_sub (lv' := [(0, Value.ref (ad 91))]) [0] rfl ?_
  refine V_aload_n X 0 d_Mo_year_0 rfl ?_
  refine V_getI X 10 2 rfl ji10 (by decide) (by decide) (by decide) fl_Mo_124 d_Mo_year_1 (by decide) (by decide) (by decide) ?_
  refine V_if_ne X 10 d_Mo_year_4 (by decide) h (fun c1 h => ?_) (fun c1 h => ?_)
  · skip
    refine V_aload_n X 0 d_Mo_year_10 rfl ?_
    refine V_getI X 10 11 rfl ji10 (by decide) (by decide) (by decide) fl_Mo_133 d_Mo_year_11 (by decide) (by decide) (by decide) ?_
    refine V_sipush (v := 999) X d_Mo_year_14 (by decide) ?_
    refine V_icmp_ne X 23 d_Mo_year_17 (by decide) h (fun c2 h => ?_) (fun c2 h => ?_)
    · skip
      refine V_aload_n X 0 d_Mo_year_23 rfl ?_
      refine V_cV X h (fun s3 q => C_V (q := 10) X [] mt_Mo_goYear ms_Mo_goYear ml_Mo_184 (k_Mo_goYear fu σ s3 q) rfl rfl (by omega) (Nat.le_of_ble_eq_true rfl) rfl (by decide) (by decide) (by decide) d_Mo_year_24) (fun s3 h => ?_)
      refine V_aload_n X 0 d_Mo_year_27 rfl ?_
      refine V_dup X d_Mo_year_28 rfl ?_
      refine V_getI X 10 11 rfl ji10 (by decide) (by decide) (by decide) fl_Mo_133 d_Mo_year_29 (by decide) (by decide) (by decide) ?_
      refine V_iconst (v := 1) X d_Mo_year_32 (by decide) ?_
      refine V_iadd X d_Mo_year_33 ?_
      refine V_putI X 10 11 rfl ji10 jk10 jn10 (by decide) (by decide) (by decide) rfl (by decide +kernel) fl_Mo_133 d_Mo_year_34 (by decide) (by decide) (by decide) ?_
      refine V_aload_n X 0 d_Mo_year_37 rfl ?_
      refine V_getI X 10 11 rfl ji10 (by decide) (by decide) (by decide) fl_Mo_133 d_Mo_year_38 (by decide) (by decide) (by decide) ?_
      have h9 := wp_some h
      exact hQ _ _ h9 (fun h9 => absurd h9 (by decide)) _ _ d_Mo_year_41
    · skip
      refine V_bipush (v := -104) X d_Mo_year_20 (by decide) ?_
      have h9 := wp_some h
      exact hQ _ _ h9 (fun h9 => absurd h9 (by decide)) _ _ d_Mo_year_22
  · skip
    refine V_bipush (v := -103) X d_Mo_year_7 (by decide) ?_
    have h9 := wp_some h
    exact hQ _ _ h9 (fun h9 => absurd h9 (by decide)) _ _ d_Mo_year_9
