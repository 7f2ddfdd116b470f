set_option maxHeartbeats 4000000 in
set_option maxRecDepth 100000 in
theorem La_law_L172_ok {p : Program} {l : Launch} {e : Env} {R : Room} {s : State} {m : MethodId} {args : Array Value} {below : List Frame} {meth : Method} {c : Code} {D : va_G} {ad : Nat → Nat} {cI cB : ClassId} {A : Nat → Prop} {cells slots : Nat} {Q : State → Prop} (X : Cx p R s m args meth c R_law code 16 13 D ad cI cB A cells slots) {b L : Nat} {xs : Nat → Int32} (HX : va_X b L xs s s.heap ∧ b < s.heap.size ∧ ¬ A b) (fu : Nat) (l4 : Int32) (l5 : Int32) (l6 : Int32) (l8 : Int32) (l9 : Int32) (kont : (Int64 → Int32 → Int32 → Sg → Option (Int32 × Sg))) {K : (Int32 × Sg) → Prop} (hQ : RI p l e R s m args below meth c 16 D ad cI cB A cells slots Q code true K) (hk : ∀ (l10 : Int64) (l12 : Int32) (l13 : Int32) (σ : Sg), wpO (kont l10 l12 l13 σ) K → V p l e R s m args below meth c 16 D A cells slots Q (wl ad cI cB σ) 284 [(0, Value.ref b), (1, Value.ref (ad 0)), (2, Value.ref (ad 91)), (3, Value.ref (ad 92)), (4, Value.int l4), (5, Value.int l5), (6, Value.int l6), (8, Value.int l8), (9, Value.int l9), (10, Value.long l10), (12, Value.int l12), (13, Value.int l13)] []) : ∀ (n : Nat) (l10 : Int64) (l12 : Int32) (l13 : Int32) (σ : Sg), wpO (La_law_L172 fu xs L l4 l5 l6 l8 l9 kont n l10 l12 l13 σ) K → V p l e R s m args below meth c 16 D A cells slots Q (wl ad cI cB σ) 172 [(0, Value.ref b), (1, Value.ref (ad 0)), (2, Value.ref (ad 91)), (3, Value.ref (ad 92)), (4, Value.int l4), (5, Value.int l5), (6, Value.int l6), (8, Value.int l8), (9, Value.int l9), (10, Value.long l10), (12, Value.int l12), (13, Value.int l13)] [] := by
  intro n
  induction n with
  | zero =>
    intro l10 l12 l13 σ h
    exact (wp_none h).elim
  | succ n ih =>
    intro l10 l12 l13 σ h
    rw [La_law_L172] at h
    refine V_iload X 11 d_La_law_172 rfl ?_
    refine V_iload X 7 d_La_law_174 rfl ?_
    refine V_icmp_ge X 284 d_La_law_176 (by decide) h (fun c21 h => ?_) (fun c21 h => ?_)
    · skip
      exact hk l10 l12 l13 σ h
    · skip
      refine V_ldc2 X d_La_law_179 kl_La_96 ?_
      refine V_lload X 9 d_La_law_182 rfl ?_
      refine V_lmul X d_La_law_184 ?_
      refine V_ldc2 X d_La_law_185 kl_La_98 ?_
      refine V_ladd X d_La_law_188 ?_
      refine V_ldc2 X d_La_law_189 kl_La_100 ?_
      refine V_lrem X d_La_law_192 (by decide) ?_
      obtain ⟨x22, hx22, h⟩ := wp_N h
      rw [hx22]
      refine V_lstore X [(10, Value.long x22), (0, Value.ref b), (1, Value.ref (ad 0)), (2, Value.ref (ad 91)), (3, Value.ref (ad 92)), (4, Value.int l4), (5, Value.int l5), (6, Value.int l6), (8, Value.int l8), (9, Value.int l9), (12, Value.int l12), (13, Value.int l13)] d_La_law_193 (by decide) rfl ?_
      refine V_lload X 0 d_La_law_195 rfl ?_
      refine V_ldc2 X d_La_law_197 kl_La_102 ?_
      refine V_ldiv X d_La_law_200 (by decide) ?_
      refine V_aload_n X 3 d_La_law_201 rfl ?_
      refine V_iconst (v := 1) X d_La_law_202 (by decide) ?_
      refine V_iald X d_La_law_203 (by decide) (by decide) rfl h (fun h => ?_)
      refine V_i2l X d_La_law_204 ?_
      obtain ⟨hz, h⟩ := wp_nz h
      refine V_lrem X d_La_law_205 hz ?_
      refine V_l2i X d_La_law_206 ?_
      obtain ⟨x23, hx23, h⟩ := wp_N h
      rw [hx23]
      refine V_istore X [(14, Value.int x23), (10, Value.long x22), (0, Value.ref b), (1, Value.ref (ad 0)), (2, Value.ref (ad 91)), (3, Value.ref (ad 92)), (4, Value.int l4), (5, Value.int l5), (6, Value.int l6), (8, Value.int l8), (9, Value.int l9), (12, Value.int l12), (13, Value.int l13)] d_La_law_207 (by decide) rfl ?_
      refine V_ldc2 X d_La_law_209 kl_La_96 ?_
      refine V_lload X 1 d_La_law_212 rfl ?_
      refine V_lmul X d_La_law_214 ?_
      refine V_ldc2 X d_La_law_215 kl_La_98 ?_
      refine V_ladd X d_La_law_218 ?_
      refine V_ldc2 X d_La_law_219 kl_La_100 ?_
      refine V_lrem X d_La_law_222 (by decide) ?_
      obtain ⟨x24, hx24, h⟩ := wp_N h
      rw [hx24]
      refine V_lstore X [(10, Value.long x24), (14, Value.int x23), (0, Value.ref b), (1, Value.ref (ad 0)), (2, Value.ref (ad 91)), (3, Value.ref (ad 92)), (4, Value.int l4), (5, Value.int l5), (6, Value.int l6), (8, Value.int l8), (9, Value.int l9), (12, Value.int l12), (13, Value.int l13)] d_La_law_223 (by decide) rfl ?_
      refine V_lload X 0 d_La_law_225 rfl ?_
      refine V_ldc2 X d_La_law_227 kl_La_102 ?_
      refine V_ldiv X d_La_law_230 (by decide) ?_
      refine V_aload_n X 4 d_La_law_231 rfl ?_
      refine V_iconst (v := 0) X d_La_law_232 (by decide) ?_
      refine V_iald X d_La_law_233 (by decide) (by decide) rfl h (fun h => ?_)
      refine V_i2l X d_La_law_234 ?_
      obtain ⟨hz, h⟩ := wp_nz h
      refine V_lrem X d_La_law_235 hz ?_
      refine V_l2i X d_La_law_236 ?_
      obtain ⟨x25, hx25, h⟩ := wp_N h
      rw [hx25]
      refine V_istore X [(15, Value.int x25), (10, Value.long x24), (14, Value.int x23), (0, Value.ref b), (1, Value.ref (ad 0)), (2, Value.ref (ad 91)), (3, Value.ref (ad 92)), (4, Value.int l4), (5, Value.int l5), (6, Value.int l6), (8, Value.int l8), (9, Value.int l9), (12, Value.int l12), (13, Value.int l13)] d_La_law_237 (by decide) rfl ?_
      refine V_aload_n X 6 d_La_law_239 rfl ?_
      refine V_iload X 2 d_La_law_240 rfl ?_
      refine V_iload X 0 d_La_law_242 rfl ?_
      refine V_cI X h (fun r26 q => C_S X [Value.ref (ad 92), Value.int x23, Value.int x25] mt_La_may ms_La_may ml_La_49 (k_La_may fu σ 92 (by decide) (by decide) x23 x25 r26 q) rfl rfl (by omega) (Nat.le_of_ble_eq_true rfl) d_La_law_244) (fun r26 h => ?_)
      refine V_if_eq X 274 d_La_law_247 (by decide) h (fun c27 h => ?_) (fun c27 h => ?_)
      · skip
        refine V_aload_n X 6 d_La_law_274 rfl ?_
        refine V_cV X h (fun s28 q => C_S X [Value.ref (ad 92)] mt_La_year ms_La_year ml_La_58 (k_La_year fu σ 92 (by decide) (by decide) s28 q) rfl rfl (by omega) (Nat.le_of_ble_eq_true rfl) d_La_law_275) (fun s28 h => ?_)
        refine V_iinc X 13 (l13 + (1 : Int32)) [(13, Value.int (l13 + (1 : Int32))), (15, Value.int x25), (10, Value.long x24), (14, Value.int x23), (0, Value.ref b), (1, Value.ref (ad 0)), (2, Value.ref (ad 91)), (3, Value.ref (ad 92)), (4, Value.int l4), (5, Value.int l5), (6, Value.int l6), (8, Value.int l8), (9, Value.int l9), (12, Value.int l12)] d_La_law_278 rfl (by first | rfl | decide) (by decide) rfl ?_
        refine V_goto X 172 d_La_law_281 (by decide) ?_
        refine V_sub (lv' := [(0, Value.ref b), (1, Value.ref (ad 0)), (2, Value.ref (ad 91)), (3, Value.ref (ad 92)), (4, Value.int l4), (5, Value.int l5), (6, Value.int l6), (8, Value.int l8), (9, Value.int l9), (10, Value.long x24), (12, Value.int l12), (13, Value.int (l13 + (1 : Int32)))]) [4, 5, 6, 7, 8, 9, 10, 11, 12, 2, 13, 0] rfl ?_
        exact ih x24 l12 (l13 + (1 : Int32)) s28 h
      · skip
        refine V_iload X 12 d_La_law_250 rfl ?_
        refine V_aload_n X 6 d_La_law_252 rfl ?_
        refine V_iload X 2 d_La_law_253 rfl ?_
        refine V_iload X 0 d_La_law_255 rfl ?_
        refine V_cP X h (fun r29 s30 q => C_S X [Value.ref (ad 92), Value.int x23, Value.int x25] mt_La_right ms_La_right ml_La_56 (k_La_right fu σ 92 (by decide) (by decide) x23 x25 r29 s30 q) rfl rfl (by omega) (Nat.le_of_ble_eq_true rfl) d_La_law_257) (fun r29 s30 h => ?_)
        refine V_if_lt X 267 d_La_law_260 (by decide) h (fun c31 h => ?_) (fun c31 h => ?_)
        · skip
          refine V_iconst (v := 0) X d_La_law_267 (by decide) ?_
          refine V_iadd X d_La_law_268 ?_
          refine V_istore X [(12, Value.int (l12 + (0 : Int32))), (15, Value.int x25), (10, Value.long x24), (14, Value.int x23), (0, Value.ref b), (1, Value.ref (ad 0)), (2, Value.ref (ad 91)), (3, Value.ref (ad 92)), (4, Value.int l4), (5, Value.int l5), (6, Value.int l6), (8, Value.int l8), (9, Value.int l9), (13, Value.int l13)] d_La_law_269 (by decide) rfl ?_
          refine V_goto X 278 d_La_law_271 (by decide) ?_
          refine V_iinc X 13 (l13 + (1 : Int32)) [(13, Value.int (l13 + (1 : Int32))), (12, Value.int (l12 + (0 : Int32))), (15, Value.int x25), (10, Value.long x24), (14, Value.int x23), (0, Value.ref b), (1, Value.ref (ad 0)), (2, Value.ref (ad 91)), (3, Value.ref (ad 92)), (4, Value.int l4), (5, Value.int l5), (6, Value.int l6), (8, Value.int l8), (9, Value.int l9)] d_La_law_278 rfl (by first | rfl | decide) (by decide) rfl ?_
          refine V_goto X 172 d_La_law_281 (by decide) ?_
          refine V_sub (lv' := [(0, Value.ref b), (1, Value.ref (ad 0)), (2, Value.ref (ad 91)), (3, Value.ref (ad 92)), (4, Value.int l4), (5, Value.int l5), (6, Value.int l6), (8, Value.int l8), (9, Value.int l9), (10, Value.long x24), (12, Value.int (l12 + (0 : Int32))), (13, Value.int (l13 + (1 : Int32)))]) [5, 6, 7, 8, 9, 10, 11, 12, 13, 3, 1, 0] rfl ?_
          exact ih x24 (l12 + (0 : Int32)) (l13 + (1 : Int32)) s30 h
        · skip
          refine V_iconst (v := 1) X d_La_law_263 (by decide) ?_
          refine V_goto X 268 d_La_law_264 (by decide) ?_
          refine V_iadd X d_La_law_268 ?_
          refine V_istore X [(12, Value.int (l12 + (1 : Int32))), (15, Value.int x25), (10, Value.long x24), (14, Value.int x23), (0, Value.ref b), (1, Value.ref (ad 0)), (2, Value.ref (ad 91)), (3, Value.ref (ad 92)), (4, Value.int l4), (5, Value.int l5), (6, Value.int l6), (8, Value.int l8), (9, Value.int l9), (13, Value.int l13)] d_La_law_269 (by decide) rfl ?_
          refine V_goto X 278 d_La_law_271 (by decide) ?_
          refine V_iinc X 13 (l13 + (1 : Int32)) [(13, Value.int (l13 + (1 : Int32))), (12, Value.int (l12 + (1 : Int32))), (15, Value.int x25), (10, Value.long x24), (14, Value.int x23), (0, Value.ref b), (1, Value.ref (ad 0)), (2, Value.ref (ad 91)), (3, Value.ref (ad 92)), (4, Value.int l4), (5, Value.int l5), (6, Value.int l6), (8, Value.int l8), (9, Value.int l9)] d_La_law_278 rfl (by first | rfl | decide) (by decide) rfl ?_
          refine V_goto X 172 d_La_law_281 (by decide) ?_
          refine V_sub (lv' := [(0, Value.ref b), (1, Value.ref (ad 0)), (2, Value.ref (ad 91)), (3, Value.ref (ad 92)), (4, Value.int l4), (5, Value.int l5), (6, Value.int l6), (8, Value.int l8), (9, Value.int l9), (10, Value.long x24), (12, Value.int (l12 + (1 : Int32))), (13, Value.int (l13 + (1 : Int32)))]) [5, 6, 7, 8, 9, 10, 11, 12, 13, 3, 1, 0] rfl ?_
          exact ih x24 (l12 + (1 : Int32)) (l13 + (1 : Int32)) s30 h
set_option maxHeartbeats 4000000 in
set_option maxRecDepth 100000 in
theorem La_law_L77_ok {p : Program} {l : Launch} {e : Env} {R : Room} {s : State} {m : MethodId} {args : Array Value} {below : List Frame} {meth : Method} {c : Code} {D : va_G} {ad : Nat → Nat} {cI cB : ClassId} {A : Nat → Prop} {cells slots : Nat} {Q : State → Prop} (X : Cx p R s m args meth c R_law code 16 13 D ad cI cB A cells slots) {b L : Nat} {xs : Nat → Int32} (HX : va_X b L xs s s.heap ∧ b < s.heap.size ∧ ¬ A b) (fu : Nat) (l4 : Int32) (l5 : Int32) (kont : (Int32 → Sg → Option (Int32 × Sg))) {K : (Int32 × Sg) → Prop} (hQ : RI p l e R s m args below meth c 16 D ad cI cB A cells slots Q code true K) (hk : ∀ (l6 : Int32) (σ : Sg), wpO (kont l6 σ) K → V p l e R s m args below meth c 16 D A cells slots Q (wl ad cI cB σ) 342 [(0, Value.ref b), (1, Value.ref (ad 0)), (2, Value.ref (ad 91)), (3, Value.ref (ad 92)), (4, Value.int l4), (5, Value.int l5), (6, Value.int l6)] []) : ∀ (n : Nat) (l6 : Int32) (σ : Sg), wpO (La_law_L77 fu xs L l4 l5 kont n l6 σ) K → V p l e R s m args below meth c 16 D A cells slots Q (wl ad cI cB σ) 77 [(0, Value.ref b), (1, Value.ref (ad 0)), (2, Value.ref (ad 91)), (3, Value.ref (ad 92)), (4, Value.int l4), (5, Value.int l5), (6, Value.int l6)] [] := by
  intro n
  induction n with
  | zero =>
    intro l6 σ h
    exact (wp_none h).elim
  | succ n ih =>
    intro l6 σ h
    rw [La_law_L77] at h
    refine V_iload X 6 d_La_law_77 rfl ?_
    refine V_bipush (v := 22) X d_La_law_79 (by decide) ?_
    refine V_icmp_ge X 342 d_La_law_81 (by decide) h (fun c10 h => ?_) (fun c10 h => ?_)
    · skip
      exact hk l6 σ h
    · skip
      refine V_aload_n X 0 d_La_law_84 rfl ?_
      refine V_iload X 5 d_La_law_85 rfl ?_
      refine V_iconst (v := 3) X d_La_law_87 (by decide) ?_
      refine V_iadd X d_La_law_88 ?_
      refine V_iload X 6 d_La_law_89 rfl ?_
      refine V_iadd X d_La_law_91 ?_
      refine V_cI X h (fun r11 q => C_SX X HX [Value.ref b, Value.int ((l5 + (3 : Int32)) + l6)] mt_La_cell ms_La_cell ml_La_78 (k_La_cell σ b L xs ((l5 + (3 : Int32)) + l6) r11 q) rfl rfl (by omega) (Nat.le_of_ble_eq_true rfl) d_La_law_92) (fun r11 h => ?_)
      refine V_istore X [(7, Value.int r11), (0, Value.ref b), (1, Value.ref (ad 0)), (2, Value.ref (ad 91)), (3, Value.ref (ad 92)), (4, Value.int l4), (5, Value.int l5), (6, Value.int l6)] d_La_law_95 (by decide) rfl ?_
      refine V_aload_n X 2 d_La_law_97 rfl ?_
      refine V_iload X 0 d_La_law_98 rfl ?_
      refine V_aload_n X 3 d_La_law_100 rfl ?_
      refine V_cP X h (fun r12 s13 q => C_S X [Value.ref (ad 0), Value.int r11, Value.ref (ad 91)] mt_La_act ms_La_act ml_La_88 (k_La_act fu σ r11 91 (by decide) (by decide) r12 s13 q) rfl rfl (by omega) (Nat.le_of_ble_eq_true rfl) d_La_law_101) (fun r12 s13 h => ?_)
      refine V_if_eq X 115 d_La_law_104 (by decide) h (fun c14 h => ?_) (fun c14 h => ?_)
      · skip
        refine V_iconst (v := 0) X d_La_law_115 (by decide) ?_
        have h9 := wp_some h
        exact hQ _ _ h9 (fun _ => by decide) _ _ d_La_law_116
      · skip
        refine V_aload_n X 2 d_La_law_107 rfl ?_
        refine V_aload_n X 3 d_La_law_108 rfl ?_
        refine V_cI X h (fun r15 q => C_S X [Value.ref (ad 0), Value.ref (ad 91)] mt_La_told ms_La_told ml_La_84 (k_La_told fu s13 91 (by decide) (by decide) r15 q) rfl rfl (by omega) (Nat.le_of_ble_eq_true rfl) d_La_law_109) (fun r15 h => ?_)
        refine V_if_ne X 117 d_La_law_112 (by decide) h (fun c16 h => ?_) (fun c16 h => ?_)
        · skip
          refine V_iload X 7 d_La_law_117 rfl ?_
          refine V_bipush (v := 6) X d_La_law_119 (by decide) ?_
          refine V_irem X d_La_law_121 (by decide) ?_
          refine V_iconst (v := 5) X d_La_law_122 (by decide) ?_
          refine V_icmp_ne X 336 d_La_law_123 (by decide) h (fun c17 h => ?_) (fun c17 h => ?_)
          · skip
            refine V_iinc X 7 (l6 + (1 : Int32)) [(6, Value.int (l6 + (1 : Int32))), (7, Value.int r11), (0, Value.ref b), (1, Value.ref (ad 0)), (2, Value.ref (ad 91)), (3, Value.ref (ad 92)), (4, Value.int l4), (5, Value.int l5)] d_La_law_336 rfl (by first | rfl | decide) (by decide) rfl ?_
            refine V_goto X 77 d_La_law_339 (by decide) ?_
            refine V_sub (lv' := [(0, Value.ref b), (1, Value.ref (ad 0)), (2, Value.ref (ad 91)), (3, Value.ref (ad 92)), (4, Value.int l4), (5, Value.int l5), (6, Value.int (l6 + (1 : Int32)))]) [2, 3, 4, 5, 6, 7, 0] rfl ?_
            exact ih (l6 + (1 : Int32)) s13 h
          · skip
            refine V_iconst (v := 1) X d_La_law_126 (by decide) ?_
            refine V_iload X 0 d_La_law_127 rfl ?_
            refine V_sipush (v := 512) X d_La_law_129 (by decide) ?_
            refine V_idiv X d_La_law_132 (by decide) ?_
            refine V_bipush (v := 60) X d_La_law_133 (by decide) ?_
            refine V_irem X d_La_law_135 (by decide) ?_
            refine V_iadd X d_La_law_136 ?_
            obtain ⟨x18, hx18, h⟩ := wp_N h
            rw [hx18]
            refine V_istore X [(8, Value.int x18), (7, Value.int r11), (0, Value.ref b), (1, Value.ref (ad 0)), (2, Value.ref (ad 91)), (3, Value.ref (ad 92)), (4, Value.int l4), (5, Value.int l5), (6, Value.int l6)] d_La_law_137 (by decide) rfl ?_
            refine V_aload_n X 2 d_La_law_139 rfl ?_
            refine V_iload X 7 d_La_law_140 rfl ?_
            refine V_bipush (v := 24) X d_La_law_142 (by decide) ?_
            refine V_iadd X d_La_law_144 ?_
            refine V_iload X 8 d_La_law_145 rfl ?_
            refine V_bipush (v := 6) X d_La_law_147 (by decide) ?_
            refine V_idiv X d_La_law_149 (by decide) ?_
            refine V_iadd X d_La_law_150 ?_
            refine V_cI X h (fun r19 q => C_SX X HX [Value.ref b, Value.int ((l5 + (24 : Int32)) + (l6 / (6 : Int32)))] mt_La_cell ms_La_cell ml_La_78 (k_La_cell s13 b L xs ((l5 + (24 : Int32)) + (l6 / (6 : Int32))) r19 q) rfl rfl (by omega) (Nat.le_of_ble_eq_true rfl) d_La_law_151) (fun r19 h => ?_)
            refine V_istore X [(9, Value.int r19), (8, Value.int x18), (7, Value.int r11), (0, Value.ref b), (1, Value.ref (ad 0)), (2, Value.ref (ad 91)), (3, Value.ref (ad 92)), (4, Value.int l4), (5, Value.int l5), (6, Value.int l6)] d_La_law_154 (by decide) rfl ?_
            refine V_iload X 0 d_La_law_156 rfl ?_
            refine V_i2l X d_La_law_158 ?_
            refine V_lstore X [(10, Value.long r19.toInt64), (9, Value.int r19), (8, Value.int x18), (7, Value.int r11), (0, Value.ref b), (1, Value.ref (ad 0)), (2, Value.ref (ad 91)), (3, Value.ref (ad 92)), (4, Value.int l4), (5, Value.int l5), (6, Value.int l6)] d_La_law_159 (by decide) rfl ?_
            refine V_aload_n X 6 d_La_law_161 rfl ?_
            refine V_aload_n X 7 d_La_law_162 rfl ?_
            refine V_cV X h (fun s20 q => C_S X [Value.ref (ad 91), Value.ref (ad 92)] mt_La_copy ms_La_copy ml_La_92 (k_La_copy fu s13 91 (by decide) (by decide) 92 (by decide) (by decide) s20 q) rfl rfl (by omega) (Nat.le_of_ble_eq_true rfl) d_La_law_163) (fun s20 h => ?_)
            refine V_iconst (v := 0) X d_La_law_166 (by decide) ?_
            refine V_istore X [(12, Value.int (0 : Int32)), (10, Value.long r19.toInt64), (9, Value.int r19), (8, Value.int x18), (7, Value.int r11), (0, Value.ref b), (1, Value.ref (ad 0)), (2, Value.ref (ad 91)), (3, Value.ref (ad 92)), (4, Value.int l4), (5, Value.int l5), (6, Value.int l6)] d_La_law_167 (by decide) rfl ?_
            refine V_iconst (v := 0) X d_La_law_169 (by decide) ?_
            refine V_istore X [(13, Value.int (0 : Int32)), (12, Value.int (0 : Int32)), (10, Value.long r19.toInt64), (9, Value.int r19), (8, Value.int x18), (7, Value.int r11), (0, Value.ref b), (1, Value.ref (ad 0)), (2, Value.ref (ad 91)), (3, Value.ref (ad 92)), (4, Value.int l4), (5, Value.int l5), (6, Value.int l6)] d_La_law_170 (by decide) rfl ?_
            refine V_sub (lv' := [(0, Value.ref b), (1, Value.ref (ad 0)), (2, Value.ref (ad 91)), (3, Value.ref (ad 92)), (4, Value.int l4), (5, Value.int l5), (6, Value.int l6), (8, Value.int x18), (9, Value.int r19), (10, Value.long r19.toInt64), (12, Value.int (0 : Int32)), (13, Value.int (0 : Int32))]) [6, 7, 8, 9, 10, 11, 12, 4, 3, 2, 1, 0] rfl ?_
            refine La_law_L172_ok X HX fu l4 l5 l6 x18 r19 _ hQ (fun l10_32 l12_33 l13_34 s35 h => ?_) fu r19.toInt64 (0 : Int32) (0 : Int32) s20 h
            refine V_aload_n X 1 d_La_law_284 rfl ?_
            refine V_iload X 7 d_La_law_285 rfl ?_
            refine V_iload X 8 d_La_law_287 rfl ?_
            refine V_iconst (v := 0) X d_La_law_289 (by decide) ?_
            refine V_cP X h (fun r36 s37 q => C_V (q := 0) X [Value.int x18, Value.int r19, Value.int (0 : Int32)] mt_Co_centuries ms_Co_centuries ml_La_104 (k_Co_centuries fu s35 x18 r19 (0 : Int32) r36 s37 q) rfl rfl (by omega) (Nat.le_of_ble_eq_true rfl) rfl (by decide) (by decide) (by decide) d_La_law_290) (fun r36 s37 h => ?_)
            refine V_iload X 10 d_La_law_293 rfl ?_
            refine V_icmp_ne X 334 d_La_law_295 (by decide) h (fun c38 h => ?_) (fun c38 h => ?_)
            · skip
              refine V_iconst (v := 0) X d_La_law_334 (by decide) ?_
              have h9 := wp_some h
              exact hQ _ _ h9 (fun _ => by decide) _ _ d_La_law_335
            · skip
              refine V_aload_n X 1 d_La_law_298 rfl ?_
              refine V_iload X 7 d_La_law_299 rfl ?_
              refine V_iload X 8 d_La_law_301 rfl ?_
              refine V_iconst (v := 1) X d_La_law_303 (by decide) ?_
              refine V_cP X h (fun r39 s40 q => C_V (q := 0) X [Value.int x18, Value.int r19, Value.int (1 : Int32)] mt_Co_centuries ms_Co_centuries ml_La_104 (k_Co_centuries fu s37 x18 r19 (1 : Int32) r39 s40 q) rfl rfl (by omega) (Nat.le_of_ble_eq_true rfl) rfl (by decide) (by decide) (by decide) d_La_law_304) (fun r39 s40 h => ?_)
              refine V_aload_n X 3 d_La_law_307 rfl ?_
              refine V_aload_n X 3 d_La_law_308 rfl ?_
              refine V_cI X h (fun r41 q => C_S X [Value.ref (ad 92)] mt_La_righted ms_La_righted ml_La_35 (k_La_righted fu s40 92 (by decide) (by decide) r41 q) rfl rfl (by omega) (Nat.le_of_ble_eq_true rfl) d_La_law_309) (fun r41 h => ?_)
              refine V_cI X h (fun r42 q => C_S X [Value.ref (ad 92), Value.int r41] mt_La_worth ms_La_worth ml_La_74 (k_La_worth fu s40 92 (by decide) (by decide) r41 r42 q) rfl rfl (by omega) (Nat.le_of_ble_eq_true rfl) d_La_law_312) (fun r42 h => ?_)
              refine V_icmp_ne X 334 d_La_law_315 (by decide) h (fun c43 h => ?_) (fun c43 h => ?_)
              · skip
                refine V_iconst (v := 0) X d_La_law_334 (by decide) ?_
                have h9 := wp_some h
                exact hQ _ _ h9 (fun _ => by decide) _ _ d_La_law_335
              · skip
                refine V_aload_n X 1 d_La_law_318 rfl ?_
                refine V_iload X 7 d_La_law_319 rfl ?_
                refine V_iload X 8 d_La_law_321 rfl ?_
                refine V_iconst (v := 2) X d_La_law_323 (by decide) ?_
                refine V_cP X h (fun r44 s45 q => C_V (q := 0) X [Value.int x18, Value.int r19, Value.int (2 : Int32)] mt_Co_centuries ms_Co_centuries ml_La_104 (k_Co_centuries fu s40 x18 r19 (2 : Int32) r44 s45 q) rfl rfl (by omega) (Nat.le_of_ble_eq_true rfl) rfl (by decide) (by decide) (by decide) d_La_law_324) (fun r44 s45 h => ?_)
                refine V_i2l X d_La_law_327 ?_
                refine V_lload X 9 d_La_law_328 rfl ?_
                refine V_lcmp X d_La_law_330 ?_
                refine V_if_eq X 336 d_La_law_331 (by decide) h (fun c46 h => ?_) (fun c46 h => ?_)
                · skip
                  refine V_iinc X 6 (l6 + (1 : Int32)) [(6, Value.int (l6 + (1 : Int32))), (0, Value.ref b), (1, Value.ref (ad 0)), (2, Value.ref (ad 91)), (3, Value.ref (ad 92)), (4, Value.int l4), (5, Value.int l5), (8, Value.int x18), (9, Value.int r19), (10, Value.long l10_32), (12, Value.int l12_33), (13, Value.int l13_34)] d_La_law_336 rfl (by first | rfl | decide) (by decide) rfl ?_
                  refine V_goto X 77 d_La_law_339 (by decide) ?_
                  refine V_sub (lv' := [(0, Value.ref b), (1, Value.ref (ad 0)), (2, Value.ref (ad 91)), (3, Value.ref (ad 92)), (4, Value.int l4), (5, Value.int l5), (6, Value.int (l6 + (1 : Int32)))]) [1, 2, 3, 4, 5, 6, 0] rfl ?_
                  exact ih (l6 + (1 : Int32)) s45 h
                · skip
                  refine V_iconst (v := 0) X d_La_law_334 (by decide) ?_
                  have h9 := wp_some h
                  exact hQ _ _ h9 (fun _ => by decide) _ _ d_La_law_335
        · skip
          refine V_iconst (v := 0) X d_La_law_115 (by decide) ?_
          have h9 := wp_some h
          exact hQ _ _ h9 (fun _ => by decide) _ _ d_La_law_116
set_option maxHeartbeats 4000000 in
set_option maxRecDepth 100000 in
theorem La_law_L21_ok {p : Program} {l : Launch} {e : Env} {R : Room} {s : State} {m : MethodId} {args : Array Value} {below : List Frame} {meth : Method} {c : Code} {D : va_G} {ad : Nat → Nat} {cI cB : ClassId} {A : Nat → Prop} {cells slots : Nat} {Q : State → Prop} (X : Cx p R s m args meth c R_law code 16 13 D ad cI cB A cells slots) {b L : Nat} {xs : Nat → Int32} (HX : va_X b L xs s s.heap ∧ b < s.heap.size ∧ ¬ A b) (fu : Nat) (kont : (Int32 → Sg → Option (Int32 × Sg))) {K : (Int32 × Sg) → Prop} (hQ : RI p l e R s m args below meth c 16 D ad cI cB A cells slots Q code true K) (hk : ∀ (l4 : Int32) (σ : Sg), wpO (kont l4 σ) K → V p l e R s m args below meth c 16 D A cells slots Q (wl ad cI cB σ) 598 [(0, Value.ref b), (1, Value.ref (ad 0)), (2, Value.ref (ad 91)), (3, Value.ref (ad 92)), (4, Value.int l4)] []) : ∀ (n : Nat) (l4 : Int32) (σ : Sg), wpO (La_law_L21 fu xs L kont n l4 σ) K → V p l e R s m args below meth c 16 D A cells slots Q (wl ad cI cB σ) 21 [(0, Value.ref b), (1, Value.ref (ad 0)), (2, Value.ref (ad 91)), (3, Value.ref (ad 92)), (4, Value.int l4)] [] := by
  intro n
  induction n with
  | zero =>
    intro l4 σ h
    exact (wp_none h).elim
  | succ n ih =>
    intro l4 σ h
    rw [La_law_L21] at h
    refine V_iload X 4 d_La_law_21 rfl ?_
    refine V_iconst (v := 2) X d_La_law_23 (by decide) ?_
    refine V_icmp_ge X 598 d_La_law_24 (by decide) h (fun c1 h => ?_) (fun c1 h => ?_)
    · skip
      exact hk l4 σ h
    · skip
      refine V_bipush (v := 29) X d_La_law_27 (by decide) ?_
      refine V_iload X 4 d_La_law_29 rfl ?_
      refine V_imul X d_La_law_31 ?_
      refine V_istore X [(5, Value.int ((29 : Int32) * l4)), (0, Value.ref b), (1, Value.ref (ad 0)), (2, Value.ref (ad 91)), (3, Value.ref (ad 92)), (4, Value.int l4)] d_La_law_32 (by decide) rfl ?_
      refine V_aload_n X 2 d_La_law_34 rfl ?_
      refine V_aload_n X 1 d_La_law_35 rfl ?_
      refine V_iload X 0 d_La_law_36 rfl ?_
      refine V_cI X h (fun r2 q => C_SX X HX [Value.ref b, Value.int ((29 : Int32) * l4)] mt_La_cell ms_La_cell ml_La_78 (k_La_cell σ b L xs ((29 : Int32) * l4) r2 q) rfl rfl (by omega) (Nat.le_of_ble_eq_true rfl) d_La_law_38) (fun r2 h => ?_)
      refine V_aload_n X 1 d_La_law_41 rfl ?_
      refine V_iload X 0 d_La_law_42 rfl ?_
      refine V_iconst (v := 1) X d_La_law_44 (by decide) ?_
      refine V_iadd X d_La_law_45 ?_
      refine V_cI X h (fun r3 q => C_SX X HX [Value.ref b, Value.int (((29 : Int32) * l4) + (1 : Int32))] mt_La_cell ms_La_cell ml_La_78 (k_La_cell σ b L xs (((29 : Int32) * l4) + (1 : Int32)) r3 q) rfl rfl (by omega) (Nat.le_of_ble_eq_true rfl) d_La_law_46) (fun r3 h => ?_)
      refine V_aload_n X 1 d_La_law_49 rfl ?_
      refine V_iload X 0 d_La_law_50 rfl ?_
      refine V_iconst (v := 2) X d_La_law_52 (by decide) ?_
      refine V_iadd X d_La_law_53 ?_
      refine V_cI X h (fun r4 q => C_SX X HX [Value.ref b, Value.int (((29 : Int32) * l4) + (2 : Int32))] mt_La_cell ms_La_cell ml_La_78 (k_La_cell σ b L xs (((29 : Int32) * l4) + (2 : Int32)) r4 q) rfl rfl (by omega) (Nat.le_of_ble_eq_true rfl) d_La_law_54) (fun r4 h => ?_)
      refine V_aload_n X 3 d_La_law_57 rfl ?_
      refine V_cP X h (fun r5 s6 q => C_S X [Value.ref (ad 0), Value.int r2, Value.int r3, Value.int r4, Value.ref (ad 91)] mt_La_shire ms_La_shire ml_La_81 (k_La_shire fu σ r2 r3 r4 91 (by decide) (by decide) r5 s6 q) rfl rfl (by omega) (Nat.le_of_ble_eq_true rfl) d_La_law_58) (fun r5 s6 h => ?_)
      refine V_if_eq X 72 d_La_law_61 (by decide) h (fun c7 h => ?_) (fun c7 h => ?_)
      · skip
        refine V_iconst (v := 0) X d_La_law_72 (by decide) ?_
        have h9 := wp_some h
        exact hQ _ _ h9 (fun _ => by decide) _ _ d_La_law_73
      · skip
        refine V_aload_n X 2 d_La_law_64 rfl ?_
        refine V_aload_n X 3 d_La_law_65 rfl ?_
        refine V_cI X h (fun r8 q => C_S X [Value.ref (ad 0), Value.ref (ad 91)] mt_La_told ms_La_told ml_La_84 (k_La_told fu s6 91 (by decide) (by decide) r8 q) rfl rfl (by omega) (Nat.le_of_ble_eq_true rfl) d_La_law_66) (fun r8 h => ?_)
        refine V_if_ne X 74 d_La_law_69 (by decide) h (fun c9 h => ?_) (fun c9 h => ?_)
        · skip
          refine V_iconst (v := 0) X d_La_law_74 (by decide) ?_
          refine V_istore X [(6, Value.int (0 : Int32)), (5, Value.int ((29 : Int32) * l4)), (0, Value.ref b), (1, Value.ref (ad 0)), (2, Value.ref (ad 91)), (3, Value.ref (ad 92)), (4, Value.int l4)] d_La_law_75 (by decide) rfl ?_
          refine V_sub (lv' := [(0, Value.ref b), (1, Value.ref (ad 0)), (2, Value.ref (ad 91)), (3, Value.ref (ad 92)), (4, Value.int l4), (5, Value.int ((29 : Int32) * l4)), (6, Value.int (0 : Int32))]) [2, 3, 4, 5, 6, 1, 0] rfl ?_
          refine La_law_L77_ok X HX fu l4 ((29 : Int32) * l4) _ hQ (fun l6_47 s48 h => ?_) fu (0 : Int32) s6 h
          refine V_aload_n X 2 d_La_law_342 rfl ?_
          refine V_iconst (v := 1) X d_La_law_343 (by decide) ?_
          refine V_iald X d_La_law_344 (by decide) (by decide) rfl h (fun h => ?_)
          obtain ⟨x49, hx49, h⟩ := wp_N h
          rw [hx49]
          refine V_istore X [(6, Value.int x49), (0, Value.ref b), (1, Value.ref (ad 0)), (2, Value.ref (ad 91)), (3, Value.ref (ad 92)), (4, Value.int l4), (5, Value.int ((29 : Int32) * l4))] d_La_law_345 (by decide) rfl ?_
          refine V_aload_n X 3 d_La_law_347 rfl ?_
          refine V_iconst (v := 0) X d_La_law_348 (by decide) ?_
          refine V_iald X d_La_law_349 (by decide) (by decide) rfl h (fun h => ?_)
          obtain ⟨x50, hx50, h⟩ := wp_N h
          rw [hx50]
          refine V_istore X [(7, Value.int x50), (6, Value.int x49), (0, Value.ref b), (1, Value.ref (ad 0)), (2, Value.ref (ad 91)), (3, Value.ref (ad 92)), (4, Value.int l4), (5, Value.int ((29 : Int32) * l4))] d_La_law_350 (by decide) rfl ?_
          refine V_aload_n X 3 d_La_law_352 rfl ?_
          refine V_iload X 0 d_La_law_353 rfl ?_
          refine V_iconst (v := 0) X d_La_law_355 (by decide) ?_
          refine V_cI X h (fun r51 q => C_V (q := 0) X [Value.int x50, Value.int (0 : Int32)] mt_Co_tree ms_Co_tree ml_La_107 (k_Co_tree fu s48 x50 (0 : Int32) r51 q) rfl rfl (by omega) (Nat.le_of_ble_eq_true rfl) rfl (by decide) (by decide) (by decide) d_La_law_356) (fun r51 h => ?_)
          refine V_bipush (v := -101) X d_La_law_359 (by decide) ?_
          refine V_icmp_ne X 590 d_La_law_361 (by decide) h (fun c52 h => ?_) (fun c52 h => ?_)
          · skip
            refine V_iconst (v := 0) X d_La_law_590 (by decide) ?_
            have h9 := wp_some h
            exact hQ _ _ h9 (fun _ => by decide) _ _ d_La_law_591
          · skip
            refine V_aload_n X 3 d_La_law_364 rfl ?_
            refine V_iconst (v := 0) X d_La_law_365 (by decide) ?_
            refine V_iconst (v := 3) X d_La_law_366 (by decide) ?_
            refine V_cI X h (fun r53 q => C_V (q := 0) X [Value.int (0 : Int32), Value.int (3 : Int32)] mt_Co_tree ms_Co_tree ml_La_107 (k_Co_tree fu s48 (0 : Int32) (3 : Int32) r53 q) rfl rfl (by omega) (Nat.le_of_ble_eq_true rfl) rfl (by decide) (by decide) (by decide) d_La_law_367) (fun r53 h => ?_)
            refine V_bipush (v := -102) X d_La_law_370 (by decide) ?_
            refine V_icmp_ne X 590 d_La_law_372 (by decide) h (fun c54 h => ?_) (fun c54 h => ?_)
            · skip
              refine V_iconst (v := 0) X d_La_law_590 (by decide) ?_
              have h9 := wp_some h
              exact hQ _ _ h9 (fun _ => by decide) _ _ d_La_law_591
            · skip
              refine V_aload_n X 3 d_La_law_375 rfl ?_
              refine V_iconst (v := -1) X d_La_law_376 (by decide) ?_
              refine V_iconst (v := 0) X d_La_law_377 (by decide) ?_
              refine V_cI X h (fun r55 q => C_V (q := 0) X [Value.int (-1 : Int32), Value.int (0 : Int32)] mt_Co_tree ms_Co_tree ml_La_107 (k_Co_tree fu s48 (-1 : Int32) (0 : Int32) r55 q) rfl rfl (by omega) (Nat.le_of_ble_eq_true rfl) rfl (by decide) (by decide) (by decide) d_La_law_378) (fun r55 h => ?_)
              refine V_bipush (v := -101) X d_La_law_381 (by decide) ?_
              refine V_icmp_ne X 590 d_La_law_383 (by decide) h (fun c56 h => ?_) (fun c56 h => ?_)
              · skip
                refine V_iconst (v := 0) X d_La_law_590 (by decide) ?_
                have h9 := wp_some h
                exact hQ _ _ h9 (fun _ => by decide) _ _ d_La_law_591
              · skip
                refine V_aload_n X 3 d_La_law_386 rfl ?_
                refine V_iload X 1 d_La_law_387 rfl ?_
                refine V_iconst (v := 0) X d_La_law_389 (by decide) ?_
                refine V_cI X h (fun r57 q => C_V (q := 0) X [Value.int x49, Value.int (0 : Int32)] mt_Co_suit ms_Co_suit ml_La_110 (k_Co_suit fu s48 x49 (0 : Int32) r57 q) rfl rfl (by omega) (Nat.le_of_ble_eq_true rfl) rfl (by decide) (by decide) (by decide) d_La_law_390) (fun r57 h => ?_)
                refine V_bipush (v := -101) X d_La_law_393 (by decide) ?_
                refine V_icmp_ne X 590 d_La_law_395 (by decide) h (fun c58 h => ?_) (fun c58 h => ?_)
                · skip
                  refine V_iconst (v := 0) X d_La_law_590 (by decide) ?_
                  have h9 := wp_some h
                  exact hQ _ _ h9 (fun _ => by decide) _ _ d_La_law_591
                · skip
                  refine V_aload_n X 3 d_La_law_398 rfl ?_
                  refine V_iconst (v := 0) X d_La_law_399 (by decide) ?_
                  refine V_bipush (v := 10) X d_La_law_400 (by decide) ?_
                  refine V_cI X h (fun r59 q => C_V (q := 0) X [Value.int (0 : Int32), Value.int (10 : Int32)] mt_Co_suit ms_Co_suit ml_La_110 (k_Co_suit fu s48 (0 : Int32) (10 : Int32) r59 q) rfl rfl (by omega) (Nat.le_of_ble_eq_true rfl) rfl (by decide) (by decide) (by decide) d_La_law_402) (fun r59 h => ?_)
                  refine V_bipush (v := -102) X d_La_law_405 (by decide) ?_
                  refine V_icmp_ne X 590 d_La_law_407 (by decide) h (fun c60 h => ?_) (fun c60 h => ?_)
                  · skip
                    refine V_iconst (v := 0) X d_La_law_590 (by decide) ?_
                    have h9 := wp_some h
                    exact hQ _ _ h9 (fun _ => by decide) _ _ d_La_law_591
                  · skip
                    refine V_aload_n X 3 d_La_law_410 rfl ?_
                    refine V_iload X 1 d_La_law_411 rfl ?_
                    refine V_iconst (v := 0) X d_La_law_413 (by decide) ?_
                    refine V_cI X h (fun r61 q => C_V (q := 0) X [Value.int x49, Value.int (0 : Int32)] mt_Co_as ms_Co_as ml_La_113 (k_Co_as s48 x49 (0 : Int32) r61 q) rfl rfl (by omega) (Nat.le_of_ble_eq_true rfl) rfl (by decide) (by decide) (by decide) d_La_law_414) (fun r61 h => ?_)
                    refine V_bipush (v := -101) X d_La_law_417 (by decide) ?_
                    refine V_icmp_ne X 590 d_La_law_419 (by decide) h (fun c62 h => ?_) (fun c62 h => ?_)
                    · skip
                      refine V_iconst (v := 0) X d_La_law_590 (by decide) ?_
                      have h9 := wp_some h
                      exact hQ _ _ h9 (fun _ => by decide) _ _ d_La_law_591
                    · skip
                      refine V_aload_n X 3 d_La_law_422 rfl ?_
                      refine V_iconst (v := 0) X d_La_law_423 (by decide) ?_
                      refine V_iconst (v := 5) X d_La_law_424 (by decide) ?_
                      refine V_cI X h (fun r63 q => C_V (q := 0) X [Value.int (0 : Int32), Value.int (5 : Int32)] mt_Co_as ms_Co_as ml_La_113 (k_Co_as s48 (0 : Int32) (5 : Int32) r63 q) rfl rfl (by omega) (Nat.le_of_ble_eq_true rfl) rfl (by decide) (by decide) (by decide) d_La_law_425) (fun r63 h => ?_)
                      refine V_bipush (v := -102) X d_La_law_428 (by decide) ?_
                      refine V_icmp_ne X 590 d_La_law_430 (by decide) h (fun c64 h => ?_) (fun c64 h => ?_)
                      · skip
                        refine V_iconst (v := 0) X d_La_law_590 (by decide) ?_
                        have h9 := wp_some h
                        exact hQ _ _ h9 (fun _ => by decide) _ _ d_La_law_591
                      · skip
                        refine V_aload_n X 3 d_La_law_433 rfl ?_
                        refine V_iload X 1 d_La_law_434 rfl ?_
                        refine V_iconst (v := 0) X d_La_law_436 (by decide) ?_
                        refine V_cP X h (fun r65 s66 q => C_V (q := 0) X [Value.int x49, Value.int (0 : Int32)] mt_Co_right ms_Co_right ml_La_52 (k_Co_right s48 x49 (0 : Int32) r65 s66 q) rfl rfl (by omega) (Nat.le_of_ble_eq_true rfl) rfl (by decide) (by decide) (by decide) d_La_law_437) (fun r65 s66 h => ?_)
                        refine V_bipush (v := -101) X d_La_law_440 (by decide) ?_
                        refine V_icmp_ne X 590 d_La_law_442 (by decide) h (fun c67 h => ?_) (fun c67 h => ?_)
                        · skip
                          refine V_iconst (v := 0) X d_La_law_590 (by decide) ?_
                          have h9 := wp_some h
                          exact hQ _ _ h9 (fun _ => by decide) _ _ d_La_law_591
                        · skip
                          refine V_aload_n X 3 d_La_law_445 rfl ?_
                          refine V_iconst (v := 0) X d_La_law_446 (by decide) ?_
                          refine V_iload X 0 d_La_law_447 rfl ?_
                          refine V_cP X h (fun r68 s69 q => C_V (q := 0) X [Value.int (0 : Int32), Value.int x50] mt_Co_right ms_Co_right ml_La_52 (k_Co_right s66 (0 : Int32) x50 r68 s69 q) rfl rfl (by omega) (Nat.le_of_ble_eq_true rfl) rfl (by decide) (by decide) (by decide) d_La_law_449) (fun r68 s69 h => ?_)
                          refine V_bipush (v := -101) X d_La_law_452 (by decide) ?_
                          refine V_icmp_ne X 590 d_La_law_454 (by decide) h (fun c70 h => ?_) (fun c70 h => ?_)
                          · skip
                            refine V_iconst (v := 0) X d_La_law_590 (by decide) ?_
                            have h9 := wp_some h
                            exact hQ _ _ h9 (fun _ => by decide) _ _ d_La_law_591
                          · skip
                            refine V_aload_n X 3 d_La_law_457 rfl ?_
                            refine V_iload X 0 d_La_law_458 rfl ?_
                            refine V_iconst (v := 0) X d_La_law_460 (by decide) ?_
                            refine V_cP X h (fun r71 s72 q => C_V (q := 0) X [Value.int x50, Value.int (0 : Int32)] mt_Co_birds ms_Co_birds ml_La_64 (k_Co_birds s69 x50 (0 : Int32) r71 s72 q) rfl rfl (by omega) (Nat.le_of_ble_eq_true rfl) rfl (by decide) (by decide) (by decide) d_La_law_461) (fun r71 s72 h => ?_)
                            refine V_bipush (v := -101) X d_La_law_464 (by decide) ?_
                            refine V_icmp_ne X 590 d_La_law_466 (by decide) h (fun c73 h => ?_) (fun c73 h => ?_)
                            · skip
                              refine V_iconst (v := 0) X d_La_law_590 (by decide) ?_
                              have h9 := wp_some h
                              exact hQ _ _ h9 (fun _ => by decide) _ _ d_La_law_591
                            · skip
                              refine V_aload_n X 3 d_La_law_469 rfl ?_
                              refine V_iconst (v := 0) X d_La_law_470 (by decide) ?_
                              refine V_bipush (v := 10) X d_La_law_471 (by decide) ?_
                              refine V_cP X h (fun r74 s75 q => C_V (q := 0) X [Value.int (0 : Int32), Value.int (10 : Int32)] mt_Co_birds ms_Co_birds ml_La_64 (k_Co_birds s72 (0 : Int32) (10 : Int32) r74 s75 q) rfl rfl (by omega) (Nat.le_of_ble_eq_true rfl) rfl (by decide) (by decide) (by decide) d_La_law_473) (fun r74 s75 h => ?_)
                              refine V_bipush (v := -102) X d_La_law_476 (by decide) ?_
                              refine V_icmp_ne X 590 d_La_law_478 (by decide) h (fun c76 h => ?_) (fun c76 h => ?_)
                              · skip
                                refine V_iconst (v := 0) X d_La_law_590 (by decide) ?_
                                have h9 := wp_some h
                                exact hQ _ _ h9 (fun _ => by decide) _ _ d_La_law_591
                              · skip
                                refine V_aload_n X 3 d_La_law_481 rfl ?_
                                refine V_iconst (v := 0) X d_La_law_482 (by decide) ?_
                                refine V_iconst (v := -1) X d_La_law_483 (by decide) ?_
                                refine V_cP X h (fun r77 s78 q => C_V (q := 0) X [Value.int (0 : Int32), Value.int (-1 : Int32)] mt_Co_birds ms_Co_birds ml_La_64 (k_Co_birds s75 (0 : Int32) (-1 : Int32) r77 s78 q) rfl rfl (by omega) (Nat.le_of_ble_eq_true rfl) rfl (by decide) (by decide) (by decide) d_La_law_484) (fun r77 s78 h => ?_)
                                refine V_bipush (v := -102) X d_La_law_487 (by decide) ?_
                                refine V_icmp_ne X 590 d_La_law_489 (by decide) h (fun c79 h => ?_) (fun c79 h => ?_)
                                · skip
                                  refine V_iconst (v := 0) X d_La_law_590 (by decide) ?_
                                  have h9 := wp_some h
                                  exact hQ _ _ h9 (fun _ => by decide) _ _ d_La_law_591
                                · skip
                                  refine V_aload_n X 3 d_La_law_492 rfl ?_
                                  refine V_iload X 1 d_La_law_493 rfl ?_
                                  refine V_iconst (v := 1) X d_La_law_495 (by decide) ?_
                                  refine V_iconst (v := 1) X d_La_law_496 (by decide) ?_
                                  refine V_cP X h (fun r80 s81 q => C_V (q := 0) X [Value.int x49, Value.int (1 : Int32), Value.int (1 : Int32)] mt_Co_plead ms_Co_plead ml_La_67 (k_Co_plead s78 x49 (1 : Int32) (1 : Int32) r80 s81 q) rfl rfl (by omega) (Nat.le_of_ble_eq_true rfl) rfl (by decide) (by decide) (by decide) d_La_law_497) (fun r80 s81 h => ?_)
                                  refine V_bipush (v := -101) X d_La_law_500 (by decide) ?_
                                  refine V_icmp_ne X 590 d_La_law_502 (by decide) h (fun c82 h => ?_) (fun c82 h => ?_)
                                  · skip
                                    refine V_iconst (v := 0) X d_La_law_590 (by decide) ?_
                                    have h9 := wp_some h
                                    exact hQ _ _ h9 (fun _ => by decide) _ _ d_La_law_591
                                  · skip
                                    refine V_aload_n X 3 d_La_law_505 rfl ?_
                                    refine V_iconst (v := 0) X d_La_law_506 (by decide) ?_
                                    refine V_iconst (v := 0) X d_La_law_507 (by decide) ?_
                                    refine V_iconst (v := 1) X d_La_law_508 (by decide) ?_
                                    refine V_cP X h (fun r83 s84 q => C_V (q := 0) X [Value.int (0 : Int32), Value.int (0 : Int32), Value.int (1 : Int32)] mt_Co_plead ms_Co_plead ml_La_67 (k_Co_plead s81 (0 : Int32) (0 : Int32) (1 : Int32) r83 s84 q) rfl rfl (by omega) (Nat.le_of_ble_eq_true rfl) rfl (by decide) (by decide) (by decide) d_La_law_509) (fun r83 s84 h => ?_)
                                    refine V_bipush (v := -102) X d_La_law_512 (by decide) ?_
                                    refine V_icmp_ne X 590 d_La_law_514 (by decide) h (fun c85 h => ?_) (fun c85 h => ?_)
                                    · skip
                                      refine V_iconst (v := 0) X d_La_law_590 (by decide) ?_
                                      have h9 := wp_some h
                                      exact hQ _ _ h9 (fun _ => by decide) _ _ d_La_law_591
                                    · skip
                                      refine V_aload_n X 3 d_La_law_517 rfl ?_
                                      refine V_iconst (v := 0) X d_La_law_518 (by decide) ?_
                                      refine V_iconst (v := 1) X d_La_law_519 (by decide) ?_
                                      refine V_bipush (v := 10) X d_La_law_520 (by decide) ?_
                                      refine V_cP X h (fun r86 s87 q => C_V (q := 0) X [Value.int (0 : Int32), Value.int (1 : Int32), Value.int (10 : Int32)] mt_Co_plead ms_Co_plead ml_La_67 (k_Co_plead s84 (0 : Int32) (1 : Int32) (10 : Int32) r86 s87 q) rfl rfl (by omega) (Nat.le_of_ble_eq_true rfl) rfl (by decide) (by decide) (by decide) d_La_law_522) (fun r86 s87 h => ?_)
                                      refine V_bipush (v := -102) X d_La_law_525 (by decide) ?_
                                      refine V_icmp_ne X 590 d_La_law_527 (by decide) h (fun c88 h => ?_) (fun c88 h => ?_)
                                      · skip
                                        refine V_iconst (v := 0) X d_La_law_590 (by decide) ?_
                                        have h9 := wp_some h
                                        exact hQ _ _ h9 (fun _ => by decide) _ _ d_La_law_591
                                      · skip
                                        refine V_aload_n X 3 d_La_law_530 rfl ?_
                                        refine V_iload X 1 d_La_law_531 rfl ?_
                                        refine V_cP X h (fun r89 s90 q => C_V (q := 0) X [Value.int x49] mt_Co_walk ms_Co_walk ml_La_71 (k_Co_walk fu s87 x49 r89 s90 q) rfl rfl (by omega) (Nat.le_of_ble_eq_true rfl) rfl (by decide) (by decide) (by decide) d_La_law_533) (fun r89 s90 h => ?_)
                                        refine V_bipush (v := -101) X d_La_law_536 (by decide) ?_
                                        refine V_icmp_ne X 590 d_La_law_538 (by decide) h (fun c91 h => ?_) (fun c91 h => ?_)
                                        · skip
                                          refine V_iconst (v := 0) X d_La_law_590 (by decide) ?_
                                          have h9 := wp_some h
                                          exact hQ _ _ h9 (fun _ => by decide) _ _ d_La_law_591
                                        · skip
                                          refine V_aload_n X 3 d_La_law_541 rfl ?_
                                          refine V_iconst (v := 0) X d_La_law_542 (by decide) ?_
                                          refine V_iconst (v := 1) X d_La_law_543 (by decide) ?_
                                          refine V_iconst (v := 0) X d_La_law_544 (by decide) ?_
                                          refine V_cP X h (fun r92 s93 q => C_V (q := 0) X [Value.int (0 : Int32), Value.int (1 : Int32), Value.int (0 : Int32)] mt_Co_centuries ms_Co_centuries ml_La_104 (k_Co_centuries fu s90 (0 : Int32) (1 : Int32) (0 : Int32) r92 s93 q) rfl rfl (by omega) (Nat.le_of_ble_eq_true rfl) rfl (by decide) (by decide) (by decide) d_La_law_545) (fun r92 s93 h => ?_)
                                          refine V_bipush (v := -102) X d_La_law_548 (by decide) ?_
                                          refine V_icmp_ne X 590 d_La_law_550 (by decide) h (fun c94 h => ?_) (fun c94 h => ?_)
                                          · skip
                                            refine V_iconst (v := 0) X d_La_law_590 (by decide) ?_
                                            have h9 := wp_some h
                                            exact hQ _ _ h9 (fun _ => by decide) _ _ d_La_law_591
                                          · skip
                                            refine V_aload_n X 3 d_La_law_553 rfl ?_
                                            refine V_bipush (v := 61) X d_La_law_554 (by decide) ?_
                                            refine V_iconst (v := 1) X d_La_law_556 (by decide) ?_
                                            refine V_iconst (v := 0) X d_La_law_557 (by decide) ?_
                                            refine V_cP X h (fun r95 s96 q => C_V (q := 0) X [Value.int (61 : Int32), Value.int (1 : Int32), Value.int (0 : Int32)] mt_Co_centuries ms_Co_centuries ml_La_104 (k_Co_centuries fu s93 (61 : Int32) (1 : Int32) (0 : Int32) r95 s96 q) rfl rfl (by omega) (Nat.le_of_ble_eq_true rfl) rfl (by decide) (by decide) (by decide) d_La_law_558) (fun r95 s96 h => ?_)
                                            refine V_bipush (v := -102) X d_La_law_561 (by decide) ?_
                                            refine V_icmp_ne X 590 d_La_law_563 (by decide) h (fun c97 h => ?_) (fun c97 h => ?_)
                                            · skip
                                              refine V_iconst (v := 0) X d_La_law_590 (by decide) ?_
                                              have h9 := wp_some h
                                              exact hQ _ _ h9 (fun _ => by decide) _ _ d_La_law_591
                                            · skip
                                              refine V_aload_n X 3 d_La_law_566 rfl ?_
                                              refine V_iconst (v := 1) X d_La_law_567 (by decide) ?_
                                              refine V_iconst (v := -1) X d_La_law_568 (by decide) ?_
                                              refine V_iconst (v := 0) X d_La_law_569 (by decide) ?_
                                              refine V_cP X h (fun r98 s99 q => C_V (q := 0) X [Value.int (1 : Int32), Value.int (-1 : Int32), Value.int (0 : Int32)] mt_Co_centuries ms_Co_centuries ml_La_104 (k_Co_centuries fu s96 (1 : Int32) (-1 : Int32) (0 : Int32) r98 s99 q) rfl rfl (by omega) (Nat.le_of_ble_eq_true rfl) rfl (by decide) (by decide) (by decide) d_La_law_570) (fun r98 s99 h => ?_)
                                              refine V_bipush (v := -102) X d_La_law_573 (by decide) ?_
                                              refine V_icmp_ne X 590 d_La_law_575 (by decide) h (fun c100 h => ?_) (fun c100 h => ?_)
                                              · skip
                                                refine V_iconst (v := 0) X d_La_law_590 (by decide) ?_
                                                have h9 := wp_some h
                                                exact hQ _ _ h9 (fun _ => by decide) _ _ d_La_law_591
                                              · skip
                                                refine V_aload_n X 3 d_La_law_578 rfl ?_
                                                refine V_iconst (v := 1) X d_La_law_579 (by decide) ?_
                                                refine V_iconst (v := 1) X d_La_law_580 (by decide) ?_
                                                refine V_iconst (v := 3) X d_La_law_581 (by decide) ?_
                                                refine V_cP X h (fun r101 s102 q => C_V (q := 0) X [Value.int (1 : Int32), Value.int (1 : Int32), Value.int (3 : Int32)] mt_Co_centuries ms_Co_centuries ml_La_104 (k_Co_centuries fu s99 (1 : Int32) (1 : Int32) (3 : Int32) r101 s102 q) rfl rfl (by omega) (Nat.le_of_ble_eq_true rfl) rfl (by decide) (by decide) (by decide) d_La_law_582) (fun r101 s102 h => ?_)
                                                refine V_bipush (v := -102) X d_La_law_585 (by decide) ?_
                                                refine V_icmp_eq X 592 d_La_law_587 (by decide) h (fun c103 h => ?_) (fun c103 h => ?_)
                                                · skip
                                                  refine V_iinc X 6 (l4 + (1 : Int32)) [(4, Value.int (l4 + (1 : Int32))), (7, Value.int x50), (6, Value.int x49), (0, Value.ref b), (1, Value.ref (ad 0)), (2, Value.ref (ad 91)), (3, Value.ref (ad 92)), (5, Value.int ((29 : Int32) * l4))] d_La_law_592 rfl (by first | rfl | decide) (by decide) rfl ?_
                                                  refine V_goto X 21 d_La_law_595 (by decide) ?_
                                                  refine V_sub (lv' := [(0, Value.ref b), (1, Value.ref (ad 0)), (2, Value.ref (ad 91)), (3, Value.ref (ad 92)), (4, Value.int (l4 + (1 : Int32)))]) [3, 4, 5, 6, 0] rfl ?_
                                                  exact ih (l4 + (1 : Int32)) s102 h
                                                · skip
                                                  refine V_iconst (v := 0) X d_La_law_590 (by decide) ?_
                                                  have h9 := wp_some h
                                                  exact hQ _ _ h9 (fun _ => by decide) _ _ d_La_law_591
        · skip
          refine V_iconst (v := 0) X d_La_law_72 (by decide) ?_
          have h9 := wp_some h
          exact hQ _ _ h9 (fun _ => by decide) _ _ d_La_law_73
set_option maxHeartbeats 4000000 in
set_option maxRecDepth 100000 in
theorem La_law_ok {p : Program} {l : Launch} {e : Env} {R : Room} {s : State} {m : MethodId} {args : Array Value} {below : List Frame} {meth : Method} {c : Code} {D : va_G} {ad : Nat → Nat} {cI cB : ClassId} {A : Nat → Prop} {cells slots : Nat} {Q : State → Prop} (X : Cx p R s m args meth c R_law code 16 13 D ad cI cB A cells slots) {b L : Nat} {xs : Nat → Int32} (HX : va_X b L xs s s.heap ∧ b < s.heap.size ∧ ¬ A b) (fu : Nat) (σ : Sg) {K : Int32 × Sg → Prop} (hQ : RI p l e R s m args below meth c 16 D ad cI cB A cells slots Q code true K) (h : wpO (La_law fu xs L σ) K) : V p l e R s m args below meth c 16 D A cells slots Q (wl ad cI cB σ) 21 [(0, Value.ref b), (1, Value.ref (ad 0)), (2, Value.ref (ad 91)), (3, Value.ref (ad 92)), (4, Value.int (0 : Int32))] [] := by
  rw [La_law] at h
  refine La_law_L21_ok X HX fu _ hQ (fun l4_104 s105 h => ?_) fu (0 : Int32) σ h
  refine V_iconst (v := 1) X d_La_law_598 (by decide) ?_
  have h9 := wp_some h
  exact hQ _ _ h9 (fun _ => by decide) _ _ d_La_law_599
