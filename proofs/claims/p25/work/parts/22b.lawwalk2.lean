set_option maxHeartbeats 4000000 in
set_option maxRecDepth 100000 in
theorem La_act_L35_ok {p : Program} {l : Launch} {e : Env} {R : Room} {s : State} {m : MethodId} {args : Array Value} {below : List Frame} {meth : Method} {c : Code} {D : va_G} {ad : Nat → Nat} {cI cB : ClassId} {A : Nat → Prop} {cells slots : Nat} {Q : State → Prop} (X : Cx p R s m args meth c R_law method_16_code 7 6 D ad cI cB A cells slots) (fu : Nat) (q2 : Nat) (hl_q2 : q2 < 93) (hc_q2 : jv_cls q2 = 100) (l1 : Int32) (l5 : Int32) (σ : Sg) (kont : (Int32 → Int32 → Option (Int32 × Sg))) {K : (Int32 × Sg) → Prop} (hQ : RI p l e R s m args below meth c 7 D ad cI cB A cells slots Q method_16_code true K) (hk : ∀ (l4 : Int32) (l6 : Int32), wpO (kont l4 l6) K → V p l e R s m args below meth c 7 D A cells slots Q (wl ad cI cB σ) 80 [(0, Value.ref (ad 0)), (1, Value.int l1), (2, Value.ref (ad q2)), (4, Value.int l4), (5, Value.int l5), (6, Value.int l6)] []) : ∀ (n : Nat) (l4 : Int32) (l6 : Int32), wpO (La_act_L35 fu q2 l1 l5 σ kont n l4 l6) K → V p l e R s m args below meth c 7 D A cells slots Q (wl ad cI cB σ) 35 [(0, Value.ref (ad 0)), (1, Value.int l1), (2, Value.ref (ad q2)), (4, Value.int l4), (5, Value.int l5), (6, Value.int l6)] [] := by
  intro n
  induction n with
  | zero =>
    intro l4 l6 h
    exact (wp_none h).elim
  | succ n ih =>
    intro l4 l6 h
    rw [La_act_L35] at h
    refine V_iload X 5 d_La_act_35 rfl ?_
    refine V_aload_n X 2 d_La_act_37 rfl ?_
    refine V_iconst (v := 1) X d_La_act_38 (by decide) ?_
    refine V_iald X d_La_act_39 hl_q2 hc_q2 rfl h (fun h => ?_)
    refine V_icmp_ge X 80 d_La_act_40 (by decide) h (fun c34 h => ?_) (fun c34 h => ?_)
    · skip
      exact hk l4 l6 h
    · skip
      refine V_iload_n X 1 d_La_act_43 rfl ?_
      refine V_sipush (v := 512) X d_La_act_44 (by decide) ?_
      refine V_idiv X d_La_act_47 (by decide) ?_
      refine V_iconst (v := 5) X d_La_act_48 (by decide) ?_
      refine V_irem X d_La_act_49 (by decide) ?_
      refine V_if_le X 80 d_La_act_50 (by decide) h (fun c35 h => ?_) (fun c35 h => ?_)
      · skip
        exact hk l4 l6 h
      · skip
        refine V_aload_n X 2 d_La_act_53 rfl ?_
        refine V_iload X 3 d_La_act_54 rfl ?_
        refine V_iload X 4 d_La_act_56 rfl ?_
        refine V_cI X h (fun r36 q => C_S X [Value.ref (ad q2), Value.int l4, Value.int l5] mt_La_may ms_La_may ml_La_49 (k_La_may fu σ q2 hl_q2 hc_q2 l4 l5 r36 q) rfl rfl (by omega) (Nat.le_of_ble_eq_true rfl) d_La_act_58) (fun r36 h => ?_)
        refine V_if_ne X 80 d_La_act_61 (by decide) h (fun c37 h => ?_) (fun c37 h => ?_)
        · skip
          exact hk l4 l6 h
        · skip
          refine V_iload X 3 d_La_act_64 rfl ?_
          refine V_iconst (v := 1) X d_La_act_66 (by decide) ?_
          refine V_iadd X d_La_act_67 ?_
          refine V_aload_n X 2 d_La_act_68 rfl ?_
          refine V_iconst (v := 1) X d_La_act_69 (by decide) ?_
          refine V_iald X d_La_act_70 hl_q2 hc_q2 rfl h (fun h => ?_)
          obtain ⟨hz, h⟩ := wp_nz h
          refine V_irem X d_La_act_71 hz ?_
          obtain ⟨x38, hx38, h⟩ := wp_N h
          rw [hx38]
          refine V_istore X [(4, Value.int x38), (0, Value.ref (ad 0)), (1, Value.int l1), (2, Value.ref (ad q2)), (5, Value.int l5), (6, Value.int l6)] d_La_act_72 (by decide) rfl ?_
          refine V_iinc X 5 (l6 + (1 : Int32)) [(6, Value.int (l6 + (1 : Int32))), (4, Value.int x38), (0, Value.ref (ad 0)), (1, Value.int l1), (2, Value.ref (ad q2)), (5, Value.int l5)] d_La_act_74 rfl (by first | rfl | decide) (by decide) rfl ?_
          refine V_goto X 35 d_La_act_77 (by decide) ?_
          refine V_sub (lv' := [(0, Value.ref (ad 0)), (1, Value.int l1), (2, Value.ref (ad q2)), (4, Value.int x38), (5, Value.int l5), (6, Value.int (l6 + (1 : Int32)))]) [2, 3, 4, 1, 5, 0] rfl ?_
          exact ih x38 (l6 + (1 : Int32)) h
set_option maxHeartbeats 4000000 in
set_option maxRecDepth 100000 in
theorem k_La_act (fu : Nat) (σ : Sg) (a1 : Int32) (q2 : Nat) (hl_q2 : q2 < 93) (hc_q2 : jv_cls q2 = 100) (r : Int32) (σ' : Sg) (h : La_act fu σ a1 q2 = some (r, σ')) : Evc y_La_act method_16_code 7 (some .boolean) 6 (fun ad => [Value.ref (ad 0), Value.int a1, Value.ref (ad q2)]) σ σ' (fun _ => some (.int r)) := by
  refine Evc_ofZ (by decide) (fun ad => Nat.le_of_ble_eq_true rfl) (fun p l e R s m args below meth c D ad cI cB A Q X hQ => ?_)
  have X : Cx p R s m args meth c R_law method_16_code 7 6 D ad cI cB A 0 0 := X
  have h : wpO (La_act fu σ a1 q2) (fun q => q = (r, σ')) := ⟨_, h, rfl⟩
  rw [La_act] at h
  refine V_sub (lv' := [(0, Value.ref (ad 0)), (1, Value.int a1), (2, Value.ref (ad q2))]) [0, 1, 2] rfl ?_
  refine V_iload_n X 1 d_La_act_0 rfl ?_
  refine V_bipush (v := 16) X d_La_act_1 (by decide) ?_
  refine V_irem X d_La_act_3 (by decide) ?_
  obtain ⟨x1, hx1, h⟩ := wp_N h
  rw [hx1]
  refine V_istore_n X [(3, Value.int x1), (0, Value.ref (ad 0)), (1, Value.int a1), (2, Value.ref (ad q2))] d_La_act_4 (by decide) rfl ?_
  refine V_iload_n X 2 d_La_act_5 rfl ?_
  refine V_bipush (v := 16) X d_La_act_6 (by decide) ?_
  refine V_idiv X d_La_act_8 (by decide) ?_
  refine V_aload_n X 3 d_La_act_9 rfl ?_
  refine V_iconst (v := 1) X d_La_act_10 (by decide) ?_
  refine V_iald X d_La_act_11 hl_q2 hc_q2 rfl h (fun h => ?_)
  obtain ⟨hz, h⟩ := wp_nz h
  refine V_irem X d_La_act_12 hz ?_
  obtain ⟨x2, hx2, h⟩ := wp_N h
  rw [hx2]
  refine V_istore X [(4, Value.int x2), (3, Value.int x1), (0, Value.ref (ad 0)), (1, Value.int a1), (2, Value.ref (ad q2))] d_La_act_13 (by decide) rfl ?_
  refine V_iload_n X 3 d_La_act_15 rfl ?_
  refine V_sipush (v := 128) X d_La_act_16 (by decide) ?_
  refine V_idiv X d_La_act_19 (by decide) ?_
  refine V_aload_n X 4 d_La_act_20 rfl ?_
  refine V_iconst (v := 0) X d_La_act_21 (by decide) ?_
  refine V_iald X d_La_act_22 hl_q2 hc_q2 rfl h (fun h => ?_)
  obtain ⟨hz, h⟩ := wp_nz h
  refine V_irem X d_La_act_23 hz ?_
  obtain ⟨x3, hx3, h⟩ := wp_N h
  rw [hx3]
  refine V_istore X [(5, Value.int x3), (4, Value.int x2), (3, Value.int x1), (0, Value.ref (ad 0)), (1, Value.int a1), (2, Value.ref (ad q2))] d_La_act_24 (by decide) rfl ?_
  refine V_iload_n X 2 d_La_act_26 rfl ?_
  refine V_bipush (v := 7) X d_La_act_27 (by decide) ?_
  refine V_icmp_ge X 142 d_La_act_29 (by decide) h (fun c4 h => ?_) (fun c4 h => ?_)
  · skip
    refine V_iload_n X 2 d_La_act_142 rfl ?_
    refine V_bipush (v := 11) X d_La_act_143 (by decide) ?_
    refine V_icmp_ge X 175 d_La_act_145 (by decide) h (fun c5 h => ?_) (fun c5 h => ?_)
    · skip
      refine V_iload_n X 2 d_La_act_175 rfl ?_
      refine V_bipush (v := 12) X d_La_act_176 (by decide) ?_
      refine V_icmp_ge X 229 d_La_act_178 (by decide) h (fun c6 h => ?_) (fun c6 h => ?_)
      · skip
        refine V_iload_n X 2 d_La_act_229 rfl ?_
        refine V_bipush (v := 14) X d_La_act_230 (by decide) ?_
        refine V_icmp_ge X 319 d_La_act_232 (by decide) h (fun c7 h => ?_) (fun c7 h => ?_)
        · skip
          refine V_aload_n X 5 d_La_act_319 rfl ?_
          refine V_bipush (v := 14) X d_La_act_320 (by decide) ?_
          refine V_iconst (v := 5) X d_La_act_322 (by decide) ?_
          refine V_iload X 1 d_La_act_323 rfl ?_
          refine V_imul X d_La_act_325 ?_
          refine V_iadd X d_La_act_326 ?_
          refine V_iald X d_La_act_327 hl_q2 hc_q2 rfl h (fun h => ?_)
          refine V_if_ne X 348 d_La_act_328 (by decide) h (fun c8 h => ?_) (fun c8 h => ?_)
          · skip
            refine V_aload_n X 5 d_La_act_348 rfl ?_
            refine V_bipush (v := 14) X d_La_act_349 (by decide) ?_
            refine V_iconst (v := 5) X d_La_act_351 (by decide) ?_
            refine V_iload X 1 d_La_act_352 rfl ?_
            refine V_imul X d_La_act_354 ?_
            refine V_iadd X d_La_act_355 ?_
            refine V_iconst (v := 0) X d_La_act_356 (by decide) ?_
            refine V_iast X d_La_act_357 hl_q2 hc_q2 rfl h (fun h => ?_)
            obtain ⟨s9, hs9, h⟩ := wp_N h
            rw [hs9]
            refine V_aload_n X 3 d_La_act_358 rfl ?_
            refine V_iload X 1 d_La_act_359 rfl ?_
            refine V_cP X h (fun r10 s11 q => C_V (q := 0) X [Value.int x2] mt_Co_walk ms_Co_walk ml_La_71 (k_Co_walk fu s9 x2 r10 s11 q) rfl rfl (by omega) (Nat.le_of_ble_eq_true rfl) rfl (by decide) (by decide) (by decide) d_La_act_361) (fun r10 s11 h => ?_)
            refine V_aload_n X 5 d_La_act_364 rfl ?_
            refine V_aload_n X 5 d_La_act_365 rfl ?_
            refine V_cI X h (fun r12 q => C_S X [Value.ref (ad q2)] mt_La_righted ms_La_righted ml_La_35 (k_La_righted fu s11 q2 hl_q2 hc_q2 r12 q) rfl rfl (by omega) (Nat.le_of_ble_eq_true rfl) d_La_act_366) (fun r12 h => ?_)
            refine V_cI X h (fun r13 q => C_S X [Value.ref (ad q2), Value.int r12] mt_La_worth ms_La_worth ml_La_74 (k_La_worth fu s11 q2 hl_q2 hc_q2 r12 r13 q) rfl rfl (by omega) (Nat.le_of_ble_eq_true rfl) d_La_act_369) (fun r13 h => ?_)
            refine V_icmp_ne X 379 d_La_act_372 (by decide) h (fun c14 h => ?_) (fun c14 h => ?_)
            · skip
              refine V_iconst (v := 0) X d_La_act_379 (by decide) ?_
              have h9 := wp_some h
              exact hQ _ _ h9 (fun _ => by decide) _ _ d_La_act_380
            · skip
              refine V_iconst (v := 1) X d_La_act_375 (by decide) ?_
              refine V_goto X 380 d_La_act_376 (by decide) ?_
              have h9 := wp_some h
              exact hQ _ _ h9 (fun _ => by decide) _ _ d_La_act_380
          · skip
            refine V_aload_n X 3 d_La_act_331 rfl ?_
            refine V_iload X 1 d_La_act_332 rfl ?_
            refine V_cP X h (fun r15 s16 q => C_V (q := 0) X [Value.int x2] mt_Co_walk ms_Co_walk ml_La_71 (k_Co_walk fu σ x2 r15 s16 q) rfl rfl (by omega) (Nat.le_of_ble_eq_true rfl) rfl (by decide) (by decide) (by decide) d_La_act_334) (fun r15 s16 h => ?_)
            refine V_bipush (v := -103) X d_La_act_337 (by decide) ?_
            refine V_icmp_ne X 346 d_La_act_339 (by decide) h (fun c17 h => ?_) (fun c17 h => ?_)
            · skip
              refine V_iconst (v := 0) X d_La_act_346 (by decide) ?_
              have h9 := wp_some h
              exact hQ _ _ h9 (fun _ => by decide) _ _ d_La_act_347
            · skip
              refine V_iconst (v := 1) X d_La_act_342 (by decide) ?_
              refine V_goto X 347 d_La_act_343 (by decide) ?_
              have h9 := wp_some h
              exact hQ _ _ h9 (fun _ => by decide) _ _ d_La_act_347
        · skip
          refine V_aload_n X 5 d_La_act_235 rfl ?_
          refine V_bipush (v := 12) X d_La_act_236 (by decide) ?_
          refine V_iconst (v := 5) X d_La_act_238 (by decide) ?_
          refine V_iload X 1 d_La_act_239 rfl ?_
          refine V_imul X d_La_act_241 ?_
          refine V_iadd X d_La_act_242 ?_
          refine V_iald X d_La_act_243 hl_q2 hc_q2 rfl h (fun h => ?_)
          obtain ⟨x18, hx18, h⟩ := wp_N h
          rw [hx18]
          refine V_istore X [(6, Value.int x18), (5, Value.int x3), (4, Value.int x2), (3, Value.int x1), (0, Value.ref (ad 0)), (1, Value.int a1), (2, Value.ref (ad q2))] d_La_act_244 (by decide) rfl ?_
          refine V_aload_n X 6 d_La_act_246 rfl ?_
          refine V_bipush (v := 11) X d_La_act_247 (by decide) ?_
          refine V_iconst (v := 5) X d_La_act_249 (by decide) ?_
          refine V_iload X 2 d_La_act_250 rfl ?_
          refine V_imul X d_La_act_252 ?_
          refine V_iadd X d_La_act_253 ?_
          refine V_iconst (v := 1) X d_La_act_254 (by decide) ?_
          refine V_iload_n X 5 d_La_act_255 rfl ?_
          refine V_sipush (v := 512) X d_La_act_256 (by decide) ?_
          refine V_idiv X d_La_act_259 (by decide) ?_
          refine V_bipush (v := 9) X d_La_act_260 (by decide) ?_
          refine V_irem X d_La_act_262 (by decide) ?_
          refine V_iadd X d_La_act_263 ?_
          refine V_iast X d_La_act_264 hl_q2 hc_q2 rfl h (fun h => ?_)
          obtain ⟨s19, hs19, h⟩ := wp_N h
          rw [hs19]
          refine V_aload_n X 6 d_La_act_265 rfl ?_
          refine V_bipush (v := 12) X d_La_act_266 (by decide) ?_
          refine V_iconst (v := 5) X d_La_act_268 (by decide) ?_
          refine V_iload X 2 d_La_act_269 rfl ?_
          refine V_imul X d_La_act_271 ?_
          refine V_iadd X d_La_act_272 ?_
          refine V_iconst (v := 1) X d_La_act_273 (by decide) ?_
          refine V_iload_n X 5 d_La_act_274 rfl ?_
          refine V_sipush (v := 8192) X d_La_act_275 (by decide) ?_
          refine V_idiv X d_La_act_278 (by decide) ?_
          refine V_bipush (v := 9) X d_La_act_279 (by decide) ?_
          refine V_irem X d_La_act_281 (by decide) ?_
          refine V_iadd X d_La_act_282 ?_
          refine V_iast X d_La_act_283 hl_q2 hc_q2 rfl h (fun h => ?_)
          obtain ⟨s20, hs20, h⟩ := wp_N h
          rw [hs20]
          refine V_aload_n X 4 d_La_act_284 rfl ?_
          refine V_iload X 2 d_La_act_285 rfl ?_
          refine V_aload_n X 6 d_La_act_287 rfl ?_
          refine V_bipush (v := 11) X d_La_act_288 (by decide) ?_
          refine V_iconst (v := 5) X d_La_act_290 (by decide) ?_
          refine V_iload X 2 d_La_act_291 rfl ?_
          refine V_imul X d_La_act_293 ?_
          refine V_iadd X d_La_act_294 ?_
          refine V_iald X d_La_act_295 hl_q2 hc_q2 rfl h (fun h => ?_)
          refine V_aload_n X 6 d_La_act_296 rfl ?_
          refine V_bipush (v := 12) X d_La_act_297 (by decide) ?_
          refine V_iconst (v := 5) X d_La_act_299 (by decide) ?_
          refine V_iload X 2 d_La_act_300 rfl ?_
          refine V_imul X d_La_act_302 ?_
          refine V_iadd X d_La_act_303 ?_
          refine V_iald X d_La_act_304 hl_q2 hc_q2 rfl h (fun h => ?_)
          refine V_cP X h (fun r21 s22 q => C_V (q := 0) X [Value.int x2, Value.int (gA s20 q2 (ix ((11 : Int32) + ((5 : Int32) * x2)))), Value.int (gA s20 q2 (ix ((12 : Int32) + ((5 : Int32) * x2))))] mt_Co_plead ms_Co_plead ml_La_67 (k_Co_plead s20 x2 (gA s20 q2 (ix ((11 : Int32) + ((5 : Int32) * x2)))) (gA s20 q2 (ix ((12 : Int32) + ((5 : Int32) * x2)))) r21 s22 q) rfl rfl (by omega) (Nat.le_of_ble_eq_true rfl) rfl (by decide) (by decide) (by decide) d_La_act_305) (fun r21 s22 h => ?_)
          refine V_iload X 0 d_La_act_308 rfl ?_
          refine V_icmp_ne X 317 d_La_act_310 (by decide) h (fun c23 h => ?_) (fun c23 h => ?_)
          · skip
            refine V_iconst (v := 0) X d_La_act_317 (by decide) ?_
            have h9 := wp_some h
            exact hQ _ _ h9 (fun _ => by decide) _ _ d_La_act_318
          · skip
            refine V_iconst (v := 1) X d_La_act_313 (by decide) ?_
            refine V_goto X 318 d_La_act_314 (by decide) ?_
            have h9 := wp_some h
            exact hQ _ _ h9 (fun _ => by decide) _ _ d_La_act_318
      · skip
        refine V_aload_n X 5 d_La_act_181 rfl ?_
        refine V_bipush (v := 7) X d_La_act_182 (by decide) ?_
        refine V_iload X 0 d_La_act_184 rfl ?_
        refine V_iadd X d_La_act_186 ?_
        refine V_iald X d_La_act_187 hl_q2 hc_q2 rfl h (fun h => ?_)
        obtain ⟨x24, hx24, h⟩ := wp_N h
        rw [hx24]
        refine V_istore X [(6, Value.int x24), (5, Value.int x3), (4, Value.int x2), (3, Value.int x1), (0, Value.ref (ad 0)), (1, Value.int a1), (2, Value.ref (ad q2))] d_La_act_188 (by decide) rfl ?_
        refine V_aload_n X 6 d_La_act_190 rfl ?_
        refine V_bipush (v := 7) X d_La_act_191 (by decide) ?_
        refine V_iload X 1 d_La_act_193 rfl ?_
        refine V_iadd X d_La_act_195 ?_
        refine V_iload_n X 5 d_La_act_196 rfl ?_
        refine V_sipush (v := 512) X d_La_act_197 (by decide) ?_
        refine V_idiv X d_La_act_200 (by decide) ?_
        refine V_bipush (v := 10) X d_La_act_201 (by decide) ?_
        refine V_irem X d_La_act_203 (by decide) ?_
        refine V_iast X d_La_act_204 hl_q2 hc_q2 rfl h (fun h => ?_)
        obtain ⟨s25, hs25, h⟩ := wp_N h
        rw [hs25]
        refine V_aload_n X 4 d_La_act_205 rfl ?_
        refine V_iload X 1 d_La_act_206 rfl ?_
        refine V_aload_n X 6 d_La_act_208 rfl ?_
        refine V_bipush (v := 7) X d_La_act_209 (by decide) ?_
        refine V_iload X 1 d_La_act_211 rfl ?_
        refine V_iadd X d_La_act_213 ?_
        refine V_iald X d_La_act_214 hl_q2 hc_q2 rfl h (fun h => ?_)
        refine V_cP X h (fun r26 s27 q => C_V (q := 0) X [Value.int x3, Value.int (gA s25 q2 (ix ((7 : Int32) + x3)))] mt_Co_birds ms_Co_birds ml_La_64 (k_Co_birds s25 x3 (gA s25 q2 (ix ((7 : Int32) + x3))) r26 s27 q) rfl rfl (by omega) (Nat.le_of_ble_eq_true rfl) rfl (by decide) (by decide) (by decide) d_La_act_215) (fun r26 s27 h => ?_)
        refine V_iload X 0 d_La_act_218 rfl ?_
        refine V_icmp_ne X 227 d_La_act_220 (by decide) h (fun c28 h => ?_) (fun c28 h => ?_)
        · skip
          refine V_iconst (v := 0) X d_La_act_227 (by decide) ?_
          have h9 := wp_some h
          exact hQ _ _ h9 (fun _ => by decide) _ _ d_La_act_228
        · skip
          refine V_iconst (v := 1) X d_La_act_223 (by decide) ?_
          refine V_goto X 228 d_La_act_224 (by decide) ?_
          have h9 := wp_some h
          exact hQ _ _ h9 (fun _ => by decide) _ _ d_La_act_228
    · skip
      refine V_aload_n X 5 d_La_act_148 rfl ?_
      refine V_cV X h (fun s29 q => C_S X [Value.ref (ad q2)] mt_La_year ms_La_year ml_La_58 (k_La_year fu σ q2 hl_q2 hc_q2 s29 q) rfl rfl (by omega) (Nat.le_of_ble_eq_true rfl) d_La_act_149) (fun s29 h => ?_)
      refine V_aload_n X 5 d_La_act_152 rfl ?_
      refine V_iconst (v := 2) X d_La_act_153 (by decide) ?_
      refine V_dup2 X d_La_act_154 rfl rfl ?_
      refine V_iald X d_La_act_155 hl_q2 hc_q2 rfl h (fun h => ?_)
      refine V_iconst (v := 1) X d_La_act_156 (by decide) ?_
      refine V_iadd X d_La_act_157 ?_
      refine V_iast X d_La_act_158 hl_q2 hc_q2 rfl h (fun h => ?_)
      obtain ⟨s30, hs30, h⟩ := wp_N h
      rw [hs30]
      refine V_aload_n X 3 d_La_act_159 rfl ?_
      refine V_cP X h (fun r31 s32 q => C_V (q := 0) X [] mt_Co_year ms_Co_year ml_La_62 (k_Co_year fu s30 r31 s32 q) rfl rfl (by omega) (Nat.le_of_ble_eq_true rfl) rfl (by decide) (by decide) (by decide) d_La_act_160) (fun r31 s32 h => ?_)
      refine V_aload_n X 5 d_La_act_163 rfl ?_
      refine V_iconst (v := 2) X d_La_act_164 (by decide) ?_
      refine V_iald X d_La_act_165 hl_q2 hc_q2 rfl h (fun h => ?_)
      refine V_icmp_ne X 173 d_La_act_166 (by decide) h (fun c33 h => ?_) (fun c33 h => ?_)
      · skip
        refine V_iconst (v := 0) X d_La_act_173 (by decide) ?_
        have h9 := wp_some h
        exact hQ _ _ h9 (fun _ => by decide) _ _ d_La_act_174
      · skip
        refine V_iconst (v := 1) X d_La_act_169 (by decide) ?_
        refine V_goto X 174 d_La_act_170 (by decide) ?_
        have h9 := wp_some h
        exact hQ _ _ h9 (fun _ => by decide) _ _ d_La_act_174
  · skip
    refine V_iconst (v := 0) X d_La_act_32 (by decide) ?_
    refine V_istore X [(6, Value.int (0 : Int32)), (5, Value.int x3), (4, Value.int x2), (3, Value.int x1), (0, Value.ref (ad 0)), (1, Value.int a1), (2, Value.ref (ad q2))] d_La_act_33 (by decide) rfl ?_
    refine V_sub (lv' := [(0, Value.ref (ad 0)), (1, Value.int a1), (2, Value.ref (ad q2)), (4, Value.int x2), (5, Value.int x3), (6, Value.int (0 : Int32))]) [4, 5, 6, 2, 1, 0] rfl ?_
    refine La_act_L35_ok X fu q2 hl_q2 hc_q2 a1 x3 σ _ hQ (fun l4_39 l6_40 h => ?_) fu x2 (0 : Int32) h
    refine V_aload_n X 2 d_La_act_80 rfl ?_
    refine V_iload X 3 d_La_act_81 rfl ?_
    refine V_iload X 4 d_La_act_83 rfl ?_
    refine V_cI X h (fun r41 q => C_S X [Value.ref (ad q2), Value.int l4_39, Value.int x3] mt_La_may ms_La_may ml_La_49 (k_La_may fu σ q2 hl_q2 hc_q2 l4_39 x3 r41 q) rfl rfl (by omega) (Nat.le_of_ble_eq_true rfl) d_La_act_85) (fun r41 h => ?_)
    refine V_if_ne X 110 d_La_act_88 (by decide) h (fun c42 h => ?_) (fun c42 h => ?_)
    · skip
      refine V_aload_n X 2 d_La_act_110 rfl ?_
      refine V_iconst (v := 3) X d_La_act_111 (by decide) ?_
      refine V_dup2 X d_La_act_112 rfl rfl ?_
      refine V_iald X d_La_act_113 hl_q2 hc_q2 rfl h (fun h => ?_)
      refine V_iconst (v := 1) X d_La_act_114 (by decide) ?_
      refine V_iadd X d_La_act_115 ?_
      refine V_iast X d_La_act_116 hl_q2 hc_q2 rfl h (fun h => ?_)
      obtain ⟨s43, hs43, h⟩ := wp_N h
      rw [hs43]
      refine V_aload_n X 0 d_La_act_117 rfl ?_
      refine V_iload X 3 d_La_act_118 rfl ?_
      refine V_iload X 4 d_La_act_120 rfl ?_
      refine V_cP X h (fun r44 s45 q => C_V (q := 0) X [Value.int l4_39, Value.int x3] mt_Co_right ms_Co_right ml_La_52 (k_Co_right s43 l4_39 x3 r44 s45 q) rfl rfl (by omega) (Nat.le_of_ble_eq_true rfl) rfl (by decide) (by decide) (by decide) d_La_act_122) (fun r44 s45 h => ?_)
      refine V_aload_n X 2 d_La_act_125 rfl ?_
      refine V_iload X 3 d_La_act_126 rfl ?_
      refine V_iload X 4 d_La_act_128 rfl ?_
      refine V_cP X h (fun r46 s47 q => C_S X [Value.ref (ad q2), Value.int l4_39, Value.int x3] mt_La_right ms_La_right ml_La_56 (k_La_right fu s45 q2 hl_q2 hc_q2 l4_39 x3 r46 s47 q) rfl rfl (by omega) (Nat.le_of_ble_eq_true rfl) d_La_act_130) (fun r46 s47 h => ?_)
      refine V_icmp_ne X 140 d_La_act_133 (by decide) h (fun c48 h => ?_) (fun c48 h => ?_)
      · skip
        refine V_iconst (v := 0) X d_La_act_140 (by decide) ?_
        have h9 := wp_some h
        exact hQ _ _ h9 (fun _ => by decide) _ _ d_La_act_141
      · skip
        refine V_iconst (v := 1) X d_La_act_136 (by decide) ?_
        refine V_goto X 141 d_La_act_137 (by decide) ?_
        have h9 := wp_some h
        exact hQ _ _ h9 (fun _ => by decide) _ _ d_La_act_141
    · skip
      refine V_aload_n X 0 d_La_act_91 rfl ?_
      refine V_iload X 3 d_La_act_92 rfl ?_
      refine V_iload X 4 d_La_act_94 rfl ?_
      refine V_cP X h (fun r49 s50 q => C_V (q := 0) X [Value.int l4_39, Value.int x3] mt_Co_right ms_Co_right ml_La_52 (k_Co_right σ l4_39 x3 r49 s50 q) rfl rfl (by omega) (Nat.le_of_ble_eq_true rfl) rfl (by decide) (by decide) (by decide) d_La_act_96) (fun r49 s50 h => ?_)
      refine V_bipush (v := -103) X d_La_act_99 (by decide) ?_
      refine V_icmp_ne X 108 d_La_act_101 (by decide) h (fun c51 h => ?_) (fun c51 h => ?_)
      · skip
        refine V_iconst (v := 0) X d_La_act_108 (by decide) ?_
        have h9 := wp_some h
        exact hQ _ _ h9 (fun _ => by decide) _ _ d_La_act_109
      · skip
        refine V_iconst (v := 1) X d_La_act_104 (by decide) ?_
        refine V_goto X 109 d_La_act_105 (by decide) ?_
        have h9 := wp_some h
        exact hQ _ _ h9 (fun _ => by decide) _ _ d_La_act_109
set_option maxHeartbeats 4000000 in
set_option maxRecDepth 100000 in
theorem La_told_L168_ok {p : Program} {l : Launch} {e : Env} {R : Room} {s : State} {m : MethodId} {args : Array Value} {below : List Frame} {meth : Method} {c : Code} {D : va_G} {ad : Nat → Nat} {cI cB : ClassId} {A : Nat → Prop} {cells slots : Nat} {Q : State → Prop} (X : Cx p R s m args meth c R_law method_18_code 8 7 D ad cI cB A cells slots) (fu : Nat) (q1 : Nat) (hl_q1 : q1 < 93) (hc_q1 : jv_cls q1 = 100) (l2 : Int32) (l3 : Int32) (l4 : Int32) (σ : Sg) (kont : (Int32 → Option Int32)) {K : Int32 → Prop} (hQ : RP p l e R s m args below meth c 8 D ad cI cB A cells slots Q method_18_code true σ K) (hk : ∀ (l5 : Int32), wpO (kont l5) K → V p l e R s m args below meth c 8 D A cells slots Q (wl ad cI cB σ) 225 [(0, Value.ref (ad 0)), (1, Value.ref (ad q1)), (2, Value.int l2), (3, Value.int l3), (4, Value.int l4), (5, Value.int l5)] []) : ∀ (n : Nat) (l5 : Int32), wpO (La_told_L168 fu q1 l2 l3 l4 σ kont n l5) K → V p l e R s m args below meth c 8 D A cells slots Q (wl ad cI cB σ) 168 [(0, Value.ref (ad 0)), (1, Value.ref (ad q1)), (2, Value.int l2), (3, Value.int l3), (4, Value.int l4), (5, Value.int l5)] [] := by
  intro n
  induction n with
  | zero =>
    intro l5 h
    exact (wp_none h).elim
  | succ n ih =>
    intro l5 h
    rw [La_told_L168] at h
    refine V_iload X 5 d_La_told_168 rfl ?_
    refine V_iconst (v := 5) X d_La_told_170 (by decide) ?_
    refine V_icmp_ge X 225 d_La_told_171 (by decide) h (fun c26 h => ?_) (fun c26 h => ?_)
    · skip
      exact hk l5 h
    · skip
      refine V_aload_n X 0 d_La_told_174 rfl ?_
      refine V_iload_n X 3 d_La_told_175 rfl ?_
      refine V_iload X 5 d_La_told_176 rfl ?_
      refine V_cI X h (fun r27 q => C_V (q := 0) X [Value.int l3, Value.int l5] mt_Co_as ms_Co_as ml_La_113 (k_Co_as σ l3 l5 r27 q) rfl rfl (by omega) (Nat.le_of_ble_eq_true rfl) rfl (by decide) (by decide) (by decide) d_La_told_178) (fun r27 h => ?_)
      refine V_iload X 5 d_La_told_181 rfl ?_
      refine V_joinV (T1 := fun v28 => V p l e R s m args below meth c 8 D A cells slots Q (wl ad cI cB σ) 214 [(0, Value.ref (ad 0)), (1, Value.ref (ad q1)), (2, Value.int l2), (3, Value.int l3), (4, Value.int l4), (5, Value.int l5)] [Value.int v28, Value.int r27]) h (fun v28 h => ?_) (fun hJ28 h => ?_)
      · skip
        refine V_icmp_eq X 219 d_La_told_214 (by decide) h (fun c29 h => ?_) (fun c29 h => ?_)
        · skip
          refine V_iinc X 5 (l5 + (1 : Int32)) [(5, Value.int (l5 + (1 : Int32))), (0, Value.ref (ad 0)), (1, Value.ref (ad q1)), (2, Value.int l2), (3, Value.int l3), (4, Value.int l4)] d_La_told_219 rfl (by first | rfl | decide) (by decide) rfl ?_
          refine V_goto X 168 d_La_told_222 (by decide) ?_
          refine V_sub (lv' := [(0, Value.ref (ad 0)), (1, Value.ref (ad q1)), (2, Value.int l2), (3, Value.int l3), (4, Value.int l4), (5, Value.int (l5 + (1 : Int32)))]) [1, 2, 3, 4, 5, 0] rfl ?_
          exact ih (l5 + (1 : Int32)) h
        · skip
          refine V_iconst (v := 0) X d_La_told_217 (by decide) ?_
          have h9 := wp_some h
          exact hQ _ h9 (fun _ => by decide) _ _ d_La_told_218
      · skip
        refine V_if_eq X 209 d_La_told_183 (by decide) h (fun c30 h => ?_) (fun c30 h => ?_)
        · skip
          refine V_iload_n X 3 d_La_told_209 rfl ?_
          refine V_goto X 214 d_La_told_210 (by decide) ?_
          obtain ⟨q9, hq9, h⟩ := h
          cases hq9
          exact hJ28 _ h
        · skip
          refine V_iload X 5 d_La_told_186 rfl ?_
          refine V_aload_n X 1 d_La_told_188 rfl ?_
          refine V_iload X 4 d_La_told_189 rfl ?_
          refine V_iald X d_La_told_191 hl_q1 hc_q1 rfl h (fun h => ?_)
          refine V_icmp_eq X 209 d_La_told_192 (by decide) h (fun c31 h => ?_) (fun c31 h => ?_)
          · skip
            refine V_iload_n X 3 d_La_told_209 rfl ?_
            refine V_goto X 214 d_La_told_210 (by decide) ?_
            obtain ⟨q9, hq9, h⟩ := h
            cases hq9
            exact hJ28 _ h
          · skip
            refine V_iload X 5 d_La_told_195 rfl ?_
            refine V_iconst (v := 1) X d_La_told_197 (by decide) ?_
            refine V_icmp_ne X 213 d_La_told_198 (by decide) h (fun c32 h => ?_) (fun c32 h => ?_)
            · skip
              refine V_iconst (v := -1) X d_La_told_213 (by decide) ?_
              obtain ⟨q9, hq9, h⟩ := h
              cases hq9
              exact hJ28 _ h
            · skip
              refine V_aload_n X 1 d_La_told_201 rfl ?_
              refine V_iload X 4 d_La_told_202 rfl ?_
              refine V_iald X d_La_told_204 hl_q1 hc_q1 rfl h (fun h => ?_)
              refine V_iconst (v := 4) X d_La_told_205 (by decide) ?_
              refine V_icmp_ne X 213 d_La_told_206 (by decide) h (fun c33 h => ?_) (fun c33 h => ?_)
              · skip
                refine V_iconst (v := -1) X d_La_told_213 (by decide) ?_
                obtain ⟨q9, hq9, h⟩ := h
                cases hq9
                exact hJ28 _ h
              · skip
                refine V_iload_n X 3 d_La_told_209 rfl ?_
                refine V_goto X 214 d_La_told_210 (by decide) ?_
                obtain ⟨q9, hq9, h⟩ := h
                cases hq9
                exact hJ28 _ h
set_option maxHeartbeats 4000000 in
set_option maxRecDepth 100000 in
theorem La_told_L7_ok {p : Program} {l : Launch} {e : Env} {R : Room} {s : State} {m : MethodId} {args : Array Value} {below : List Frame} {meth : Method} {c : Code} {D : va_G} {ad : Nat → Nat} {cI cB : ClassId} {A : Nat → Prop} {cells slots : Nat} {Q : State → Prop} (X : Cx p R s m args meth c R_law method_18_code 8 7 D ad cI cB A cells slots) (fu : Nat) (q1 : Nat) (hl_q1 : q1 < 93) (hc_q1 : jv_cls q1 = 100) (l2 : Int32) (σ : Sg) (kont : (Int32 → Option Int32)) {K : Int32 → Prop} (hQ : RP p l e R s m args below meth c 8 D ad cI cB A cells slots Q method_18_code true σ K) (hk : ∀ (l3 : Int32), wpO (kont l3) K → V p l e R s m args below meth c 8 D A cells slots Q (wl ad cI cB σ) 231 [(0, Value.ref (ad 0)), (1, Value.ref (ad q1)), (2, Value.int l2), (3, Value.int l3)] []) : ∀ (n : Nat) (l3 : Int32), wpO (La_told_L7 fu q1 l2 σ kont n l3) K → V p l e R s m args below meth c 8 D A cells slots Q (wl ad cI cB σ) 7 [(0, Value.ref (ad 0)), (1, Value.ref (ad q1)), (2, Value.int l2), (3, Value.int l3)] [] := by
  intro n
  induction n with
  | zero =>
    intro l3 h
    exact (wp_none h).elim
  | succ n ih =>
    intro l3 h
    rw [La_told_L7] at h
    refine V_iload_n X 3 d_La_told_7 rfl ?_
    refine V_aload_n X 1 d_La_told_8 rfl ?_
    refine V_iconst (v := 1) X d_La_told_9 (by decide) ?_
    refine V_iald X d_La_told_10 hl_q1 hc_q1 rfl h (fun h => ?_)
    refine V_icmp_ge X 231 d_La_told_11 (by decide) h (fun c2 h => ?_) (fun c2 h => ?_)
    · skip
      exact hk l3 h
    · skip
      refine V_bipush (v := 10) X d_La_told_14 (by decide) ?_
      refine V_iconst (v := 5) X d_La_told_16 (by decide) ?_
      refine V_iload_n X 3 d_La_told_17 rfl ?_
      refine V_imul X d_La_told_18 ?_
      refine V_iadd X d_La_told_19 ?_
      obtain ⟨x3, hx3, h⟩ := wp_N h
      rw [hx3]
      refine V_istore X [(4, Value.int x3), (0, Value.ref (ad 0)), (1, Value.ref (ad q1)), (2, Value.int l2), (3, Value.int l3)] d_La_told_20 (by decide) rfl ?_
      refine V_aload_n X 1 d_La_told_22 rfl ?_
      refine V_iload_n X 4 d_La_told_23 rfl ?_
      refine V_iconst (v := 0) X d_La_told_24 (by decide) ?_
      refine V_cI X h (fun r4 q => C_V (q := 0) X [Value.int l3, Value.int (0 : Int32)] mt_Co_suit ms_Co_suit ml_La_110 (k_Co_suit fu σ l3 (0 : Int32) r4 q) rfl rfl (by omega) (Nat.le_of_ble_eq_true rfl) rfl (by decide) (by decide) (by decide) d_La_told_25) (fun r4 h => ?_)
      refine V_aload_n X 2 d_La_told_28 rfl ?_
      refine V_iload X 0 d_La_told_29 rfl ?_
      refine V_iald X d_La_told_31 hl_q1 hc_q1 rfl h (fun h => ?_)
      refine V_icmp_ne X 163 d_La_told_32 (by decide) h (fun c5 h => ?_) (fun c5 h => ?_)
      · skip
        refine V_iconst (v := 0) X d_La_told_163 (by decide) ?_
        have h9 := wp_some h
        exact hQ _ h9 (fun _ => by decide) _ _ d_La_told_164
      · skip
        refine V_aload_n X 1 d_La_told_35 rfl ?_
        refine V_iload_n X 4 d_La_told_36 rfl ?_
        refine V_iconst (v := 1) X d_La_told_37 (by decide) ?_
        refine V_cI X h (fun r6 q => C_V (q := 0) X [Value.int l3, Value.int (1 : Int32)] mt_Co_suit ms_Co_suit ml_La_110 (k_Co_suit fu σ l3 (1 : Int32) r6 q) rfl rfl (by omega) (Nat.le_of_ble_eq_true rfl) rfl (by decide) (by decide) (by decide) d_La_told_38) (fun r6 h => ?_)
        refine V_aload_n X 2 d_La_told_41 rfl ?_
        refine V_iload X 0 d_La_told_42 rfl ?_
        refine V_iconst (v := 1) X d_La_told_44 (by decide) ?_
        refine V_iadd X d_La_told_45 ?_
        refine V_iald X d_La_told_46 hl_q1 hc_q1 rfl h (fun h => ?_)
        refine V_icmp_ne X 163 d_La_told_47 (by decide) h (fun c7 h => ?_) (fun c7 h => ?_)
        · skip
          refine V_iconst (v := 0) X d_La_told_163 (by decide) ?_
          have h9 := wp_some h
          exact hQ _ h9 (fun _ => by decide) _ _ d_La_told_164
        · skip
          refine V_aload_n X 1 d_La_told_50 rfl ?_
          refine V_iload_n X 4 d_La_told_51 rfl ?_
          refine V_iconst (v := 2) X d_La_told_52 (by decide) ?_
          refine V_cI X h (fun r8 q => C_V (q := 0) X [Value.int l3, Value.int (2 : Int32)] mt_Co_suit ms_Co_suit ml_La_110 (k_Co_suit fu σ l3 (2 : Int32) r8 q) rfl rfl (by omega) (Nat.le_of_ble_eq_true rfl) rfl (by decide) (by decide) (by decide) d_La_told_53) (fun r8 h => ?_)
          refine V_aload_n X 2 d_La_told_56 rfl ?_
          refine V_iload X 0 d_La_told_57 rfl ?_
          refine V_iconst (v := 2) X d_La_told_59 (by decide) ?_
          refine V_iadd X d_La_told_60 ?_
          refine V_iald X d_La_told_61 hl_q1 hc_q1 rfl h (fun h => ?_)
          refine V_icmp_ne X 163 d_La_told_62 (by decide) h (fun c9 h => ?_) (fun c9 h => ?_)
          · skip
            refine V_iconst (v := 0) X d_La_told_163 (by decide) ?_
            have h9 := wp_some h
            exact hQ _ h9 (fun _ => by decide) _ _ d_La_told_164
          · skip
            refine V_aload_n X 1 d_La_told_65 rfl ?_
            refine V_iload_n X 4 d_La_told_66 rfl ?_
            refine V_iconst (v := 3) X d_La_told_67 (by decide) ?_
            refine V_cI X h (fun r10 q => C_V (q := 0) X [Value.int l3, Value.int (3 : Int32)] mt_Co_suit ms_Co_suit ml_La_110 (k_Co_suit fu σ l3 (3 : Int32) r10 q) rfl rfl (by omega) (Nat.le_of_ble_eq_true rfl) rfl (by decide) (by decide) (by decide) d_La_told_68) (fun r10 h => ?_)
            refine V_aload_n X 2 d_La_told_71 rfl ?_
            refine V_iload X 0 d_La_told_72 rfl ?_
            refine V_iconst (v := 3) X d_La_told_74 (by decide) ?_
            refine V_iadd X d_La_told_75 ?_
            refine V_iald X d_La_told_76 hl_q1 hc_q1 rfl h (fun h => ?_)
            refine V_icmp_ne X 163 d_La_told_77 (by decide) h (fun c11 h => ?_) (fun c11 h => ?_)
            · skip
              refine V_iconst (v := 0) X d_La_told_163 (by decide) ?_
              have h9 := wp_some h
              exact hQ _ h9 (fun _ => by decide) _ _ d_La_told_164
            · skip
              refine V_aload_n X 1 d_La_told_80 rfl ?_
              refine V_iload_n X 4 d_La_told_81 rfl ?_
              refine V_iconst (v := 4) X d_La_told_82 (by decide) ?_
              refine V_cI X h (fun r12 q => C_V (q := 0) X [Value.int l3, Value.int (4 : Int32)] mt_Co_suit ms_Co_suit ml_La_110 (k_Co_suit fu σ l3 (4 : Int32) r12 q) rfl rfl (by omega) (Nat.le_of_ble_eq_true rfl) rfl (by decide) (by decide) (by decide) d_La_told_83) (fun r12 h => ?_)
              refine V_aload_n X 2 d_La_told_86 rfl ?_
              refine V_iload_n X 4 d_La_told_87 rfl ?_
              refine V_aload_n X 2 d_La_told_88 rfl ?_
              refine V_iload X 0 d_La_told_89 rfl ?_
              refine V_iconst (v := 1) X d_La_told_91 (by decide) ?_
              refine V_iadd X d_La_told_92 ?_
              refine V_iald X d_La_told_93 hl_q1 hc_q1 rfl h (fun h => ?_)
              refine V_cI X h (fun r13 q => C_S X [Value.ref (ad q1), Value.int l3, Value.int (gA σ q1 (ix (x3 + (1 : Int32))))] mt_La_costs ms_La_costs ml_La_31 (k_La_costs fu σ q1 hl_q1 hc_q1 l3 (gA σ q1 (ix (x3 + (1 : Int32)))) r13 q) rfl rfl (by omega) (Nat.le_of_ble_eq_true rfl) d_La_told_94) (fun r13 h => ?_)
              refine V_icmp_ne X 163 d_La_told_97 (by decide) h (fun c14 h => ?_) (fun c14 h => ?_)
              · skip
                refine V_iconst (v := 0) X d_La_told_163 (by decide) ?_
                have h9 := wp_some h
                exact hQ _ h9 (fun _ => by decide) _ _ d_La_told_164
              · skip
                refine V_aload_n X 1 d_La_told_100 rfl ?_
                refine V_iload_n X 4 d_La_told_101 rfl ?_
                refine V_iconst (v := 5) X d_La_told_102 (by decide) ?_
                refine V_cI X h (fun r15 q => C_V (q := 0) X [Value.int l3, Value.int (5 : Int32)] mt_Co_suit ms_Co_suit ml_La_110 (k_Co_suit fu σ l3 (5 : Int32) r15 q) rfl rfl (by omega) (Nat.le_of_ble_eq_true rfl) rfl (by decide) (by decide) (by decide) d_La_told_103) (fun r15 h => ?_)
                refine V_aload_n X 2 d_La_told_106 rfl ?_
                refine V_iload X 0 d_La_told_107 rfl ?_
                refine V_iconst (v := 4) X d_La_told_109 (by decide) ?_
                refine V_iadd X d_La_told_110 ?_
                refine V_iald X d_La_told_111 hl_q1 hc_q1 rfl h (fun h => ?_)
                refine V_icmp_ne X 163 d_La_told_112 (by decide) h (fun c16 h => ?_) (fun c16 h => ?_)
                · skip
                  refine V_iconst (v := 0) X d_La_told_163 (by decide) ?_
                  have h9 := wp_some h
                  exact hQ _ h9 (fun _ => by decide) _ _ d_La_told_164
                · skip
                  refine V_aload_n X 1 d_La_told_115 rfl ?_
                  refine V_iload_n X 4 d_La_told_116 rfl ?_
                  refine V_bipush (v := 6) X d_La_told_117 (by decide) ?_
                  refine V_cI X h (fun r17 q => C_V (q := 0) X [Value.int l3, Value.int (6 : Int32)] mt_Co_suit ms_Co_suit ml_La_110 (k_Co_suit fu σ l3 (6 : Int32) r17 q) rfl rfl (by omega) (Nat.le_of_ble_eq_true rfl) rfl (by decide) (by decide) (by decide) d_La_told_119) (fun r17 h => ?_)
                  refine V_aload_n X 2 d_La_told_122 rfl ?_
                  refine V_iload_n X 4 d_La_told_123 rfl ?_
                  refine V_cI X h (fun r18 q => C_S X [Value.ref (ad q1), Value.int l3] mt_La_under ms_La_under ml_La_42 (k_La_under fu σ q1 hl_q1 hc_q1 l3 r18 q) rfl rfl (by omega) (Nat.le_of_ble_eq_true rfl) d_La_told_124) (fun r18 h => ?_)
                  refine V_icmp_ne X 163 d_La_told_127 (by decide) h (fun c19 h => ?_) (fun c19 h => ?_)
                  · skip
                    refine V_iconst (v := 0) X d_La_told_163 (by decide) ?_
                    have h9 := wp_some h
                    exact hQ _ h9 (fun _ => by decide) _ _ d_La_told_164
                  · skip
                    refine V_aload_n X 1 d_La_told_130 rfl ?_
                    refine V_iload_n X 4 d_La_told_131 rfl ?_
                    refine V_bipush (v := 7) X d_La_told_132 (by decide) ?_
                    refine V_cI X h (fun r20 q => C_V (q := 0) X [Value.int l3, Value.int (7 : Int32)] mt_Co_suit ms_Co_suit ml_La_110 (k_Co_suit fu σ l3 (7 : Int32) r20 q) rfl rfl (by omega) (Nat.le_of_ble_eq_true rfl) rfl (by decide) (by decide) (by decide) d_La_told_134) (fun r20 h => ?_)
                    refine V_aload_n X 2 d_La_told_137 rfl ?_
                    refine V_iload_n X 4 d_La_told_138 rfl ?_
                    refine V_cI X h (fun r21 q => C_S X [Value.ref (ad q1), Value.int l3] mt_La_under ms_La_under ml_La_42 (k_La_under fu σ q1 hl_q1 hc_q1 l3 r21 q) rfl rfl (by omega) (Nat.le_of_ble_eq_true rfl) d_La_told_139) (fun r21 h => ?_)
                    refine V_iload_n X 3 d_La_told_142 rfl ?_
                    refine V_iand X d_La_told_143 ?_
                    refine V_cI X h (fun r22 q => C_S X [Value.int (r21 &&& l2)] mt_La_ones ms_La_ones ml_La_46 (k_La_ones fu σ (r21 &&& l2) r22 q) rfl rfl (by omega) (Nat.le_of_ble_eq_true rfl) d_La_told_144) (fun r22 h => ?_)
                    refine V_icmp_ne X 163 d_La_told_147 (by decide) h (fun c23 h => ?_) (fun c23 h => ?_)
                    · skip
                      refine V_iconst (v := 0) X d_La_told_163 (by decide) ?_
                      have h9 := wp_some h
                      exact hQ _ h9 (fun _ => by decide) _ _ d_La_told_164
                    · skip
                      refine V_aload_n X 1 d_La_told_150 rfl ?_
                      refine V_iload_n X 4 d_La_told_151 rfl ?_
                      refine V_bipush (v := 8) X d_La_told_152 (by decide) ?_
                      refine V_cI X h (fun r24 q => C_V (q := 0) X [Value.int l3, Value.int (8 : Int32)] mt_Co_suit ms_Co_suit ml_La_110 (k_Co_suit fu σ l3 (8 : Int32) r24 q) rfl rfl (by omega) (Nat.le_of_ble_eq_true rfl) rfl (by decide) (by decide) (by decide) d_La_told_154) (fun r24 h => ?_)
                      refine V_sipush (v := 511) X d_La_told_157 (by decide) ?_
                      refine V_icmp_eq X 165 d_La_told_160 (by decide) h (fun c25 h => ?_) (fun c25 h => ?_)
                      · skip
                        refine V_iconst (v := 0) X d_La_told_165 (by decide) ?_
                        refine V_istore X [(5, Value.int (0 : Int32)), (4, Value.int x3), (0, Value.ref (ad 0)), (1, Value.ref (ad q1)), (2, Value.int l2), (3, Value.int l3)] d_La_told_166 (by decide) rfl ?_
                        refine V_sub (lv' := [(0, Value.ref (ad 0)), (1, Value.ref (ad q1)), (2, Value.int l2), (3, Value.int l3), (4, Value.int x3), (5, Value.int (0 : Int32))]) [2, 3, 4, 5, 1, 0] rfl ?_
                        refine La_told_L168_ok X fu q1 hl_q1 hc_q1 l2 l3 x3 σ _ hQ (fun l5_34 h => ?_) fu (0 : Int32) h
                        refine V_iinc X 3 (l3 + (1 : Int32)) [(3, Value.int (l3 + (1 : Int32))), (0, Value.ref (ad 0)), (1, Value.ref (ad q1)), (2, Value.int l2), (4, Value.int x3), (5, Value.int l5_34)] d_La_told_225 rfl (by first | rfl | decide) (by decide) rfl ?_
                        refine V_goto X 7 d_La_told_228 (by decide) ?_
                        refine V_sub (lv' := [(0, Value.ref (ad 0)), (1, Value.ref (ad q1)), (2, Value.int l2), (3, Value.int (l3 + (1 : Int32)))]) [1, 2, 3, 0] rfl ?_
                        exact ih (l3 + (1 : Int32)) h
                      · skip
                        refine V_iconst (v := 0) X d_La_told_163 (by decide) ?_
                        have h9 := wp_some h
                        exact hQ _ h9 (fun _ => by decide) _ _ d_La_told_164
set_option maxHeartbeats 4000000 in
set_option maxRecDepth 100000 in
theorem La_told_L253_ok {p : Program} {l : Launch} {e : Env} {R : Room} {s : State} {m : MethodId} {args : Array Value} {below : List Frame} {meth : Method} {c : Code} {D : va_G} {ad : Nat → Nat} {cI cB : ClassId} {A : Nat → Prop} {cells slots : Nat} {Q : State → Prop} (X : Cx p R s m args meth c R_law method_18_code 8 7 D ad cI cB A cells slots) (fu : Nat) (q1 : Nat) (hl_q1 : q1 < 93) (hc_q1 : jv_cls q1 = 100) (l2 : Int32) (l3 : Int32) (l4 : Int32) (l5 : Int32) (σ : Sg) (kont : (Int32 → Int32 → Option Int32)) {K : Int32 → Prop} (hQ : RP p l e R s m args below meth c 8 D ad cI cB A cells slots Q method_18_code true σ K) (hk : ∀ (l6 : Int32) (l7 : Int32), wpO (kont l6 l7) K → V p l e R s m args below meth c 8 D A cells slots Q (wl ad cI cB σ) 291 [(0, Value.ref (ad 0)), (1, Value.ref (ad q1)), (2, Value.int l2), (3, Value.int l3), (4, Value.int l4), (5, Value.int l5), (6, Value.int l6), (7, Value.int l7)] []) : ∀ (n : Nat) (l6 : Int32) (l7 : Int32), wpO (La_told_L253 fu q1 l2 l3 l4 l5 σ kont n l6 l7) K → V p l e R s m args below meth c 8 D A cells slots Q (wl ad cI cB σ) 253 [(0, Value.ref (ad 0)), (1, Value.ref (ad q1)), (2, Value.int l2), (3, Value.int l3), (4, Value.int l4), (5, Value.int l5), (6, Value.int l6), (7, Value.int l7)] [] := by
  intro n
  induction n with
  | zero =>
    intro l6 l7 h
    exact (wp_none h).elim
  | succ n ih =>
    intro l6 l7 h
    rw [La_told_L253] at h
    refine V_iload X 7 d_La_told_253 rfl ?_
    refine V_aload_n X 1 d_La_told_255 rfl ?_
    refine V_iconst (v := 1) X d_La_told_256 (by decide) ?_
    refine V_iald X d_La_told_257 hl_q1 hc_q1 rfl h (fun h => ?_)
    refine V_icmp_ge X 291 d_La_told_258 (by decide) h (fun c37 h => ?_) (fun c37 h => ?_)
    · skip
      exact hk l6 l7 h
    · skip
      refine V_iload X 6 d_La_told_261 rfl ?_
      refine V_aload_n X 1 d_La_told_263 rfl ?_
      refine V_iload X 7 d_La_told_264 rfl ?_
      refine V_iload X 5 d_La_told_266 rfl ?_
      refine V_cI X h (fun r38 q => C_S X [Value.ref (ad q1), Value.int l7, Value.int l5] mt_La_may ms_La_may ml_La_49 (k_La_may fu σ q1 hl_q1 hc_q1 l7 l5 r38 q) rfl rfl (by omega) (Nat.le_of_ble_eq_true rfl) d_La_told_268) (fun r38 h => ?_)
      refine V_if_eq X 281 d_La_told_271 (by decide) h (fun c39 h => ?_) (fun c39 h => ?_)
      · skip
        refine V_iconst (v := 0) X d_La_told_281 (by decide) ?_
        refine V_ior X d_La_told_282 ?_
        refine V_istore X [(6, Value.int (l6 ||| (0 : Int32))), (0, Value.ref (ad 0)), (1, Value.ref (ad q1)), (2, Value.int l2), (3, Value.int l3), (4, Value.int l4), (5, Value.int l5), (7, Value.int l7)] d_La_told_283 (by decide) rfl ?_
        refine V_iinc X 7 (l7 + (1 : Int32)) [(7, Value.int (l7 + (1 : Int32))), (6, Value.int (l6 ||| (0 : Int32))), (0, Value.ref (ad 0)), (1, Value.ref (ad q1)), (2, Value.int l2), (3, Value.int l3), (4, Value.int l4), (5, Value.int l5)] d_La_told_285 rfl (by first | rfl | decide) (by decide) rfl ?_
        refine V_goto X 253 d_La_told_288 (by decide) ?_
        refine V_sub (lv' := [(0, Value.ref (ad 0)), (1, Value.ref (ad q1)), (2, Value.int l2), (3, Value.int l3), (4, Value.int l4), (5, Value.int l5), (6, Value.int (l6 ||| (0 : Int32))), (7, Value.int (l7 + (1 : Int32)))]) [2, 3, 4, 5, 6, 7, 1, 0] rfl ?_
        exact ih (l6 ||| (0 : Int32)) (l7 + (1 : Int32)) h
      · skip
        refine V_iconst (v := 1) X d_La_told_274 (by decide) ?_
        refine V_iload X 7 d_La_told_275 rfl ?_
        refine V_ishl X d_La_told_277 ?_
        refine V_goto X 282 d_La_told_278 (by decide) ?_
        refine V_ior X d_La_told_282 ?_
        obtain ⟨x40, hx40, h⟩ := wp_N h
        rw [hx40]
        refine V_istore X [(6, Value.int x40), (0, Value.ref (ad 0)), (1, Value.ref (ad q1)), (2, Value.int l2), (3, Value.int l3), (4, Value.int l4), (5, Value.int l5), (7, Value.int l7)] d_La_told_283 (by decide) rfl ?_
        refine V_iinc X 7 (l7 + (1 : Int32)) [(7, Value.int (l7 + (1 : Int32))), (6, Value.int x40), (0, Value.ref (ad 0)), (1, Value.ref (ad q1)), (2, Value.int l2), (3, Value.int l3), (4, Value.int l4), (5, Value.int l5)] d_La_told_285 rfl (by first | rfl | decide) (by decide) rfl ?_
        refine V_goto X 253 d_La_told_288 (by decide) ?_
        refine V_sub (lv' := [(0, Value.ref (ad 0)), (1, Value.ref (ad q1)), (2, Value.int l2), (3, Value.int l3), (4, Value.int l4), (5, Value.int l5), (6, Value.int x40), (7, Value.int (l7 + (1 : Int32)))]) [2, 3, 4, 5, 6, 7, 1, 0] rfl ?_
        exact ih x40 (l7 + (1 : Int32)) h
set_option maxHeartbeats 4000000 in
set_option maxRecDepth 100000 in
theorem La_told_L239_ok {p : Program} {l : Launch} {e : Env} {R : Room} {s : State} {m : MethodId} {args : Array Value} {below : List Frame} {meth : Method} {c : Code} {D : va_G} {ad : Nat → Nat} {cI cB : ClassId} {A : Nat → Prop} {cells slots : Nat} {Q : State → Prop} (X : Cx p R s m args meth c R_law method_18_code 8 7 D ad cI cB A cells slots) (fu : Nat) (q1 : Nat) (hl_q1 : q1 < 93) (hc_q1 : jv_cls q1 = 100) (l2 : Int32) (σ : Sg) (kont : (Int32 → Int32 → Int32 → Option Int32)) {K : Int32 → Prop} (hQ : RP p l e R s m args below meth c 8 D ad cI cB A cells slots Q method_18_code true σ K) (hk : ∀ (l3 : Int32) (l4 : Int32) (l5 : Int32), wpO (kont l3 l4 l5) K → V p l e R s m args below meth c 8 D A cells slots Q (wl ad cI cB σ) 365 [(0, Value.ref (ad 0)), (1, Value.ref (ad q1)), (2, Value.int l2), (3, Value.int l3), (4, Value.int l4), (5, Value.int l5)] []) : ∀ (n : Nat) (l3 : Int32) (l4 : Int32) (l5 : Int32), wpO (La_told_L239 fu q1 l2 σ kont n l3 l4 l5) K → V p l e R s m args below meth c 8 D A cells slots Q (wl ad cI cB σ) 239 [(0, Value.ref (ad 0)), (1, Value.ref (ad q1)), (2, Value.int l2), (3, Value.int l3), (4, Value.int l4), (5, Value.int l5)] [] := by
  intro n
  induction n with
  | zero =>
    intro l3 l4 l5 h
    exact (wp_none h).elim
  | succ n ih =>
    intro l3 l4 l5 h
    rw [La_told_L239] at h
    refine V_iload X 5 d_La_told_239 rfl ?_
    refine V_aload_n X 1 d_La_told_241 rfl ?_
    refine V_iconst (v := 0) X d_La_told_242 (by decide) ?_
    refine V_iald X d_La_told_243 hl_q1 hc_q1 rfl h (fun h => ?_)
    refine V_icmp_ge X 365 d_La_told_244 (by decide) h (fun c36 h => ?_) (fun c36 h => ?_)
    · skip
      exact hk l3 l4 l5 h
    · skip
      refine V_iconst (v := 0) X d_La_told_247 (by decide) ?_
      refine V_istore X [(6, Value.int (0 : Int32)), (0, Value.ref (ad 0)), (1, Value.ref (ad q1)), (2, Value.int l2), (3, Value.int l3), (4, Value.int l4), (5, Value.int l5)] d_La_told_248 (by decide) rfl ?_
      refine V_iconst (v := 0) X d_La_told_250 (by decide) ?_
      refine V_istore X [(7, Value.int (0 : Int32)), (6, Value.int (0 : Int32)), (0, Value.ref (ad 0)), (1, Value.ref (ad q1)), (2, Value.int l2), (3, Value.int l3), (4, Value.int l4), (5, Value.int l5)] d_La_told_251 (by decide) rfl ?_
      refine V_sub (lv' := [(0, Value.ref (ad 0)), (1, Value.ref (ad q1)), (2, Value.int l2), (3, Value.int l3), (4, Value.int l4), (5, Value.int l5), (6, Value.int (0 : Int32)), (7, Value.int (0 : Int32))]) [2, 3, 4, 5, 6, 7, 1, 0] rfl ?_
      refine La_told_L253_ok X fu q1 hl_q1 hc_q1 l2 l3 l4 l5 σ _ hQ (fun l6_41 l7_42 h => ?_) fu (0 : Int32) (0 : Int32) h
      refine V_iload_n X 3 d_La_told_291 rfl ?_
      refine V_aload_n X 1 d_La_told_292 rfl ?_
      refine V_iconst (v := 4) X d_La_told_293 (by decide) ?_
      refine V_iload X 5 d_La_told_294 rfl ?_
      refine V_iadd X d_La_told_296 ?_
      refine V_iald X d_La_told_297 hl_q1 hc_q1 rfl h (fun h => ?_)
      refine V_iadd X d_La_told_298 ?_
      obtain ⟨x43, hx43, h⟩ := wp_N h
      rw [hx43]
      refine V_istore_n X [(3, Value.int x43), (0, Value.ref (ad 0)), (1, Value.ref (ad q1)), (2, Value.int l2), (4, Value.int l4), (5, Value.int l5), (6, Value.int l6_41), (7, Value.int l7_42)] d_La_told_299 (by decide) rfl ?_
      refine V_iload X 4 d_La_told_300 rfl ?_
      refine V_aload_n X 2 d_La_told_302 rfl ?_
      refine V_bipush (v := 7) X d_La_told_303 (by decide) ?_
      refine V_iload X 5 d_La_told_305 rfl ?_
      refine V_iadd X d_La_told_307 ?_
      refine V_iald X d_La_told_308 hl_q1 hc_q1 rfl h (fun h => ?_)
      refine V_iadd X d_La_told_309 ?_
      obtain ⟨x44, hx44, h⟩ := wp_N h
      rw [hx44]
      refine V_istore X [(4, Value.int x44), (3, Value.int x43), (0, Value.ref (ad 0)), (1, Value.ref (ad q1)), (2, Value.int l2), (5, Value.int l5), (6, Value.int l6_41), (7, Value.int l7_42)] d_La_told_310 (by decide) rfl ?_
      refine V_aload_n X 2 d_La_told_312 rfl ?_
      refine V_iload X 5 d_La_told_313 rfl ?_
      refine V_iconst (v := 0) X d_La_told_315 (by decide) ?_
      refine V_cI X h (fun r45 q => C_V (q := 0) X [Value.int l5, Value.int (0 : Int32)] mt_Co_tree ms_Co_tree ml_La_107 (k_Co_tree fu σ l5 (0 : Int32) r45 q) rfl rfl (by omega) (Nat.le_of_ble_eq_true rfl) rfl (by decide) (by decide) (by decide) d_La_told_316) (fun r45 h => ?_)
      refine V_aload_n X 3 d_La_told_319 rfl ?_
      refine V_iconst (v := 4) X d_La_told_320 (by decide) ?_
      refine V_iload X 5 d_La_told_321 rfl ?_
      refine V_iadd X d_La_told_323 ?_
      refine V_iald X d_La_told_324 hl_q1 hc_q1 rfl h (fun h => ?_)
      refine V_icmp_ne X 357 d_La_told_325 (by decide) h (fun c46 h => ?_) (fun c46 h => ?_)
      · skip
        refine V_iconst (v := 0) X d_La_told_357 (by decide) ?_
        have h9 := wp_some h
        exact hQ _ h9 (fun _ => by decide) _ _ d_La_told_358
      · skip
        refine V_aload_n X 2 d_La_told_328 rfl ?_
        refine V_iload X 5 d_La_told_329 rfl ?_
        refine V_iconst (v := 1) X d_La_told_331 (by decide) ?_
        refine V_cI X h (fun r47 q => C_V (q := 0) X [Value.int l5, Value.int (1 : Int32)] mt_Co_tree ms_Co_tree ml_La_107 (k_Co_tree fu σ l5 (1 : Int32) r47 q) rfl rfl (by omega) (Nat.le_of_ble_eq_true rfl) rfl (by decide) (by decide) (by decide) d_La_told_332) (fun r47 h => ?_)
        refine V_aload_n X 3 d_La_told_335 rfl ?_
        refine V_bipush (v := 7) X d_La_told_336 (by decide) ?_
        refine V_iload X 5 d_La_told_338 rfl ?_
        refine V_iadd X d_La_told_340 ?_
        refine V_iald X d_La_told_341 hl_q1 hc_q1 rfl h (fun h => ?_)
        refine V_icmp_ne X 357 d_La_told_342 (by decide) h (fun c48 h => ?_) (fun c48 h => ?_)
        · skip
          refine V_iconst (v := 0) X d_La_told_357 (by decide) ?_
          have h9 := wp_some h
          exact hQ _ h9 (fun _ => by decide) _ _ d_La_told_358
        · skip
          refine V_aload_n X 2 d_La_told_345 rfl ?_
          refine V_iload X 5 d_La_told_346 rfl ?_
          refine V_iconst (v := 2) X d_La_told_348 (by decide) ?_
          refine V_cI X h (fun r49 q => C_V (q := 0) X [Value.int l5, Value.int (2 : Int32)] mt_Co_tree ms_Co_tree ml_La_107 (k_Co_tree fu σ l5 (2 : Int32) r49 q) rfl rfl (by omega) (Nat.le_of_ble_eq_true rfl) rfl (by decide) (by decide) (by decide) d_La_told_349) (fun r49 h => ?_)
          refine V_iload X 6 d_La_told_352 rfl ?_
          refine V_icmp_eq X 359 d_La_told_354 (by decide) h (fun c50 h => ?_) (fun c50 h => ?_)
          · skip
            refine V_iinc X 5 (l5 + (1 : Int32)) [(5, Value.int (l5 + (1 : Int32))), (4, Value.int x44), (3, Value.int x43), (0, Value.ref (ad 0)), (1, Value.ref (ad q1)), (2, Value.int l2), (6, Value.int l6_41), (7, Value.int l7_42)] d_La_told_359 rfl (by first | rfl | decide) (by decide) rfl ?_
            refine V_goto X 239 d_La_told_362 (by decide) ?_
            refine V_sub (lv' := [(0, Value.ref (ad 0)), (1, Value.ref (ad q1)), (2, Value.int l2), (3, Value.int x43), (4, Value.int x44), (5, Value.int (l5 + (1 : Int32)))]) [3, 4, 5, 2, 1, 0] rfl ?_
            exact ih x43 x44 (l5 + (1 : Int32)) h
          · skip
            refine V_iconst (v := 0) X d_La_told_357 (by decide) ?_
            have h9 := wp_some h
            exact hQ _ h9 (fun _ => by decide) _ _ d_La_told_358
set_option maxHeartbeats 4000000 in
set_option maxRecDepth 100000 in
theorem k_La_told (fu : Nat) (σ : Sg) (q1 : Nat) (hl_q1 : q1 < 93) (hc_q1 : jv_cls q1 = 100) (r : Int32) (h : La_told fu σ q1 = some r) : Evc y_La_told method_18_code 8 (some .boolean) 7 (fun ad => [Value.ref (ad 0), Value.ref (ad q1)]) σ σ (fun _ => some (.int r)) := by
  refine Evc_ofZ (by decide) (fun ad => Nat.le_of_ble_eq_true rfl) (fun p l e R s m args below meth c D ad cI cB A Q X hQ => ?_)
  have X : Cx p R s m args meth c R_law method_18_code 8 7 D ad cI cB A 0 0 := X
  have hQ := hQ.pure
  have h : wpO (La_told fu σ q1) (fun q => q = r) := ⟨_, h, rfl⟩
  rw [La_told] at h
  refine V_sub (lv' := [(0, Value.ref (ad 0)), (1, Value.ref (ad q1))]) [0, 1] rfl ?_
  refine V_aload_n X 1 d_La_told_0 rfl ?_
  refine V_cI X h (fun r1 q => C_S X [Value.ref (ad q1)] mt_La_righted ms_La_righted ml_La_35 (k_La_righted fu σ q1 hl_q1 hc_q1 r1 q) rfl rfl (by omega) (Nat.le_of_ble_eq_true rfl) d_La_told_1) (fun r1 h => ?_)
  refine V_istore_n X [(2, Value.int r1), (0, Value.ref (ad 0)), (1, Value.ref (ad q1))] d_La_told_4 (by decide) rfl ?_
  refine V_iconst (v := 0) X d_La_told_5 (by decide) ?_
  refine V_istore_n X [(3, Value.int (0 : Int32)), (2, Value.int r1), (0, Value.ref (ad 0)), (1, Value.ref (ad q1))] d_La_told_6 (by decide) rfl ?_
  refine V_sub (lv' := [(0, Value.ref (ad 0)), (1, Value.ref (ad q1)), (2, Value.int r1), (3, Value.int (0 : Int32))]) [2, 3, 1, 0] rfl ?_
  refine La_told_L7_ok X fu q1 hl_q1 hc_q1 r1 σ _ hQ (fun l3_35 h => ?_) fu (0 : Int32) h
  refine V_iconst (v := 0) X d_La_told_231 (by decide) ?_
  refine V_istore_n X [(3, Value.int (0 : Int32)), (0, Value.ref (ad 0)), (1, Value.ref (ad q1)), (2, Value.int r1)] d_La_told_232 (by decide) rfl ?_
  refine V_iconst (v := 0) X d_La_told_233 (by decide) ?_
  refine V_istore X [(4, Value.int (0 : Int32)), (3, Value.int (0 : Int32)), (0, Value.ref (ad 0)), (1, Value.ref (ad q1)), (2, Value.int r1)] d_La_told_234 (by decide) rfl ?_
  refine V_iconst (v := 0) X d_La_told_236 (by decide) ?_
  refine V_istore X [(5, Value.int (0 : Int32)), (4, Value.int (0 : Int32)), (3, Value.int (0 : Int32)), (0, Value.ref (ad 0)), (1, Value.ref (ad q1)), (2, Value.int r1)] d_La_told_237 (by decide) rfl ?_
  refine V_sub (lv' := [(0, Value.ref (ad 0)), (1, Value.ref (ad q1)), (2, Value.int r1), (3, Value.int (0 : Int32)), (4, Value.int (0 : Int32)), (5, Value.int (0 : Int32))]) [3, 4, 5, 2, 1, 0] rfl ?_
  refine La_told_L239_ok X fu q1 hl_q1 hc_q1 r1 σ _ hQ (fun l3_51 l4_52 l5_53 h => ?_) fu (0 : Int32) (0 : Int32) (0 : Int32) h
  refine V_aload_n X 0 d_La_told_365 rfl ?_
  refine V_iconst (v := 0) X d_La_told_366 (by decide) ?_
  refine V_cI X h (fun r54 q => C_V (q := 0) X [Value.int (0 : Int32)] mt_Co_count ms_Co_count ml_La_116 (k_Co_count fu σ (0 : Int32) r54 q) rfl rfl (by omega) (Nat.le_of_ble_eq_true rfl) rfl (by decide) (by decide) (by decide) d_La_told_367) (fun r54 h => ?_)
  refine V_aload_n X 1 d_La_told_370 rfl ?_
  refine V_iconst (v := 0) X d_La_told_371 (by decide) ?_
  refine V_iald X d_La_told_372 hl_q1 hc_q1 rfl h (fun h => ?_)
  refine V_icmp_ne X 459 d_La_told_373 (by decide) h (fun c55 h => ?_) (fun c55 h => ?_)
  · skip
    refine V_iconst (v := 0) X d_La_told_459 (by decide) ?_
    have h9 := wp_some h
    exact hQ _ h9 (fun _ => by decide) _ _ d_La_told_460
  · skip
    refine V_aload_n X 0 d_La_told_376 rfl ?_
    refine V_iconst (v := 1) X d_La_told_377 (by decide) ?_
    refine V_cI X h (fun r56 q => C_V (q := 0) X [Value.int (1 : Int32)] mt_Co_count ms_Co_count ml_La_116 (k_Co_count fu σ (1 : Int32) r56 q) rfl rfl (by omega) (Nat.le_of_ble_eq_true rfl) rfl (by decide) (by decide) (by decide) d_La_told_378) (fun r56 h => ?_)
    refine V_aload_n X 1 d_La_told_381 rfl ?_
    refine V_iconst (v := 1) X d_La_told_382 (by decide) ?_
    refine V_iald X d_La_told_383 hl_q1 hc_q1 rfl h (fun h => ?_)
    refine V_icmp_ne X 459 d_La_told_384 (by decide) h (fun c57 h => ?_) (fun c57 h => ?_)
    · skip
      refine V_iconst (v := 0) X d_La_told_459 (by decide) ?_
      have h9 := wp_some h
      exact hQ _ h9 (fun _ => by decide) _ _ d_La_told_460
    · skip
      refine V_aload_n X 0 d_La_told_387 rfl ?_
      refine V_iconst (v := 2) X d_La_told_388 (by decide) ?_
      refine V_cI X h (fun r58 q => C_V (q := 0) X [Value.int (2 : Int32)] mt_Co_count ms_Co_count ml_La_116 (k_Co_count fu σ (2 : Int32) r58 q) rfl rfl (by omega) (Nat.le_of_ble_eq_true rfl) rfl (by decide) (by decide) (by decide) d_La_told_389) (fun r58 h => ?_)
      refine V_iload_n X 3 d_La_told_392 rfl ?_
      refine V_icmp_ne X 459 d_La_told_393 (by decide) h (fun c59 h => ?_) (fun c59 h => ?_)
      · skip
        refine V_iconst (v := 0) X d_La_told_459 (by decide) ?_
        have h9 := wp_some h
        exact hQ _ h9 (fun _ => by decide) _ _ d_La_told_460
      · skip
        refine V_aload_n X 0 d_La_told_396 rfl ?_
        refine V_iconst (v := 3) X d_La_told_397 (by decide) ?_
        refine V_cI X h (fun r60 q => C_V (q := 0) X [Value.int (3 : Int32)] mt_Co_count ms_Co_count ml_La_116 (k_Co_count fu σ (3 : Int32) r60 q) rfl rfl (by omega) (Nat.le_of_ble_eq_true rfl) rfl (by decide) (by decide) (by decide) d_La_told_398) (fun r60 h => ?_)
        refine V_iload X 4 d_La_told_401 rfl ?_
        refine V_icmp_ne X 459 d_La_told_403 (by decide) h (fun c61 h => ?_) (fun c61 h => ?_)
        · skip
          refine V_iconst (v := 0) X d_La_told_459 (by decide) ?_
          have h9 := wp_some h
          exact hQ _ h9 (fun _ => by decide) _ _ d_La_told_460
        · skip
          refine V_aload_n X 0 d_La_told_406 rfl ?_
          refine V_iconst (v := 4) X d_La_told_407 (by decide) ?_
          refine V_cI X h (fun r62 q => C_V (q := 0) X [Value.int (4 : Int32)] mt_Co_count ms_Co_count ml_La_116 (k_Co_count fu σ (4 : Int32) r62 q) rfl rfl (by omega) (Nat.le_of_ble_eq_true rfl) rfl (by decide) (by decide) (by decide) d_La_told_408) (fun r62 h => ?_)
          refine V_iload_n X 2 d_La_told_411 rfl ?_
          refine V_cI X h (fun r63 q => C_S X [Value.int r1] mt_La_ones ms_La_ones ml_La_46 (k_La_ones fu σ r1 r63 q) rfl rfl (by omega) (Nat.le_of_ble_eq_true rfl) d_La_told_412) (fun r63 h => ?_)
          refine V_icmp_ne X 459 d_La_told_415 (by decide) h (fun c64 h => ?_) (fun c64 h => ?_)
          · skip
            refine V_iconst (v := 0) X d_La_told_459 (by decide) ?_
            have h9 := wp_some h
            exact hQ _ h9 (fun _ => by decide) _ _ d_La_told_460
          · skip
            refine V_aload_n X 0 d_La_told_418 rfl ?_
            refine V_iconst (v := 5) X d_La_told_419 (by decide) ?_
            refine V_cI X h (fun r65 q => C_V (q := 0) X [Value.int (5 : Int32)] mt_Co_count ms_Co_count ml_La_116 (k_Co_count fu σ (5 : Int32) r65 q) rfl rfl (by omega) (Nat.le_of_ble_eq_true rfl) rfl (by decide) (by decide) (by decide) d_La_told_420) (fun r65 h => ?_)
            refine V_aload_n X 1 d_La_told_423 rfl ?_
            refine V_iload_n X 2 d_La_told_424 rfl ?_
            refine V_cI X h (fun r66 q => C_S X [Value.ref (ad q1), Value.int r1] mt_La_worth ms_La_worth ml_La_74 (k_La_worth fu σ q1 hl_q1 hc_q1 r1 r66 q) rfl rfl (by omega) (Nat.le_of_ble_eq_true rfl) d_La_told_425) (fun r66 h => ?_)
            refine V_icmp_ne X 459 d_La_told_428 (by decide) h (fun c67 h => ?_) (fun c67 h => ?_)
            · skip
              refine V_iconst (v := 0) X d_La_told_459 (by decide) ?_
              have h9 := wp_some h
              exact hQ _ h9 (fun _ => by decide) _ _ d_La_told_460
            · skip
              refine V_aload_n X 0 d_La_told_431 rfl ?_
              refine V_bipush (v := 6) X d_La_told_432 (by decide) ?_
              refine V_cI X h (fun r68 q => C_V (q := 0) X [Value.int (6 : Int32)] mt_Co_count ms_Co_count ml_La_116 (k_Co_count fu σ (6 : Int32) r68 q) rfl rfl (by omega) (Nat.le_of_ble_eq_true rfl) rfl (by decide) (by decide) (by decide) d_La_told_434) (fun r68 h => ?_)
              refine V_aload_n X 1 d_La_told_437 rfl ?_
              refine V_iconst (v := 2) X d_La_told_438 (by decide) ?_
              refine V_iald X d_La_told_439 hl_q1 hc_q1 rfl h (fun h => ?_)
              refine V_icmp_ne X 459 d_La_told_440 (by decide) h (fun c69 h => ?_) (fun c69 h => ?_)
              · skip
                refine V_iconst (v := 0) X d_La_told_459 (by decide) ?_
                have h9 := wp_some h
                exact hQ _ h9 (fun _ => by decide) _ _ d_La_told_460
              · skip
                refine V_aload_n X 0 d_La_told_443 rfl ?_
                refine V_bipush (v := 7) X d_La_told_444 (by decide) ?_
                refine V_cI X h (fun r70 q => C_V (q := 0) X [Value.int (7 : Int32)] mt_Co_count ms_Co_count ml_La_116 (k_Co_count fu σ (7 : Int32) r70 q) rfl rfl (by omega) (Nat.le_of_ble_eq_true rfl) rfl (by decide) (by decide) (by decide) d_La_told_446) (fun r70 h => ?_)
                refine V_aload_n X 1 d_La_told_449 rfl ?_
                refine V_iconst (v := 3) X d_La_told_450 (by decide) ?_
                refine V_iald X d_La_told_451 hl_q1 hc_q1 rfl h (fun h => ?_)
                refine V_icmp_ne X 459 d_La_told_452 (by decide) h (fun c71 h => ?_) (fun c71 h => ?_)
                · skip
                  refine V_iconst (v := 0) X d_La_told_459 (by decide) ?_
                  have h9 := wp_some h
                  exact hQ _ h9 (fun _ => by decide) _ _ d_La_told_460
                · skip
                  refine V_iconst (v := 1) X d_La_told_455 (by decide) ?_
                  refine V_goto X 460 d_La_told_456 (by decide) ?_
                  have h9 := wp_some h
                  exact hQ _ h9 (fun _ => by decide) _ _ d_La_told_460
