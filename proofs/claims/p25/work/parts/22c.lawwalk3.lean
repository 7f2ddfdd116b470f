set_option maxHeartbeats 4000000 in
set_option maxRecDepth 100000 in
theorem La_shire_L35_ok {p : Program} {l : Launch} {e : Env} {R : Room} {s : State} {m : MethodId} {args : Array Value} {below : List Frame} {meth : Method} {c : Code} {D : va_G} {ad : Nat → Nat} {cI cB : ClassId} {A : Nat → Prop} {cells slots : Nat} {Q : State → Prop} (X : Cx p R s m args meth c R_law method_4_code 9 10 D ad cI cB A cells slots) (fu : Nat) (q4 : Nat) (hl_q4 : q4 < 93) (hc_q4 : jv_cls q4 = 100) (l1 : Int32) (l2 : Int32) (l3 : Int32) (kont : (Int32 → Int32 → Sg → Option (Int32 × Sg))) {K : (Int32 × Sg) → Prop} (hQ : RI p l e R s m args below meth c 9 D ad cI cB A cells slots Q method_4_code true K) (hk : ∀ (l5 : Int32) (l6 : Int32) (σ : Sg), wpO (kont l5 l6 σ) K → V p l e R s m args below meth c 9 D A cells slots Q (wl ad cI cB σ) 165 [(0, Value.ref (ad 0)), (1, Value.int l1), (2, Value.int l2), (3, Value.int l3), (4, Value.ref (ad q4)), (5, Value.int l5), (6, Value.int l6)] []) : ∀ (n : Nat) (l5 : Int32) (l6 : Int32) (σ : Sg), wpO (La_shire_L35 fu q4 l1 l2 l3 kont n l5 l6 σ) K → V p l e R s m args below meth c 9 D A cells slots Q (wl ad cI cB σ) 35 [(0, Value.ref (ad 0)), (1, Value.int l1), (2, Value.int l2), (3, Value.int l3), (4, Value.ref (ad q4)), (5, Value.int l5), (6, Value.int l6)] [] := by
  intro n
  induction n with
  | zero =>
    intro l5 l6 σ h
    exact (wp_none h).elim
  | succ n ih =>
    intro l5 l6 σ h
    rw [La_shire_L35] at h
    refine V_iload X 6 d_La_shire_35 rfl ?_
    refine V_aload X 4 d_La_shire_37 rfl ?_
    refine V_iconst (v := 0) X d_La_shire_39 (by decide) ?_
    refine V_iald X d_La_shire_40 hl_q4 hc_q4 rfl h (fun h => ?_)
    refine V_icmp_ge X 165 d_La_shire_41 (by decide) h (fun c5 h => ?_) (fun c5 h => ?_)
    · skip
      exact hk l5 l6 σ h
    · skip
      refine V_aload X 4 d_La_shire_44 rfl ?_
      refine V_iconst (v := 4) X d_La_shire_46 (by decide) ?_
      refine V_iload X 6 d_La_shire_47 rfl ?_
      refine V_iadd X d_La_shire_49 ?_
      refine V_iload_n X 1 d_La_shire_50 rfl ?_
      refine V_iconst (v := 2) X d_La_shire_51 (by decide) ?_
      refine V_iconst (v := 4) X d_La_shire_52 (by decide) ?_
      refine V_iload X 6 d_La_shire_53 rfl ?_
      refine V_imul X d_La_shire_55 ?_
      refine V_iadd X d_La_shire_56 ?_
      refine V_ishr X d_La_shire_57 ?_
      refine V_bipush (v := 15) X d_La_shire_58 (by decide) ?_
      refine V_iand X d_La_shire_60 ?_
      refine V_bipush (v := 10) X d_La_shire_61 (by decide) ?_
      refine V_irem X d_La_shire_63 (by decide) ?_
      refine V_iast X d_La_shire_64 hl_q4 hc_q4 rfl h (fun h => ?_)
      obtain ⟨s6, hs6, h⟩ := wp_N h
      rw [hs6]
      refine V_aload X 4 d_La_shire_65 rfl ?_
      refine V_bipush (v := 7) X d_La_shire_67 (by decide) ?_
      refine V_iload X 6 d_La_shire_69 rfl ?_
      refine V_iadd X d_La_shire_71 ?_
      refine V_iload_n X 1 d_La_shire_72 rfl ?_
      refine V_bipush (v := 14) X d_La_shire_73 (by decide) ?_
      refine V_iconst (v := 4) X d_La_shire_75 (by decide) ?_
      refine V_iload X 6 d_La_shire_76 rfl ?_
      refine V_imul X d_La_shire_78 ?_
      refine V_iadd X d_La_shire_79 ?_
      refine V_ishr X d_La_shire_80 ?_
      refine V_bipush (v := 15) X d_La_shire_81 (by decide) ?_
      refine V_iand X d_La_shire_83 ?_
      refine V_iload_n X 2 d_La_shire_84 rfl ?_
      refine V_iconst (v := 2) X d_La_shire_85 (by decide) ?_
      refine V_irem X d_La_shire_86 (by decide) ?_
      refine V_joinV (T1 := fun v7 => V p l e R s m args below meth c 9 D A cells slots Q (wl ad cI cB s6) 96 [(0, Value.ref (ad 0)), (1, Value.int l1), (2, Value.int l2), (3, Value.int l3), (4, Value.ref (ad q4)), (5, Value.int l5), (6, Value.int l6)] [Value.int v7, Value.int ((l1 >>> (((14 : Int32) + ((4 : Int32) * l6)) &&& 31)) &&& (15 : Int32)), Value.int ((7 : Int32) + l6), Value.ref (ad q4)]) h (fun v7 h => ?_) (fun hJ7 h => ?_)
      · skip
        obtain ⟨hz, h⟩ := wp_nz h
        refine V_irem X d_La_shire_96 hz ?_
        refine V_iast X d_La_shire_97 hl_q4 hc_q4 rfl h (fun h => ?_)
        obtain ⟨s8, hs8, h⟩ := wp_N h
        rw [hs8]
        refine V_iload X 5 d_La_shire_98 rfl ?_
        refine V_if_eq X 156 d_La_shire_100 (by decide) h (fun c9 h => ?_) (fun c9 h => ?_)
        · skip
          refine V_iconst (v := 0) X d_La_shire_156 (by decide) ?_
          refine V_istore X [(5, Value.int (0 : Int32)), (0, Value.ref (ad 0)), (1, Value.int l1), (2, Value.int l2), (3, Value.int l3), (4, Value.ref (ad q4)), (6, Value.int l6)] d_La_shire_157 (by decide) rfl ?_
          refine V_iinc X 6 (l6 + (1 : Int32)) [(6, Value.int (l6 + (1 : Int32))), (5, Value.int (0 : Int32)), (0, Value.ref (ad 0)), (1, Value.int l1), (2, Value.int l2), (3, Value.int l3), (4, Value.ref (ad q4))] d_La_shire_159 rfl (by first | rfl | decide) (by decide) rfl ?_
          refine V_goto X 35 d_La_shire_162 (by decide) ?_
          refine V_sub (lv' := [(0, Value.ref (ad 0)), (1, Value.int l1), (2, Value.int l2), (3, Value.int l3), (4, Value.ref (ad q4)), (5, Value.int (0 : Int32)), (6, Value.int (l6 + (1 : Int32)))]) [2, 3, 4, 5, 6, 1, 0] rfl ?_
          exact ih (0 : Int32) (l6 + (1 : Int32)) s8 h
        · skip
          refine V_iload X 6 d_La_shire_103 rfl ?_
          refine V_if_eq X 117 d_La_shire_105 (by decide) h (fun c10 h => ?_) (fun c10 h => ?_)
          · skip
            refine V_aload_n X 0 d_La_shire_117 rfl ?_
            refine V_bipush (v := 48) X d_La_shire_118 (by decide) ?_
            refine V_aload X 4 d_La_shire_120 rfl ?_
            refine V_iconst (v := 4) X d_La_shire_122 (by decide) ?_
            refine V_iload X 6 d_La_shire_123 rfl ?_
            refine V_iadd X d_La_shire_125 ?_
            refine V_iald X d_La_shire_126 hl_q4 hc_q4 rfl h (fun h => ?_)
            refine V_iadd X d_La_shire_127 ?_
            refine V_cP X h (fun r11 s12 q => C_S X [Value.ref (ad 0), Value.int ((48 : Int32) + (gA s8 q4 (ix ((4 : Int32) + l6))))] mt_La_put ms_La_put ml_La_14 (k_La_put s8 ((48 : Int32) + (gA s8 q4 (ix ((4 : Int32) + l6)))) r11 s12 q) rfl rfl (by omega) (Nat.le_of_ble_eq_true rfl) d_La_shire_128) (fun r11 s12 h => ?_)
            refine V_if_eq X 156 d_La_shire_131 (by decide) h (fun c13 h => ?_) (fun c13 h => ?_)
            · skip
              refine V_iconst (v := 0) X d_La_shire_156 (by decide) ?_
              refine V_istore X [(5, Value.int (0 : Int32)), (0, Value.ref (ad 0)), (1, Value.int l1), (2, Value.int l2), (3, Value.int l3), (4, Value.ref (ad q4)), (6, Value.int l6)] d_La_shire_157 (by decide) rfl ?_
              refine V_iinc X 6 (l6 + (1 : Int32)) [(6, Value.int (l6 + (1 : Int32))), (5, Value.int (0 : Int32)), (0, Value.ref (ad 0)), (1, Value.int l1), (2, Value.int l2), (3, Value.int l3), (4, Value.ref (ad q4))] d_La_shire_159 rfl (by first | rfl | decide) (by decide) rfl ?_
              refine V_goto X 35 d_La_shire_162 (by decide) ?_
              refine V_sub (lv' := [(0, Value.ref (ad 0)), (1, Value.int l1), (2, Value.int l2), (3, Value.int l3), (4, Value.ref (ad q4)), (5, Value.int (0 : Int32)), (6, Value.int (l6 + (1 : Int32)))]) [2, 3, 4, 5, 6, 1, 0] rfl ?_
              exact ih (0 : Int32) (l6 + (1 : Int32)) s12 h
            · skip
              refine V_aload_n X 0 d_La_shire_134 rfl ?_
              refine V_bipush (v := 48) X d_La_shire_135 (by decide) ?_
              refine V_aload X 4 d_La_shire_137 rfl ?_
              refine V_bipush (v := 7) X d_La_shire_139 (by decide) ?_
              refine V_iload X 6 d_La_shire_141 rfl ?_
              refine V_iadd X d_La_shire_143 ?_
              refine V_iald X d_La_shire_144 hl_q4 hc_q4 rfl h (fun h => ?_)
              refine V_iadd X d_La_shire_145 ?_
              refine V_cP X h (fun r14 s15 q => C_S X [Value.ref (ad 0), Value.int ((48 : Int32) + (gA s12 q4 (ix ((7 : Int32) + l6))))] mt_La_put ms_La_put ml_La_14 (k_La_put s12 ((48 : Int32) + (gA s12 q4 (ix ((7 : Int32) + l6)))) r14 s15 q) rfl rfl (by omega) (Nat.le_of_ble_eq_true rfl) d_La_shire_146) (fun r14 s15 h => ?_)
              refine V_if_eq X 156 d_La_shire_149 (by decide) h (fun c16 h => ?_) (fun c16 h => ?_)
              · skip
                refine V_iconst (v := 0) X d_La_shire_156 (by decide) ?_
                refine V_istore X [(5, Value.int (0 : Int32)), (0, Value.ref (ad 0)), (1, Value.int l1), (2, Value.int l2), (3, Value.int l3), (4, Value.ref (ad q4)), (6, Value.int l6)] d_La_shire_157 (by decide) rfl ?_
                refine V_iinc X 6 (l6 + (1 : Int32)) [(6, Value.int (l6 + (1 : Int32))), (5, Value.int (0 : Int32)), (0, Value.ref (ad 0)), (1, Value.int l1), (2, Value.int l2), (3, Value.int l3), (4, Value.ref (ad q4))] d_La_shire_159 rfl (by first | rfl | decide) (by decide) rfl ?_
                refine V_goto X 35 d_La_shire_162 (by decide) ?_
                refine V_sub (lv' := [(0, Value.ref (ad 0)), (1, Value.int l1), (2, Value.int l2), (3, Value.int l3), (4, Value.ref (ad q4)), (5, Value.int (0 : Int32)), (6, Value.int (l6 + (1 : Int32)))]) [2, 3, 4, 5, 6, 1, 0] rfl ?_
                exact ih (0 : Int32) (l6 + (1 : Int32)) s15 h
              · skip
                refine V_iconst (v := 1) X d_La_shire_152 (by decide) ?_
                refine V_goto X 157 d_La_shire_153 (by decide) ?_
                refine V_istore X [(5, Value.int (1 : Int32)), (0, Value.ref (ad 0)), (1, Value.int l1), (2, Value.int l2), (3, Value.int l3), (4, Value.ref (ad q4)), (6, Value.int l6)] d_La_shire_157 (by decide) rfl ?_
                refine V_iinc X 6 (l6 + (1 : Int32)) [(6, Value.int (l6 + (1 : Int32))), (5, Value.int (1 : Int32)), (0, Value.ref (ad 0)), (1, Value.int l1), (2, Value.int l2), (3, Value.int l3), (4, Value.ref (ad q4))] d_La_shire_159 rfl (by first | rfl | decide) (by decide) rfl ?_
                refine V_goto X 35 d_La_shire_162 (by decide) ?_
                refine V_sub (lv' := [(0, Value.ref (ad 0)), (1, Value.int l1), (2, Value.int l2), (3, Value.int l3), (4, Value.ref (ad q4)), (5, Value.int (1 : Int32)), (6, Value.int (l6 + (1 : Int32)))]) [2, 3, 4, 5, 6, 1, 0] rfl ?_
                exact ih (1 : Int32) (l6 + (1 : Int32)) s15 h
          · skip
            refine V_aload_n X 0 d_La_shire_108 rfl ?_
            refine V_bipush (v := 44) X d_La_shire_109 (by decide) ?_
            refine V_cP X h (fun r17 s18 q => C_S X [Value.ref (ad 0), Value.int (44 : Int32)] mt_La_put ms_La_put ml_La_14 (k_La_put s8 (44 : Int32) r17 s18 q) rfl rfl (by omega) (Nat.le_of_ble_eq_true rfl) d_La_shire_111) (fun r17 s18 h => ?_)
            refine V_if_eq X 156 d_La_shire_114 (by decide) h (fun c19 h => ?_) (fun c19 h => ?_)
            · skip
              refine V_iconst (v := 0) X d_La_shire_156 (by decide) ?_
              refine V_istore X [(5, Value.int (0 : Int32)), (0, Value.ref (ad 0)), (1, Value.int l1), (2, Value.int l2), (3, Value.int l3), (4, Value.ref (ad q4)), (6, Value.int l6)] d_La_shire_157 (by decide) rfl ?_
              refine V_iinc X 6 (l6 + (1 : Int32)) [(6, Value.int (l6 + (1 : Int32))), (5, Value.int (0 : Int32)), (0, Value.ref (ad 0)), (1, Value.int l1), (2, Value.int l2), (3, Value.int l3), (4, Value.ref (ad q4))] d_La_shire_159 rfl (by first | rfl | decide) (by decide) rfl ?_
              refine V_goto X 35 d_La_shire_162 (by decide) ?_
              refine V_sub (lv' := [(0, Value.ref (ad 0)), (1, Value.int l1), (2, Value.int l2), (3, Value.int l3), (4, Value.ref (ad q4)), (5, Value.int (0 : Int32)), (6, Value.int (l6 + (1 : Int32)))]) [2, 3, 4, 5, 6, 1, 0] rfl ?_
              exact ih (0 : Int32) (l6 + (1 : Int32)) s18 h
            · skip
              refine V_aload_n X 0 d_La_shire_117 rfl ?_
              refine V_bipush (v := 48) X d_La_shire_118 (by decide) ?_
              refine V_aload X 4 d_La_shire_120 rfl ?_
              refine V_iconst (v := 4) X d_La_shire_122 (by decide) ?_
              refine V_iload X 6 d_La_shire_123 rfl ?_
              refine V_iadd X d_La_shire_125 ?_
              refine V_iald X d_La_shire_126 hl_q4 hc_q4 rfl h (fun h => ?_)
              refine V_iadd X d_La_shire_127 ?_
              refine V_cP X h (fun r20 s21 q => C_S X [Value.ref (ad 0), Value.int ((48 : Int32) + (gA s18 q4 (ix ((4 : Int32) + l6))))] mt_La_put ms_La_put ml_La_14 (k_La_put s18 ((48 : Int32) + (gA s18 q4 (ix ((4 : Int32) + l6)))) r20 s21 q) rfl rfl (by omega) (Nat.le_of_ble_eq_true rfl) d_La_shire_128) (fun r20 s21 h => ?_)
              refine V_if_eq X 156 d_La_shire_131 (by decide) h (fun c22 h => ?_) (fun c22 h => ?_)
              · skip
                refine V_iconst (v := 0) X d_La_shire_156 (by decide) ?_
                refine V_istore X [(5, Value.int (0 : Int32)), (0, Value.ref (ad 0)), (1, Value.int l1), (2, Value.int l2), (3, Value.int l3), (4, Value.ref (ad q4)), (6, Value.int l6)] d_La_shire_157 (by decide) rfl ?_
                refine V_iinc X 6 (l6 + (1 : Int32)) [(6, Value.int (l6 + (1 : Int32))), (5, Value.int (0 : Int32)), (0, Value.ref (ad 0)), (1, Value.int l1), (2, Value.int l2), (3, Value.int l3), (4, Value.ref (ad q4))] d_La_shire_159 rfl (by first | rfl | decide) (by decide) rfl ?_
                refine V_goto X 35 d_La_shire_162 (by decide) ?_
                refine V_sub (lv' := [(0, Value.ref (ad 0)), (1, Value.int l1), (2, Value.int l2), (3, Value.int l3), (4, Value.ref (ad q4)), (5, Value.int (0 : Int32)), (6, Value.int (l6 + (1 : Int32)))]) [2, 3, 4, 5, 6, 1, 0] rfl ?_
                exact ih (0 : Int32) (l6 + (1 : Int32)) s21 h
              · skip
                refine V_aload_n X 0 d_La_shire_134 rfl ?_
                refine V_bipush (v := 48) X d_La_shire_135 (by decide) ?_
                refine V_aload X 4 d_La_shire_137 rfl ?_
                refine V_bipush (v := 7) X d_La_shire_139 (by decide) ?_
                refine V_iload X 6 d_La_shire_141 rfl ?_
                refine V_iadd X d_La_shire_143 ?_
                refine V_iald X d_La_shire_144 hl_q4 hc_q4 rfl h (fun h => ?_)
                refine V_iadd X d_La_shire_145 ?_
                refine V_cP X h (fun r23 s24 q => C_S X [Value.ref (ad 0), Value.int ((48 : Int32) + (gA s21 q4 (ix ((7 : Int32) + l6))))] mt_La_put ms_La_put ml_La_14 (k_La_put s21 ((48 : Int32) + (gA s21 q4 (ix ((7 : Int32) + l6)))) r23 s24 q) rfl rfl (by omega) (Nat.le_of_ble_eq_true rfl) d_La_shire_146) (fun r23 s24 h => ?_)
                refine V_if_eq X 156 d_La_shire_149 (by decide) h (fun c25 h => ?_) (fun c25 h => ?_)
                · skip
                  refine V_iconst (v := 0) X d_La_shire_156 (by decide) ?_
                  refine V_istore X [(5, Value.int (0 : Int32)), (0, Value.ref (ad 0)), (1, Value.int l1), (2, Value.int l2), (3, Value.int l3), (4, Value.ref (ad q4)), (6, Value.int l6)] d_La_shire_157 (by decide) rfl ?_
                  refine V_iinc X 6 (l6 + (1 : Int32)) [(6, Value.int (l6 + (1 : Int32))), (5, Value.int (0 : Int32)), (0, Value.ref (ad 0)), (1, Value.int l1), (2, Value.int l2), (3, Value.int l3), (4, Value.ref (ad q4))] d_La_shire_159 rfl (by first | rfl | decide) (by decide) rfl ?_
                  refine V_goto X 35 d_La_shire_162 (by decide) ?_
                  refine V_sub (lv' := [(0, Value.ref (ad 0)), (1, Value.int l1), (2, Value.int l2), (3, Value.int l3), (4, Value.ref (ad q4)), (5, Value.int (0 : Int32)), (6, Value.int (l6 + (1 : Int32)))]) [2, 3, 4, 5, 6, 1, 0] rfl ?_
                  exact ih (0 : Int32) (l6 + (1 : Int32)) s24 h
                · skip
                  refine V_iconst (v := 1) X d_La_shire_152 (by decide) ?_
                  refine V_goto X 157 d_La_shire_153 (by decide) ?_
                  refine V_istore X [(5, Value.int (1 : Int32)), (0, Value.ref (ad 0)), (1, Value.int l1), (2, Value.int l2), (3, Value.int l3), (4, Value.ref (ad q4)), (6, Value.int l6)] d_La_shire_157 (by decide) rfl ?_
                  refine V_iinc X 6 (l6 + (1 : Int32)) [(6, Value.int (l6 + (1 : Int32))), (5, Value.int (1 : Int32)), (0, Value.ref (ad 0)), (1, Value.int l1), (2, Value.int l2), (3, Value.int l3), (4, Value.ref (ad q4))] d_La_shire_159 rfl (by first | rfl | decide) (by decide) rfl ?_
                  refine V_goto X 35 d_La_shire_162 (by decide) ?_
                  refine V_sub (lv' := [(0, Value.ref (ad 0)), (1, Value.int l1), (2, Value.int l2), (3, Value.int l3), (4, Value.ref (ad q4)), (5, Value.int (1 : Int32)), (6, Value.int (l6 + (1 : Int32)))]) [2, 3, 4, 5, 6, 1, 0] rfl ?_
                  exact ih (1 : Int32) (l6 + (1 : Int32)) s24 h
      · skip
        refine V_if_ne X 95 d_La_shire_87 (by decide) h (fun c26 h => ?_) (fun c26 h => ?_)
        · skip
          refine V_iconst (v := 4) X d_La_shire_95 (by decide) ?_
          obtain ⟨q9, hq9, h⟩ := h
          cases hq9
          exact hJ7 _ h
        · skip
          refine V_bipush (v := 10) X d_La_shire_90 (by decide) ?_
          refine V_goto X 96 d_La_shire_92 (by decide) ?_
          obtain ⟨q9, hq9, h⟩ := h
          cases hq9
          exact hJ7 _ h
set_option maxHeartbeats 4000000 in
set_option maxRecDepth 100000 in
theorem La_shire_L189_ok {p : Program} {l : Launch} {e : Env} {R : Room} {s : State} {m : MethodId} {args : Array Value} {below : List Frame} {meth : Method} {c : Code} {D : va_G} {ad : Nat → Nat} {cI cB : ClassId} {A : Nat → Prop} {cells slots : Nat} {Q : State → Prop} (X : Cx p R s m args meth c R_law method_4_code 9 10 D ad cI cB A cells slots) (fu : Nat) (q4 : Nat) (hl_q4 : q4 < 93) (hc_q4 : jv_cls q4 = 100) (l1 : Int32) (l2 : Int32) (l3 : Int32) (kont : (Int32 → Int32 → Sg → Option (Int32 × Sg))) {K : (Int32 × Sg) → Prop} (hQ : RI p l e R s m args below meth c 9 D ad cI cB A cells slots Q method_4_code true K) (hk : ∀ (l5 : Int32) (l6 : Int32) (σ : Sg), wpO (kont l5 l6 σ) K → V p l e R s m args below meth c 9 D A cells slots Q (wl ad cI cB σ) 467 [(0, Value.ref (ad 0)), (1, Value.int l1), (2, Value.int l2), (3, Value.int l3), (4, Value.ref (ad q4)), (5, Value.int l5), (6, Value.int l6)] []) : ∀ (n : Nat) (l5 : Int32) (l6 : Int32) (σ : Sg), wpO (La_shire_L189 fu q4 l1 l2 l3 kont n l5 l6 σ) K → V p l e R s m args below meth c 9 D A cells slots Q (wl ad cI cB σ) 189 [(0, Value.ref (ad 0)), (1, Value.int l1), (2, Value.int l2), (3, Value.int l3), (4, Value.ref (ad q4)), (5, Value.int l5), (6, Value.int l6)] [] := by
  intro n
  induction n with
  | zero =>
    intro l5 l6 σ h
    exact (wp_none h).elim
  | succ n ih =>
    intro l5 l6 σ h
    rw [La_shire_L189] at h
    refine V_iload X 6 d_La_shire_189 rfl ?_
    refine V_aload X 4 d_La_shire_191 rfl ?_
    refine V_iconst (v := 1) X d_La_shire_193 (by decide) ?_
    refine V_iald X d_La_shire_194 hl_q4 hc_q4 rfl h (fun h => ?_)
    refine V_icmp_ge X 467 d_La_shire_195 (by decide) h (fun c31 h => ?_) (fun c31 h => ?_)
    · skip
      exact hk l5 l6 σ h
    · skip
      refine V_bipush (v := 10) X d_La_shire_198 (by decide) ?_
      refine V_iconst (v := 5) X d_La_shire_200 (by decide) ?_
      refine V_iload X 6 d_La_shire_201 rfl ?_
      refine V_imul X d_La_shire_203 ?_
      refine V_iadd X d_La_shire_204 ?_
      obtain ⟨x32, hx32, h⟩ := wp_N h
      rw [hx32]
      refine V_istore X [(7, Value.int x32), (0, Value.ref (ad 0)), (1, Value.int l1), (2, Value.int l2), (3, Value.int l3), (4, Value.ref (ad q4)), (5, Value.int l5), (6, Value.int l6)] d_La_shire_205 (by decide) rfl ?_
      refine V_iload_n X 4 d_La_shire_207 rfl ?_
      refine V_iconst (v := 3) X d_La_shire_208 (by decide) ?_
      refine V_iload X 7 d_La_shire_209 rfl ?_
      refine V_imul X d_La_shire_211 ?_
      refine V_ishr X d_La_shire_212 ?_
      refine V_bipush (v := 7) X d_La_shire_213 (by decide) ?_
      refine V_iand X d_La_shire_215 ?_
      refine V_iconst (v := 5) X d_La_shire_216 (by decide) ?_
      refine V_irem X d_La_shire_217 (by decide) ?_
      obtain ⟨x33, hx33, h⟩ := wp_N h
      rw [hx33]
      refine V_istore X [(8, Value.int x33), (7, Value.int x32), (0, Value.ref (ad 0)), (1, Value.int l1), (2, Value.int l2), (3, Value.int l3), (4, Value.ref (ad q4)), (5, Value.int l5), (6, Value.int l6)] d_La_shire_218 (by decide) rfl ?_
      refine V_aload X 6 d_La_shire_220 rfl ?_
      refine V_iload X 1 d_La_shire_222 rfl ?_
      refine V_iload X 0 d_La_shire_224 rfl ?_
      refine V_iast X d_La_shire_226 hl_q4 hc_q4 rfl h (fun h => ?_)
      obtain ⟨s34, hs34, h⟩ := wp_N h
      rw [hs34]
      refine V_aload X 6 d_La_shire_227 rfl ?_
      refine V_iload X 1 d_La_shire_229 rfl ?_
      refine V_iconst (v := 1) X d_La_shire_231 (by decide) ?_
      refine V_iadd X d_La_shire_232 ?_
      refine V_iconst (v := 1) X d_La_shire_233 (by decide) ?_
      refine V_iload_n X 4 d_La_shire_234 rfl ?_
      refine V_iconst (v := 3) X d_La_shire_235 (by decide) ?_
      refine V_iconst (v := 3) X d_La_shire_236 (by decide) ?_
      refine V_iload X 8 d_La_shire_237 rfl ?_
      refine V_imul X d_La_shire_239 ?_
      refine V_iadd X d_La_shire_240 ?_
      refine V_ishr X d_La_shire_241 ?_
      refine V_bipush (v := 15) X d_La_shire_242 (by decide) ?_
      refine V_iand X d_La_shire_244 ?_
      refine V_iload_n X 3 d_La_shire_245 rfl ?_
      refine V_iconst (v := 4) X d_La_shire_246 (by decide) ?_
      refine V_irem X d_La_shire_247 (by decide) ?_
      refine V_joinV (T1 := fun v35 => V p l e R s m args below meth c 9 D A cells slots Q (wl ad cI cB s34) 257 [(8, Value.int x33), (7, Value.int x32), (0, Value.ref (ad 0)), (1, Value.int l1), (2, Value.int l2), (3, Value.int l3), (4, Value.ref (ad q4)), (5, Value.int l5), (6, Value.int l6)] [Value.int v35, Value.int ((l2 >>> (((3 : Int32) + ((3 : Int32) * l6)) &&& 31)) &&& (15 : Int32)), Value.int (1 : Int32), Value.int (x32 + (1 : Int32)), Value.ref (ad q4)]) h (fun v35 h => ?_) (fun hJ35 h => ?_)
      · skip
        obtain ⟨hz, h⟩ := wp_nz h
        refine V_irem X d_La_shire_257 hz ?_
        refine V_iadd X d_La_shire_258 ?_
        refine V_iast X d_La_shire_259 hl_q4 hc_q4 rfl h (fun h => ?_)
        obtain ⟨s36, hs36, h⟩ := wp_N h
        rw [hs36]
        refine V_aload X 6 d_La_shire_260 rfl ?_
        refine V_iload X 1 d_La_shire_262 rfl ?_
        refine V_iconst (v := 2) X d_La_shire_264 (by decide) ?_
        refine V_iadd X d_La_shire_265 ?_
        refine V_iconst (v := 1) X d_La_shire_266 (by decide) ?_
        refine V_iload_n X 5 d_La_shire_267 rfl ?_
        refine V_bipush (v := 7) X d_La_shire_268 (by decide) ?_
        refine V_iconst (v := 2) X d_La_shire_270 (by decide) ?_
        refine V_iload X 8 d_La_shire_271 rfl ?_
        refine V_imul X d_La_shire_273 ?_
        refine V_iadd X d_La_shire_274 ?_
        refine V_ishr X d_La_shire_275 ?_
        refine V_bipush (v := 15) X d_La_shire_276 (by decide) ?_
        refine V_iand X d_La_shire_278 ?_
        refine V_bipush (v := 9) X d_La_shire_279 (by decide) ?_
        refine V_irem X d_La_shire_281 (by decide) ?_
        refine V_iadd X d_La_shire_282 ?_
        refine V_iast X d_La_shire_283 hl_q4 hc_q4 rfl h (fun h => ?_)
        obtain ⟨s37, hs37, h⟩ := wp_N h
        rw [hs37]
        refine V_aload X 6 d_La_shire_284 rfl ?_
        refine V_iload X 1 d_La_shire_286 rfl ?_
        refine V_iconst (v := 3) X d_La_shire_288 (by decide) ?_
        refine V_iadd X d_La_shire_289 ?_
        refine V_iload_n X 3 d_La_shire_290 rfl ?_
        refine V_iconst (v := 3) X d_La_shire_291 (by decide) ?_
        refine V_iconst (v := 3) X d_La_shire_292 (by decide) ?_
        refine V_iload X 8 d_La_shire_293 rfl ?_
        refine V_imul X d_La_shire_295 ?_
        refine V_iadd X d_La_shire_296 ?_
        refine V_ishr X d_La_shire_297 ?_
        refine V_bipush (v := 15) X d_La_shire_298 (by decide) ?_
        refine V_iand X d_La_shire_300 ?_
        refine V_iload X 8 d_La_shire_301 rfl ?_
        refine V_iconst (v := 1) X d_La_shire_303 (by decide) ?_
        refine V_iadd X d_La_shire_304 ?_
        obtain ⟨hz, h⟩ := wp_nz h
        refine V_irem X d_La_shire_305 hz ?_
        refine V_iconst (v := 1) X d_La_shire_306 (by decide) ?_
        refine V_isub X d_La_shire_307 ?_
        refine V_iast X d_La_shire_308 hl_q4 hc_q4 rfl h (fun h => ?_)
        obtain ⟨s38, hs38, h⟩ := wp_N h
        rw [hs38]
        refine V_aload X 6 d_La_shire_309 rfl ?_
        refine V_iload X 1 d_La_shire_311 rfl ?_
        refine V_iconst (v := 4) X d_La_shire_313 (by decide) ?_
        refine V_iadd X d_La_shire_314 ?_
        refine V_iconst (v := 0) X d_La_shire_315 (by decide) ?_
        refine V_iast X d_La_shire_316 hl_q4 hc_q4 rfl h (fun h => ?_)
        obtain ⟨s39, hs39, h⟩ := wp_N h
        rw [hs39]
        refine V_iload X 7 d_La_shire_317 rfl ?_
        refine V_if_eq X 458 d_La_shire_319 (by decide) h (fun c40 h => ?_) (fun c40 h => ?_)
        · skip
          refine V_iconst (v := 0) X d_La_shire_458 (by decide) ?_
          refine V_istore X [(5, Value.int (0 : Int32)), (8, Value.int x33), (7, Value.int x32), (0, Value.ref (ad 0)), (1, Value.int l1), (2, Value.int l2), (3, Value.int l3), (4, Value.ref (ad q4)), (6, Value.int l6)] d_La_shire_459 (by decide) rfl ?_
          refine V_iinc X 8 (l6 + (1 : Int32)) [(6, Value.int (l6 + (1 : Int32))), (5, Value.int (0 : Int32)), (8, Value.int x33), (7, Value.int x32), (0, Value.ref (ad 0)), (1, Value.int l1), (2, Value.int l2), (3, Value.int l3), (4, Value.ref (ad q4))] d_La_shire_461 rfl (by first | rfl | decide) (by decide) rfl ?_
          refine V_goto X 189 d_La_shire_464 (by decide) ?_
          refine V_sub (lv' := [(0, Value.ref (ad 0)), (1, Value.int l1), (2, Value.int l2), (3, Value.int l3), (4, Value.ref (ad q4)), (5, Value.int (0 : Int32)), (6, Value.int (l6 + (1 : Int32)))]) [4, 5, 6, 7, 8, 1, 0] rfl ?_
          exact ih (0 : Int32) (l6 + (1 : Int32)) s39 h
        · skip
          refine V_iload X 8 d_La_shire_322 rfl ?_
          refine V_if_eq X 336 d_La_shire_324 (by decide) h (fun c41 h => ?_) (fun c41 h => ?_)
          · skip
            refine V_aload_n X 2 d_La_shire_336 rfl ?_
            refine V_iload X 0 d_La_shire_337 rfl ?_
            refine V_joinV (T1 := fun v42 => V p l e R s m args below meth c 9 D A cells slots Q (wl ad cI cB s39) 382 [(8, Value.int x33), (7, Value.int x32), (0, Value.ref (ad 0)), (1, Value.int l1), (2, Value.int l2), (3, Value.int l3), (4, Value.ref (ad q4)), (5, Value.int l5), (6, Value.int l6)] [Value.int v42, Value.ref (ad 0)]) h (fun v42 h => ?_) (fun hJ42 h => ?_)
            · skip
              refine V_cP X h (fun r43 s44 q => C_S X [Value.ref (ad 0), Value.int v42] mt_La_put ms_La_put ml_La_14 (k_La_put s39 v42 r43 s44 q) rfl rfl (by omega) (Nat.le_of_ble_eq_true rfl) d_La_shire_382) (fun r43 s44 h => ?_)
              refine V_if_eq X 458 d_La_shire_385 (by decide) h (fun c45 h => ?_) (fun c45 h => ?_)
              · skip
                refine V_iconst (v := 0) X d_La_shire_458 (by decide) ?_
                refine V_istore X [(5, Value.int (0 : Int32)), (8, Value.int x33), (7, Value.int x32), (0, Value.ref (ad 0)), (1, Value.int l1), (2, Value.int l2), (3, Value.int l3), (4, Value.ref (ad q4)), (6, Value.int l6)] d_La_shire_459 (by decide) rfl ?_
                refine V_iinc X 8 (l6 + (1 : Int32)) [(6, Value.int (l6 + (1 : Int32))), (5, Value.int (0 : Int32)), (8, Value.int x33), (7, Value.int x32), (0, Value.ref (ad 0)), (1, Value.int l1), (2, Value.int l2), (3, Value.int l3), (4, Value.ref (ad q4))] d_La_shire_461 rfl (by first | rfl | decide) (by decide) rfl ?_
                refine V_goto X 189 d_La_shire_464 (by decide) ?_
                refine V_sub (lv' := [(0, Value.ref (ad 0)), (1, Value.int l1), (2, Value.int l2), (3, Value.int l3), (4, Value.ref (ad q4)), (5, Value.int (0 : Int32)), (6, Value.int (l6 + (1 : Int32)))]) [4, 5, 6, 7, 8, 1, 0] rfl ?_
                exact ih (0 : Int32) (l6 + (1 : Int32)) s44 h
              · skip
                refine V_aload_n X 2 d_La_shire_388 rfl ?_
                refine V_bipush (v := 48) X d_La_shire_389 (by decide) ?_
                refine V_aload X 6 d_La_shire_391 rfl ?_
                refine V_iload X 1 d_La_shire_393 rfl ?_
                refine V_iconst (v := 1) X d_La_shire_395 (by decide) ?_
                refine V_iadd X d_La_shire_396 ?_
                refine V_iald X d_La_shire_397 hl_q4 hc_q4 rfl h (fun h => ?_)
                refine V_iadd X d_La_shire_398 ?_
                refine V_cP X h (fun r46 s47 q => C_S X [Value.ref (ad 0), Value.int ((48 : Int32) + (gA s44 q4 (ix (x32 + (1 : Int32)))))] mt_La_put ms_La_put ml_La_14 (k_La_put s44 ((48 : Int32) + (gA s44 q4 (ix (x32 + (1 : Int32))))) r46 s47 q) rfl rfl (by omega) (Nat.le_of_ble_eq_true rfl) d_La_shire_399) (fun r46 s47 h => ?_)
                refine V_if_eq X 458 d_La_shire_402 (by decide) h (fun c48 h => ?_) (fun c48 h => ?_)
                · skip
                  refine V_iconst (v := 0) X d_La_shire_458 (by decide) ?_
                  refine V_istore X [(5, Value.int (0 : Int32)), (8, Value.int x33), (7, Value.int x32), (0, Value.ref (ad 0)), (1, Value.int l1), (2, Value.int l2), (3, Value.int l3), (4, Value.ref (ad q4)), (6, Value.int l6)] d_La_shire_459 (by decide) rfl ?_
                  refine V_iinc X 8 (l6 + (1 : Int32)) [(6, Value.int (l6 + (1 : Int32))), (5, Value.int (0 : Int32)), (8, Value.int x33), (7, Value.int x32), (0, Value.ref (ad 0)), (1, Value.int l1), (2, Value.int l2), (3, Value.int l3), (4, Value.ref (ad q4))] d_La_shire_461 rfl (by first | rfl | decide) (by decide) rfl ?_
                  refine V_goto X 189 d_La_shire_464 (by decide) ?_
                  refine V_sub (lv' := [(0, Value.ref (ad 0)), (1, Value.int l1), (2, Value.int l2), (3, Value.int l3), (4, Value.ref (ad q4)), (5, Value.int (0 : Int32)), (6, Value.int (l6 + (1 : Int32)))]) [4, 5, 6, 7, 8, 1, 0] rfl ?_
                  exact ih (0 : Int32) (l6 + (1 : Int32)) s47 h
                · skip
                  refine V_aload_n X 2 d_La_shire_405 rfl ?_
                  refine V_bipush (v := 48) X d_La_shire_406 (by decide) ?_
                  refine V_aload X 6 d_La_shire_408 rfl ?_
                  refine V_iload X 1 d_La_shire_410 rfl ?_
                  refine V_iconst (v := 2) X d_La_shire_412 (by decide) ?_
                  refine V_iadd X d_La_shire_413 ?_
                  refine V_iald X d_La_shire_414 hl_q4 hc_q4 rfl h (fun h => ?_)
                  refine V_iadd X d_La_shire_415 ?_
                  refine V_cP X h (fun r49 s50 q => C_S X [Value.ref (ad 0), Value.int ((48 : Int32) + (gA s47 q4 (ix (x32 + (2 : Int32)))))] mt_La_put ms_La_put ml_La_14 (k_La_put s47 ((48 : Int32) + (gA s47 q4 (ix (x32 + (2 : Int32))))) r49 s50 q) rfl rfl (by omega) (Nat.le_of_ble_eq_true rfl) d_La_shire_416) (fun r49 s50 h => ?_)
                  refine V_if_eq X 458 d_La_shire_419 (by decide) h (fun c51 h => ?_) (fun c51 h => ?_)
                  · skip
                    refine V_iconst (v := 0) X d_La_shire_458 (by decide) ?_
                    refine V_istore X [(5, Value.int (0 : Int32)), (8, Value.int x33), (7, Value.int x32), (0, Value.ref (ad 0)), (1, Value.int l1), (2, Value.int l2), (3, Value.int l3), (4, Value.ref (ad q4)), (6, Value.int l6)] d_La_shire_459 (by decide) rfl ?_
                    refine V_iinc X 8 (l6 + (1 : Int32)) [(6, Value.int (l6 + (1 : Int32))), (5, Value.int (0 : Int32)), (8, Value.int x33), (7, Value.int x32), (0, Value.ref (ad 0)), (1, Value.int l1), (2, Value.int l2), (3, Value.int l3), (4, Value.ref (ad q4))] d_La_shire_461 rfl (by first | rfl | decide) (by decide) rfl ?_
                    refine V_goto X 189 d_La_shire_464 (by decide) ?_
                    refine V_sub (lv' := [(0, Value.ref (ad 0)), (1, Value.int l1), (2, Value.int l2), (3, Value.int l3), (4, Value.ref (ad q4)), (5, Value.int (0 : Int32)), (6, Value.int (l6 + (1 : Int32)))]) [4, 5, 6, 7, 8, 1, 0] rfl ?_
                    exact ih (0 : Int32) (l6 + (1 : Int32)) s50 h
                  · skip
                    refine V_aload_n X 2 d_La_shire_422 rfl ?_
                    refine V_aload X 6 d_La_shire_423 rfl ?_
                    refine V_iload X 1 d_La_shire_425 rfl ?_
                    refine V_iconst (v := 3) X d_La_shire_427 (by decide) ?_
                    refine V_iadd X d_La_shire_428 ?_
                    refine V_iald X d_La_shire_429 hl_q4 hc_q4 rfl h (fun h => ?_)
                    refine V_joinV (T1 := fun v52 => V p l e R s m args below meth c 9 D A cells slots Q (wl ad cI cB s50) 448 [(8, Value.int x33), (7, Value.int x32), (0, Value.ref (ad 0)), (1, Value.int l1), (2, Value.int l2), (3, Value.int l3), (4, Value.ref (ad q4)), (5, Value.int l5), (6, Value.int l6)] [Value.int v52, Value.ref (ad 0)]) h (fun v52 h => ?_) (fun hJ52 h => ?_)
                    · skip
                      refine V_cP X h (fun r53 s54 q => C_S X [Value.ref (ad 0), Value.int v52] mt_La_put ms_La_put ml_La_14 (k_La_put s50 v52 r53 s54 q) rfl rfl (by omega) (Nat.le_of_ble_eq_true rfl) d_La_shire_448) (fun r53 s54 h => ?_)
                      refine V_if_eq X 458 d_La_shire_451 (by decide) h (fun c55 h => ?_) (fun c55 h => ?_)
                      · skip
                        refine V_iconst (v := 0) X d_La_shire_458 (by decide) ?_
                        refine V_istore X [(5, Value.int (0 : Int32)), (8, Value.int x33), (7, Value.int x32), (0, Value.ref (ad 0)), (1, Value.int l1), (2, Value.int l2), (3, Value.int l3), (4, Value.ref (ad q4)), (6, Value.int l6)] d_La_shire_459 (by decide) rfl ?_
                        refine V_iinc X 8 (l6 + (1 : Int32)) [(6, Value.int (l6 + (1 : Int32))), (5, Value.int (0 : Int32)), (8, Value.int x33), (7, Value.int x32), (0, Value.ref (ad 0)), (1, Value.int l1), (2, Value.int l2), (3, Value.int l3), (4, Value.ref (ad q4))] d_La_shire_461 rfl (by first | rfl | decide) (by decide) rfl ?_
                        refine V_goto X 189 d_La_shire_464 (by decide) ?_
                        refine V_sub (lv' := [(0, Value.ref (ad 0)), (1, Value.int l1), (2, Value.int l2), (3, Value.int l3), (4, Value.ref (ad q4)), (5, Value.int (0 : Int32)), (6, Value.int (l6 + (1 : Int32)))]) [4, 5, 6, 7, 8, 1, 0] rfl ?_
                        exact ih (0 : Int32) (l6 + (1 : Int32)) s54 h
                      · skip
                        refine V_iconst (v := 1) X d_La_shire_454 (by decide) ?_
                        refine V_goto X 459 d_La_shire_455 (by decide) ?_
                        refine V_istore X [(5, Value.int (1 : Int32)), (8, Value.int x33), (7, Value.int x32), (0, Value.ref (ad 0)), (1, Value.int l1), (2, Value.int l2), (3, Value.int l3), (4, Value.ref (ad q4)), (6, Value.int l6)] d_La_shire_459 (by decide) rfl ?_
                        refine V_iinc X 8 (l6 + (1 : Int32)) [(6, Value.int (l6 + (1 : Int32))), (5, Value.int (1 : Int32)), (8, Value.int x33), (7, Value.int x32), (0, Value.ref (ad 0)), (1, Value.int l1), (2, Value.int l2), (3, Value.int l3), (4, Value.ref (ad q4))] d_La_shire_461 rfl (by first | rfl | decide) (by decide) rfl ?_
                        refine V_goto X 189 d_La_shire_464 (by decide) ?_
                        refine V_sub (lv' := [(0, Value.ref (ad 0)), (1, Value.int l1), (2, Value.int l2), (3, Value.int l3), (4, Value.ref (ad q4)), (5, Value.int (1 : Int32)), (6, Value.int (l6 + (1 : Int32)))]) [4, 5, 6, 7, 8, 1, 0] rfl ?_
                        exact ih (1 : Int32) (l6 + (1 : Int32)) s54 h
                    · skip
                      refine V_if_ge X 438 d_La_shire_430 (by decide) h (fun c56 h => ?_) (fun c56 h => ?_)
                      · skip
                        refine V_bipush (v := 48) X d_La_shire_438 (by decide) ?_
                        refine V_aload X 6 d_La_shire_440 rfl ?_
                        refine V_iload X 1 d_La_shire_442 rfl ?_
                        refine V_iconst (v := 3) X d_La_shire_444 (by decide) ?_
                        refine V_iadd X d_La_shire_445 ?_
                        refine V_iald X d_La_shire_446 hl_q4 hc_q4 rfl h (fun h => ?_)
                        refine V_iadd X d_La_shire_447 ?_
                        obtain ⟨q9, hq9, h⟩ := h
                        cases hq9
                        exact hJ52 _ h
                      · skip
                        refine V_bipush (v := 45) X d_La_shire_433 (by decide) ?_
                        refine V_goto X 448 d_La_shire_435 (by decide) ?_
                        obtain ⟨q9, hq9, h⟩ := h
                        cases hq9
                        exact hJ52 _ h
            · skip
              refine V_if_ne X 347 d_La_shire_339 (by decide) h (fun c57 h => ?_) (fun c57 h => ?_)
              · skip
                refine V_iload X 0 d_La_shire_347 rfl ?_
                refine V_iconst (v := 1) X d_La_shire_349 (by decide) ?_
                refine V_icmp_ne X 358 d_La_shire_350 (by decide) h (fun c58 h => ?_) (fun c58 h => ?_)
                · skip
                  refine V_iload X 0 d_La_shire_358 rfl ?_
                  refine V_iconst (v := 2) X d_La_shire_360 (by decide) ?_
                  refine V_icmp_ne X 369 d_La_shire_361 (by decide) h (fun c59 h => ?_) (fun c59 h => ?_)
                  · skip
                    refine V_iload X 0 d_La_shire_369 rfl ?_
                    refine V_iconst (v := 3) X d_La_shire_371 (by decide) ?_
                    refine V_icmp_ne X 380 d_La_shire_372 (by decide) h (fun c60 h => ?_) (fun c60 h => ?_)
                    · skip
                      refine V_bipush (v := 97) X d_La_shire_380 (by decide) ?_
                      obtain ⟨q9, hq9, h⟩ := h
                      cases hq9
                      exact hJ42 _ h
                    · skip
                      refine V_bipush (v := 111) X d_La_shire_375 (by decide) ?_
                      refine V_goto X 382 d_La_shire_377 (by decide) ?_
                      obtain ⟨q9, hq9, h⟩ := h
                      cases hq9
                      exact hJ42 _ h
                  · skip
                    refine V_bipush (v := 117) X d_La_shire_364 (by decide) ?_
                    refine V_goto X 382 d_La_shire_366 (by decide) ?_
                    obtain ⟨q9, hq9, h⟩ := h
                    cases hq9
                    exact hJ42 _ h
                · skip
                  refine V_bipush (v := 109) X d_La_shire_353 (by decide) ?_
                  refine V_goto X 382 d_La_shire_355 (by decide) ?_
                  obtain ⟨q9, hq9, h⟩ := h
                  cases hq9
                  exact hJ42 _ h
              · skip
                refine V_bipush (v := 99) X d_La_shire_342 (by decide) ?_
                refine V_goto X 382 d_La_shire_344 (by decide) ?_
                obtain ⟨q9, hq9, h⟩ := h
                cases hq9
                exact hJ42 _ h
          · skip
            refine V_aload_n X 2 d_La_shire_327 rfl ?_
            refine V_bipush (v := 44) X d_La_shire_328 (by decide) ?_
            refine V_cP X h (fun r61 s62 q => C_S X [Value.ref (ad 0), Value.int (44 : Int32)] mt_La_put ms_La_put ml_La_14 (k_La_put s39 (44 : Int32) r61 s62 q) rfl rfl (by omega) (Nat.le_of_ble_eq_true rfl) d_La_shire_330) (fun r61 s62 h => ?_)
            refine V_if_eq X 458 d_La_shire_333 (by decide) h (fun c63 h => ?_) (fun c63 h => ?_)
            · skip
              refine V_iconst (v := 0) X d_La_shire_458 (by decide) ?_
              refine V_istore X [(5, Value.int (0 : Int32)), (8, Value.int x33), (7, Value.int x32), (0, Value.ref (ad 0)), (1, Value.int l1), (2, Value.int l2), (3, Value.int l3), (4, Value.ref (ad q4)), (6, Value.int l6)] d_La_shire_459 (by decide) rfl ?_
              refine V_iinc X 8 (l6 + (1 : Int32)) [(6, Value.int (l6 + (1 : Int32))), (5, Value.int (0 : Int32)), (8, Value.int x33), (7, Value.int x32), (0, Value.ref (ad 0)), (1, Value.int l1), (2, Value.int l2), (3, Value.int l3), (4, Value.ref (ad q4))] d_La_shire_461 rfl (by first | rfl | decide) (by decide) rfl ?_
              refine V_goto X 189 d_La_shire_464 (by decide) ?_
              refine V_sub (lv' := [(0, Value.ref (ad 0)), (1, Value.int l1), (2, Value.int l2), (3, Value.int l3), (4, Value.ref (ad q4)), (5, Value.int (0 : Int32)), (6, Value.int (l6 + (1 : Int32)))]) [4, 5, 6, 7, 8, 1, 0] rfl ?_
              exact ih (0 : Int32) (l6 + (1 : Int32)) s62 h
            · skip
              refine V_aload_n X 2 d_La_shire_336 rfl ?_
              refine V_iload X 0 d_La_shire_337 rfl ?_
              refine V_joinV (T1 := fun v64 => V p l e R s m args below meth c 9 D A cells slots Q (wl ad cI cB s62) 382 [(8, Value.int x33), (7, Value.int x32), (0, Value.ref (ad 0)), (1, Value.int l1), (2, Value.int l2), (3, Value.int l3), (4, Value.ref (ad q4)), (5, Value.int l5), (6, Value.int l6)] [Value.int v64, Value.ref (ad 0)]) h (fun v64 h => ?_) (fun hJ64 h => ?_)
              · skip
                refine V_cP X h (fun r65 s66 q => C_S X [Value.ref (ad 0), Value.int v64] mt_La_put ms_La_put ml_La_14 (k_La_put s62 v64 r65 s66 q) rfl rfl (by omega) (Nat.le_of_ble_eq_true rfl) d_La_shire_382) (fun r65 s66 h => ?_)
                refine V_if_eq X 458 d_La_shire_385 (by decide) h (fun c67 h => ?_) (fun c67 h => ?_)
                · skip
                  refine V_iconst (v := 0) X d_La_shire_458 (by decide) ?_
                  refine V_istore X [(5, Value.int (0 : Int32)), (8, Value.int x33), (7, Value.int x32), (0, Value.ref (ad 0)), (1, Value.int l1), (2, Value.int l2), (3, Value.int l3), (4, Value.ref (ad q4)), (6, Value.int l6)] d_La_shire_459 (by decide) rfl ?_
                  refine V_iinc X 8 (l6 + (1 : Int32)) [(6, Value.int (l6 + (1 : Int32))), (5, Value.int (0 : Int32)), (8, Value.int x33), (7, Value.int x32), (0, Value.ref (ad 0)), (1, Value.int l1), (2, Value.int l2), (3, Value.int l3), (4, Value.ref (ad q4))] d_La_shire_461 rfl (by first | rfl | decide) (by decide) rfl ?_
                  refine V_goto X 189 d_La_shire_464 (by decide) ?_
                  refine V_sub (lv' := [(0, Value.ref (ad 0)), (1, Value.int l1), (2, Value.int l2), (3, Value.int l3), (4, Value.ref (ad q4)), (5, Value.int (0 : Int32)), (6, Value.int (l6 + (1 : Int32)))]) [4, 5, 6, 7, 8, 1, 0] rfl ?_
                  exact ih (0 : Int32) (l6 + (1 : Int32)) s66 h
                · skip
                  refine V_aload_n X 2 d_La_shire_388 rfl ?_
                  refine V_bipush (v := 48) X d_La_shire_389 (by decide) ?_
                  refine V_aload X 6 d_La_shire_391 rfl ?_
                  refine V_iload X 1 d_La_shire_393 rfl ?_
                  refine V_iconst (v := 1) X d_La_shire_395 (by decide) ?_
                  refine V_iadd X d_La_shire_396 ?_
                  refine V_iald X d_La_shire_397 hl_q4 hc_q4 rfl h (fun h => ?_)
                  refine V_iadd X d_La_shire_398 ?_
                  refine V_cP X h (fun r68 s69 q => C_S X [Value.ref (ad 0), Value.int ((48 : Int32) + (gA s66 q4 (ix (x32 + (1 : Int32)))))] mt_La_put ms_La_put ml_La_14 (k_La_put s66 ((48 : Int32) + (gA s66 q4 (ix (x32 + (1 : Int32))))) r68 s69 q) rfl rfl (by omega) (Nat.le_of_ble_eq_true rfl) d_La_shire_399) (fun r68 s69 h => ?_)
                  refine V_if_eq X 458 d_La_shire_402 (by decide) h (fun c70 h => ?_) (fun c70 h => ?_)
                  · skip
                    refine V_iconst (v := 0) X d_La_shire_458 (by decide) ?_
                    refine V_istore X [(5, Value.int (0 : Int32)), (8, Value.int x33), (7, Value.int x32), (0, Value.ref (ad 0)), (1, Value.int l1), (2, Value.int l2), (3, Value.int l3), (4, Value.ref (ad q4)), (6, Value.int l6)] d_La_shire_459 (by decide) rfl ?_
                    refine V_iinc X 8 (l6 + (1 : Int32)) [(6, Value.int (l6 + (1 : Int32))), (5, Value.int (0 : Int32)), (8, Value.int x33), (7, Value.int x32), (0, Value.ref (ad 0)), (1, Value.int l1), (2, Value.int l2), (3, Value.int l3), (4, Value.ref (ad q4))] d_La_shire_461 rfl (by first | rfl | decide) (by decide) rfl ?_
                    refine V_goto X 189 d_La_shire_464 (by decide) ?_
                    refine V_sub (lv' := [(0, Value.ref (ad 0)), (1, Value.int l1), (2, Value.int l2), (3, Value.int l3), (4, Value.ref (ad q4)), (5, Value.int (0 : Int32)), (6, Value.int (l6 + (1 : Int32)))]) [4, 5, 6, 7, 8, 1, 0] rfl ?_
                    exact ih (0 : Int32) (l6 + (1 : Int32)) s69 h
                  · skip
                    refine V_aload_n X 2 d_La_shire_405 rfl ?_
                    refine V_bipush (v := 48) X d_La_shire_406 (by decide) ?_
                    refine V_aload X 6 d_La_shire_408 rfl ?_
                    refine V_iload X 1 d_La_shire_410 rfl ?_
                    refine V_iconst (v := 2) X d_La_shire_412 (by decide) ?_
                    refine V_iadd X d_La_shire_413 ?_
                    refine V_iald X d_La_shire_414 hl_q4 hc_q4 rfl h (fun h => ?_)
                    refine V_iadd X d_La_shire_415 ?_
                    refine V_cP X h (fun r71 s72 q => C_S X [Value.ref (ad 0), Value.int ((48 : Int32) + (gA s69 q4 (ix (x32 + (2 : Int32)))))] mt_La_put ms_La_put ml_La_14 (k_La_put s69 ((48 : Int32) + (gA s69 q4 (ix (x32 + (2 : Int32))))) r71 s72 q) rfl rfl (by omega) (Nat.le_of_ble_eq_true rfl) d_La_shire_416) (fun r71 s72 h => ?_)
                    refine V_if_eq X 458 d_La_shire_419 (by decide) h (fun c73 h => ?_) (fun c73 h => ?_)
                    · skip
                      refine V_iconst (v := 0) X d_La_shire_458 (by decide) ?_
                      refine V_istore X [(5, Value.int (0 : Int32)), (8, Value.int x33), (7, Value.int x32), (0, Value.ref (ad 0)), (1, Value.int l1), (2, Value.int l2), (3, Value.int l3), (4, Value.ref (ad q4)), (6, Value.int l6)] d_La_shire_459 (by decide) rfl ?_
                      refine V_iinc X 8 (l6 + (1 : Int32)) [(6, Value.int (l6 + (1 : Int32))), (5, Value.int (0 : Int32)), (8, Value.int x33), (7, Value.int x32), (0, Value.ref (ad 0)), (1, Value.int l1), (2, Value.int l2), (3, Value.int l3), (4, Value.ref (ad q4))] d_La_shire_461 rfl (by first | rfl | decide) (by decide) rfl ?_
                      refine V_goto X 189 d_La_shire_464 (by decide) ?_
                      refine V_sub (lv' := [(0, Value.ref (ad 0)), (1, Value.int l1), (2, Value.int l2), (3, Value.int l3), (4, Value.ref (ad q4)), (5, Value.int (0 : Int32)), (6, Value.int (l6 + (1 : Int32)))]) [4, 5, 6, 7, 8, 1, 0] rfl ?_
                      exact ih (0 : Int32) (l6 + (1 : Int32)) s72 h
                    · skip
                      refine V_aload_n X 2 d_La_shire_422 rfl ?_
                      refine V_aload X 6 d_La_shire_423 rfl ?_
                      refine V_iload X 1 d_La_shire_425 rfl ?_
                      refine V_iconst (v := 3) X d_La_shire_427 (by decide) ?_
                      refine V_iadd X d_La_shire_428 ?_
                      refine V_iald X d_La_shire_429 hl_q4 hc_q4 rfl h (fun h => ?_)
                      refine V_joinV (T1 := fun v74 => V p l e R s m args below meth c 9 D A cells slots Q (wl ad cI cB s72) 448 [(8, Value.int x33), (7, Value.int x32), (0, Value.ref (ad 0)), (1, Value.int l1), (2, Value.int l2), (3, Value.int l3), (4, Value.ref (ad q4)), (5, Value.int l5), (6, Value.int l6)] [Value.int v74, Value.ref (ad 0)]) h (fun v74 h => ?_) (fun hJ74 h => ?_)
                      · skip
                        refine V_cP X h (fun r75 s76 q => C_S X [Value.ref (ad 0), Value.int v74] mt_La_put ms_La_put ml_La_14 (k_La_put s72 v74 r75 s76 q) rfl rfl (by omega) (Nat.le_of_ble_eq_true rfl) d_La_shire_448) (fun r75 s76 h => ?_)
                        refine V_if_eq X 458 d_La_shire_451 (by decide) h (fun c77 h => ?_) (fun c77 h => ?_)
                        · skip
                          refine V_iconst (v := 0) X d_La_shire_458 (by decide) ?_
                          refine V_istore X [(5, Value.int (0 : Int32)), (8, Value.int x33), (7, Value.int x32), (0, Value.ref (ad 0)), (1, Value.int l1), (2, Value.int l2), (3, Value.int l3), (4, Value.ref (ad q4)), (6, Value.int l6)] d_La_shire_459 (by decide) rfl ?_
                          refine V_iinc X 8 (l6 + (1 : Int32)) [(6, Value.int (l6 + (1 : Int32))), (5, Value.int (0 : Int32)), (8, Value.int x33), (7, Value.int x32), (0, Value.ref (ad 0)), (1, Value.int l1), (2, Value.int l2), (3, Value.int l3), (4, Value.ref (ad q4))] d_La_shire_461 rfl (by first | rfl | decide) (by decide) rfl ?_
                          refine V_goto X 189 d_La_shire_464 (by decide) ?_
                          refine V_sub (lv' := [(0, Value.ref (ad 0)), (1, Value.int l1), (2, Value.int l2), (3, Value.int l3), (4, Value.ref (ad q4)), (5, Value.int (0 : Int32)), (6, Value.int (l6 + (1 : Int32)))]) [4, 5, 6, 7, 8, 1, 0] rfl ?_
                          exact ih (0 : Int32) (l6 + (1 : Int32)) s76 h
                        · skip
                          refine V_iconst (v := 1) X d_La_shire_454 (by decide) ?_
                          refine V_goto X 459 d_La_shire_455 (by decide) ?_
                          refine V_istore X [(5, Value.int (1 : Int32)), (8, Value.int x33), (7, Value.int x32), (0, Value.ref (ad 0)), (1, Value.int l1), (2, Value.int l2), (3, Value.int l3), (4, Value.ref (ad q4)), (6, Value.int l6)] d_La_shire_459 (by decide) rfl ?_
                          refine V_iinc X 8 (l6 + (1 : Int32)) [(6, Value.int (l6 + (1 : Int32))), (5, Value.int (1 : Int32)), (8, Value.int x33), (7, Value.int x32), (0, Value.ref (ad 0)), (1, Value.int l1), (2, Value.int l2), (3, Value.int l3), (4, Value.ref (ad q4))] d_La_shire_461 rfl (by first | rfl | decide) (by decide) rfl ?_
                          refine V_goto X 189 d_La_shire_464 (by decide) ?_
                          refine V_sub (lv' := [(0, Value.ref (ad 0)), (1, Value.int l1), (2, Value.int l2), (3, Value.int l3), (4, Value.ref (ad q4)), (5, Value.int (1 : Int32)), (6, Value.int (l6 + (1 : Int32)))]) [4, 5, 6, 7, 8, 1, 0] rfl ?_
                          exact ih (1 : Int32) (l6 + (1 : Int32)) s76 h
                      · skip
                        refine V_if_ge X 438 d_La_shire_430 (by decide) h (fun c78 h => ?_) (fun c78 h => ?_)
                        · skip
                          refine V_bipush (v := 48) X d_La_shire_438 (by decide) ?_
                          refine V_aload X 6 d_La_shire_440 rfl ?_
                          refine V_iload X 1 d_La_shire_442 rfl ?_
                          refine V_iconst (v := 3) X d_La_shire_444 (by decide) ?_
                          refine V_iadd X d_La_shire_445 ?_
                          refine V_iald X d_La_shire_446 hl_q4 hc_q4 rfl h (fun h => ?_)
                          refine V_iadd X d_La_shire_447 ?_
                          obtain ⟨q9, hq9, h⟩ := h
                          cases hq9
                          exact hJ74 _ h
                        · skip
                          refine V_bipush (v := 45) X d_La_shire_433 (by decide) ?_
                          refine V_goto X 448 d_La_shire_435 (by decide) ?_
                          obtain ⟨q9, hq9, h⟩ := h
                          cases hq9
                          exact hJ74 _ h
              · skip
                refine V_if_ne X 347 d_La_shire_339 (by decide) h (fun c79 h => ?_) (fun c79 h => ?_)
                · skip
                  refine V_iload X 0 d_La_shire_347 rfl ?_
                  refine V_iconst (v := 1) X d_La_shire_349 (by decide) ?_
                  refine V_icmp_ne X 358 d_La_shire_350 (by decide) h (fun c80 h => ?_) (fun c80 h => ?_)
                  · skip
                    refine V_iload X 0 d_La_shire_358 rfl ?_
                    refine V_iconst (v := 2) X d_La_shire_360 (by decide) ?_
                    refine V_icmp_ne X 369 d_La_shire_361 (by decide) h (fun c81 h => ?_) (fun c81 h => ?_)
                    · skip
                      refine V_iload X 0 d_La_shire_369 rfl ?_
                      refine V_iconst (v := 3) X d_La_shire_371 (by decide) ?_
                      refine V_icmp_ne X 380 d_La_shire_372 (by decide) h (fun c82 h => ?_) (fun c82 h => ?_)
                      · skip
                        refine V_bipush (v := 97) X d_La_shire_380 (by decide) ?_
                        obtain ⟨q9, hq9, h⟩ := h
                        cases hq9
                        exact hJ64 _ h
                      · skip
                        refine V_bipush (v := 111) X d_La_shire_375 (by decide) ?_
                        refine V_goto X 382 d_La_shire_377 (by decide) ?_
                        obtain ⟨q9, hq9, h⟩ := h
                        cases hq9
                        exact hJ64 _ h
                    · skip
                      refine V_bipush (v := 117) X d_La_shire_364 (by decide) ?_
                      refine V_goto X 382 d_La_shire_366 (by decide) ?_
                      obtain ⟨q9, hq9, h⟩ := h
                      cases hq9
                      exact hJ64 _ h
                  · skip
                    refine V_bipush (v := 109) X d_La_shire_353 (by decide) ?_
                    refine V_goto X 382 d_La_shire_355 (by decide) ?_
                    obtain ⟨q9, hq9, h⟩ := h
                    cases hq9
                    exact hJ64 _ h
                · skip
                  refine V_bipush (v := 99) X d_La_shire_342 (by decide) ?_
                  refine V_goto X 382 d_La_shire_344 (by decide) ?_
                  obtain ⟨q9, hq9, h⟩ := h
                  cases hq9
                  exact hJ64 _ h
      · skip
        refine V_if_ne X 256 d_La_shire_248 (by decide) h (fun c83 h => ?_) (fun c83 h => ?_)
        · skip
          refine V_iconst (v := 4) X d_La_shire_256 (by decide) ?_
          obtain ⟨q9, hq9, h⟩ := h
          cases hq9
          exact hJ35 _ h
        · skip
          refine V_bipush (v := 9) X d_La_shire_251 (by decide) ?_
          refine V_goto X 257 d_La_shire_253 (by decide) ?_
          obtain ⟨q9, hq9, h⟩ := h
          cases hq9
          exact hJ35 _ h
set_option maxHeartbeats 4000000 in
set_option maxRecDepth 100000 in
theorem k_La_shire (fu : Nat) (σ : Sg) (a1 : Int32) (a2 : Int32) (a3 : Int32) (q4 : Nat) (hl_q4 : q4 < 93) (hc_q4 : jv_cls q4 = 100) (r : Int32) (σ' : Sg) (h : La_shire fu σ a1 a2 a3 q4 = some (r, σ')) : Evc y_La_shire method_4_code 9 (some .boolean) 10 (fun ad => [Value.ref (ad 0), Value.int a1, Value.int a2, Value.int a3, Value.ref (ad q4)]) σ σ' (fun _ => some (.int r)) := by
  refine Evc_ofZ (by decide) (fun ad => Nat.le_of_ble_eq_true rfl) (fun p l e R s m args below meth c D ad cI cB A Q X hQ => ?_)
  have X : Cx p R s m args meth c R_law method_4_code 9 10 D ad cI cB A 0 0 := X
  have h : wpO (La_shire fu σ a1 a2 a3 q4) (fun q => q = (r, σ')) := ⟨_, h, rfl⟩
  rw [La_shire] at h
  refine V_sub (lv' := [(0, Value.ref (ad 0)), (1, Value.int a1), (2, Value.int a2), (3, Value.int a3), (4, Value.ref (ad q4))]) [0, 1, 2, 3, 4] rfl ?_
  refine V_iconst (v := 1) X d_La_shire_0 (by decide) ?_
  refine V_istore X [(5, Value.int (1 : Int32)), (0, Value.ref (ad 0)), (1, Value.int a1), (2, Value.int a2), (3, Value.int a3), (4, Value.ref (ad q4))] d_La_shire_1 (by decide) rfl ?_
  refine V_aload X 5 d_La_shire_3 rfl ?_
  refine V_iconst (v := 0) X d_La_shire_5 (by decide) ?_
  refine V_iconst (v := 1) X d_La_shire_6 (by decide) ?_
  refine V_iload_n X 2 d_La_shire_7 rfl ?_
  refine V_iconst (v := 3) X d_La_shire_8 (by decide) ?_
  refine V_irem X d_La_shire_9 (by decide) ?_
  refine V_iadd X d_La_shire_10 ?_
  refine V_iast X d_La_shire_11 hl_q4 hc_q4 rfl h (fun h => ?_)
  obtain ⟨s1, hs1, h⟩ := wp_N h
  rw [hs1]
  refine V_aload X 5 d_La_shire_12 rfl ?_
  refine V_iconst (v := 1) X d_La_shire_14 (by decide) ?_
  refine V_iconst (v := 2) X d_La_shire_15 (by decide) ?_
  refine V_iload_n X 3 d_La_shire_16 rfl ?_
  refine V_bipush (v := 6) X d_La_shire_17 (by decide) ?_
  refine V_irem X d_La_shire_19 (by decide) ?_
  refine V_iadd X d_La_shire_20 ?_
  refine V_iast X d_La_shire_21 hl_q4 hc_q4 rfl h (fun h => ?_)
  obtain ⟨s2, hs2, h⟩ := wp_N h
  rw [hs2]
  refine V_aload X 5 d_La_shire_22 rfl ?_
  refine V_iconst (v := 2) X d_La_shire_24 (by decide) ?_
  refine V_iconst (v := 0) X d_La_shire_25 (by decide) ?_
  refine V_iast X d_La_shire_26 hl_q4 hc_q4 rfl h (fun h => ?_)
  obtain ⟨s3, hs3, h⟩ := wp_N h
  rw [hs3]
  refine V_aload X 5 d_La_shire_27 rfl ?_
  refine V_iconst (v := 3) X d_La_shire_29 (by decide) ?_
  refine V_iconst (v := 0) X d_La_shire_30 (by decide) ?_
  refine V_iast X d_La_shire_31 hl_q4 hc_q4 rfl h (fun h => ?_)
  obtain ⟨s4, hs4, h⟩ := wp_N h
  rw [hs4]
  refine V_iconst (v := 0) X d_La_shire_32 (by decide) ?_
  refine V_istore X [(6, Value.int (0 : Int32)), (5, Value.int (1 : Int32)), (0, Value.ref (ad 0)), (1, Value.int a1), (2, Value.int a2), (3, Value.int a3), (4, Value.ref (ad q4))] d_La_shire_33 (by decide) rfl ?_
  refine V_sub (lv' := [(0, Value.ref (ad 0)), (1, Value.int a1), (2, Value.int a2), (3, Value.int a3), (4, Value.ref (ad q4)), (5, Value.int (1 : Int32)), (6, Value.int (0 : Int32))]) [2, 3, 4, 5, 6, 1, 0] rfl ?_
  refine La_shire_L35_ok X fu q4 hl_q4 hc_q4 a1 a2 a3 _ hQ (fun l5_27 l6_28 s29 h => ?_) fu (1 : Int32) (0 : Int32) s4 h
  refine V_iload X 5 d_La_shire_165 rfl ?_
  refine V_if_eq X 183 d_La_shire_167 (by decide) h (fun c30 h => ?_) (fun c30 h => ?_)
  · skip
    refine V_iconst (v := 0) X d_La_shire_183 (by decide) ?_
    refine V_istore X [(5, Value.int (0 : Int32)), (0, Value.ref (ad 0)), (1, Value.int a1), (2, Value.int a2), (3, Value.int a3), (4, Value.ref (ad q4)), (6, Value.int l6_28)] d_La_shire_184 (by decide) rfl ?_
    refine V_iconst (v := 0) X d_La_shire_186 (by decide) ?_
    refine V_istore X [(6, Value.int (0 : Int32)), (5, Value.int (0 : Int32)), (0, Value.ref (ad 0)), (1, Value.int a1), (2, Value.int a2), (3, Value.int a3), (4, Value.ref (ad q4))] d_La_shire_187 (by decide) rfl ?_
    refine V_sub (lv' := [(0, Value.ref (ad 0)), (1, Value.int a1), (2, Value.int a2), (3, Value.int a3), (4, Value.ref (ad q4)), (5, Value.int (0 : Int32)), (6, Value.int (0 : Int32))]) [2, 3, 4, 5, 6, 1, 0] rfl ?_
    refine La_shire_L189_ok X fu q4 hl_q4 hc_q4 a1 a2 a3 _ hQ (fun l5_84 l6_85 s86 h => ?_) fu (0 : Int32) (0 : Int32) s29 h
    refine V_iload X 5 d_La_shire_467 rfl ?_
    refine V_if_eq X 509 d_La_shire_469 (by decide) h (fun c87 h => ?_) (fun c87 h => ?_)
    · skip
      refine V_iconst (v := 0) X d_La_shire_509 (by decide) ?_
      have h9 := wp_some h
      exact hQ _ _ h9 (fun _ => by decide) _ _ d_La_shire_510
    · skip
      refine V_aload_n X 0 d_La_shire_472 rfl ?_
      refine V_cP X h (fun r88 s89 q => C_V (q := 0) X [] mt_Co_fault ms_Co_fault ml_La_20 (k_Co_fault fu s86 r88 s89 q) rfl rfl (by omega) (Nat.le_of_ble_eq_true rfl) rfl (by decide) (by decide) (by decide) d_La_shire_473) (fun r88 s89 h => ?_)
      refine V_iconst (v := 3) X d_La_shire_476 (by decide) ?_
      refine V_aload X 4 d_La_shire_477 rfl ?_
      refine V_iconst (v := 0) X d_La_shire_479 (by decide) ?_
      refine V_iald X d_La_shire_480 hl_q4 hc_q4 rfl h (fun h => ?_)
      refine V_imul X d_La_shire_481 ?_
      refine V_iconst (v := 5) X d_La_shire_482 (by decide) ?_
      refine V_aload X 4 d_La_shire_483 rfl ?_
      refine V_iconst (v := 1) X d_La_shire_485 (by decide) ?_
      refine V_iald X d_La_shire_486 hl_q4 hc_q4 rfl h (fun h => ?_)
      refine V_imul X d_La_shire_487 ?_
      refine V_iadd X d_La_shire_488 ?_
      refine V_iconst (v := 1) X d_La_shire_489 (by decide) ?_
      refine V_isub X d_La_shire_490 ?_
      refine V_icmp_ne X 509 d_La_shire_491 (by decide) h (fun c90 h => ?_) (fun c90 h => ?_)
      · skip
        refine V_iconst (v := 0) X d_La_shire_509 (by decide) ?_
        have h9 := wp_some h
        exact hQ _ _ h9 (fun _ => by decide) _ _ d_La_shire_510
      · skip
        refine V_aload_n X 0 d_La_shire_494 rfl ?_
        refine V_cP X h (fun r91 s92 q => C_V (q := 0) X [] mt_Co_shire ms_Co_shire ml_La_24 (k_Co_shire fu s89 r91 s92 q) rfl rfl (by omega) (Nat.le_of_ble_eq_true rfl) rfl (by decide) (by decide) (by decide) d_La_shire_495) (fun r91 s92 h => ?_)
        refine V_aload X 4 d_La_shire_498 rfl ?_
        refine V_iconst (v := 1) X d_La_shire_500 (by decide) ?_
        refine V_iald X d_La_shire_501 hl_q4 hc_q4 rfl h (fun h => ?_)
        refine V_icmp_ne X 509 d_La_shire_502 (by decide) h (fun c93 h => ?_) (fun c93 h => ?_)
        · skip
          refine V_iconst (v := 0) X d_La_shire_509 (by decide) ?_
          have h9 := wp_some h
          exact hQ _ _ h9 (fun _ => by decide) _ _ d_La_shire_510
        · skip
          refine V_iconst (v := 1) X d_La_shire_505 (by decide) ?_
          refine V_goto X 510 d_La_shire_506 (by decide) ?_
          have h9 := wp_some h
          exact hQ _ _ h9 (fun _ => by decide) _ _ d_La_shire_510
  · skip
    refine V_aload_n X 0 d_La_shire_170 rfl ?_
    refine V_bipush (v := 59) X d_La_shire_171 (by decide) ?_
    refine V_cP X h (fun r94 s95 q => C_S X [Value.ref (ad 0), Value.int (59 : Int32)] mt_La_put ms_La_put ml_La_14 (k_La_put s29 (59 : Int32) r94 s95 q) rfl rfl (by omega) (Nat.le_of_ble_eq_true rfl) d_La_shire_173) (fun r94 s95 h => ?_)
    refine V_if_eq X 183 d_La_shire_176 (by decide) h (fun c96 h => ?_) (fun c96 h => ?_)
    · skip
      refine V_iconst (v := 0) X d_La_shire_183 (by decide) ?_
      refine V_istore X [(5, Value.int (0 : Int32)), (0, Value.ref (ad 0)), (1, Value.int a1), (2, Value.int a2), (3, Value.int a3), (4, Value.ref (ad q4)), (6, Value.int l6_28)] d_La_shire_184 (by decide) rfl ?_
      refine V_iconst (v := 0) X d_La_shire_186 (by decide) ?_
      refine V_istore X [(6, Value.int (0 : Int32)), (5, Value.int (0 : Int32)), (0, Value.ref (ad 0)), (1, Value.int a1), (2, Value.int a2), (3, Value.int a3), (4, Value.ref (ad q4))] d_La_shire_187 (by decide) rfl ?_
      refine V_sub (lv' := [(0, Value.ref (ad 0)), (1, Value.int a1), (2, Value.int a2), (3, Value.int a3), (4, Value.ref (ad q4)), (5, Value.int (0 : Int32)), (6, Value.int (0 : Int32))]) [2, 3, 4, 5, 6, 1, 0] rfl ?_
      refine La_shire_L189_ok X fu q4 hl_q4 hc_q4 a1 a2 a3 _ hQ (fun l5_97 l6_98 s99 h => ?_) fu (0 : Int32) (0 : Int32) s95 h
      refine V_iload X 5 d_La_shire_467 rfl ?_
      refine V_if_eq X 509 d_La_shire_469 (by decide) h (fun c100 h => ?_) (fun c100 h => ?_)
      · skip
        refine V_iconst (v := 0) X d_La_shire_509 (by decide) ?_
        have h9 := wp_some h
        exact hQ _ _ h9 (fun _ => by decide) _ _ d_La_shire_510
      · skip
        refine V_aload_n X 0 d_La_shire_472 rfl ?_
        refine V_cP X h (fun r101 s102 q => C_V (q := 0) X [] mt_Co_fault ms_Co_fault ml_La_20 (k_Co_fault fu s99 r101 s102 q) rfl rfl (by omega) (Nat.le_of_ble_eq_true rfl) rfl (by decide) (by decide) (by decide) d_La_shire_473) (fun r101 s102 h => ?_)
        refine V_iconst (v := 3) X d_La_shire_476 (by decide) ?_
        refine V_aload X 4 d_La_shire_477 rfl ?_
        refine V_iconst (v := 0) X d_La_shire_479 (by decide) ?_
        refine V_iald X d_La_shire_480 hl_q4 hc_q4 rfl h (fun h => ?_)
        refine V_imul X d_La_shire_481 ?_
        refine V_iconst (v := 5) X d_La_shire_482 (by decide) ?_
        refine V_aload X 4 d_La_shire_483 rfl ?_
        refine V_iconst (v := 1) X d_La_shire_485 (by decide) ?_
        refine V_iald X d_La_shire_486 hl_q4 hc_q4 rfl h (fun h => ?_)
        refine V_imul X d_La_shire_487 ?_
        refine V_iadd X d_La_shire_488 ?_
        refine V_iconst (v := 1) X d_La_shire_489 (by decide) ?_
        refine V_isub X d_La_shire_490 ?_
        refine V_icmp_ne X 509 d_La_shire_491 (by decide) h (fun c103 h => ?_) (fun c103 h => ?_)
        · skip
          refine V_iconst (v := 0) X d_La_shire_509 (by decide) ?_
          have h9 := wp_some h
          exact hQ _ _ h9 (fun _ => by decide) _ _ d_La_shire_510
        · skip
          refine V_aload_n X 0 d_La_shire_494 rfl ?_
          refine V_cP X h (fun r104 s105 q => C_V (q := 0) X [] mt_Co_shire ms_Co_shire ml_La_24 (k_Co_shire fu s102 r104 s105 q) rfl rfl (by omega) (Nat.le_of_ble_eq_true rfl) rfl (by decide) (by decide) (by decide) d_La_shire_495) (fun r104 s105 h => ?_)
          refine V_aload X 4 d_La_shire_498 rfl ?_
          refine V_iconst (v := 1) X d_La_shire_500 (by decide) ?_
          refine V_iald X d_La_shire_501 hl_q4 hc_q4 rfl h (fun h => ?_)
          refine V_icmp_ne X 509 d_La_shire_502 (by decide) h (fun c106 h => ?_) (fun c106 h => ?_)
          · skip
            refine V_iconst (v := 0) X d_La_shire_509 (by decide) ?_
            have h9 := wp_some h
            exact hQ _ _ h9 (fun _ => by decide) _ _ d_La_shire_510
          · skip
            refine V_iconst (v := 1) X d_La_shire_505 (by decide) ?_
            refine V_goto X 510 d_La_shire_506 (by decide) ?_
            have h9 := wp_some h
            exact hQ _ _ h9 (fun _ => by decide) _ _ d_La_shire_510
    · skip
      refine V_iconst (v := 1) X d_La_shire_179 (by decide) ?_
      refine V_goto X 184 d_La_shire_180 (by decide) ?_
      refine V_istore X [(5, Value.int (1 : Int32)), (0, Value.ref (ad 0)), (1, Value.int a1), (2, Value.int a2), (3, Value.int a3), (4, Value.ref (ad q4)), (6, Value.int l6_28)] d_La_shire_184 (by decide) rfl ?_
      refine V_iconst (v := 0) X d_La_shire_186 (by decide) ?_
      refine V_istore X [(6, Value.int (0 : Int32)), (5, Value.int (1 : Int32)), (0, Value.ref (ad 0)), (1, Value.int a1), (2, Value.int a2), (3, Value.int a3), (4, Value.ref (ad q4))] d_La_shire_187 (by decide) rfl ?_
      refine V_sub (lv' := [(0, Value.ref (ad 0)), (1, Value.int a1), (2, Value.int a2), (3, Value.int a3), (4, Value.ref (ad q4)), (5, Value.int (1 : Int32)), (6, Value.int (0 : Int32))]) [2, 3, 4, 5, 6, 1, 0] rfl ?_
      refine La_shire_L189_ok X fu q4 hl_q4 hc_q4 a1 a2 a3 _ hQ (fun l5_107 l6_108 s109 h => ?_) fu (1 : Int32) (0 : Int32) s95 h
      refine V_iload X 5 d_La_shire_467 rfl ?_
      refine V_if_eq X 509 d_La_shire_469 (by decide) h (fun c110 h => ?_) (fun c110 h => ?_)
      · skip
        refine V_iconst (v := 0) X d_La_shire_509 (by decide) ?_
        have h9 := wp_some h
        exact hQ _ _ h9 (fun _ => by decide) _ _ d_La_shire_510
      · skip
        refine V_aload_n X 0 d_La_shire_472 rfl ?_
        refine V_cP X h (fun r111 s112 q => C_V (q := 0) X [] mt_Co_fault ms_Co_fault ml_La_20 (k_Co_fault fu s109 r111 s112 q) rfl rfl (by omega) (Nat.le_of_ble_eq_true rfl) rfl (by decide) (by decide) (by decide) d_La_shire_473) (fun r111 s112 h => ?_)
        refine V_iconst (v := 3) X d_La_shire_476 (by decide) ?_
        refine V_aload X 4 d_La_shire_477 rfl ?_
        refine V_iconst (v := 0) X d_La_shire_479 (by decide) ?_
        refine V_iald X d_La_shire_480 hl_q4 hc_q4 rfl h (fun h => ?_)
        refine V_imul X d_La_shire_481 ?_
        refine V_iconst (v := 5) X d_La_shire_482 (by decide) ?_
        refine V_aload X 4 d_La_shire_483 rfl ?_
        refine V_iconst (v := 1) X d_La_shire_485 (by decide) ?_
        refine V_iald X d_La_shire_486 hl_q4 hc_q4 rfl h (fun h => ?_)
        refine V_imul X d_La_shire_487 ?_
        refine V_iadd X d_La_shire_488 ?_
        refine V_iconst (v := 1) X d_La_shire_489 (by decide) ?_
        refine V_isub X d_La_shire_490 ?_
        refine V_icmp_ne X 509 d_La_shire_491 (by decide) h (fun c113 h => ?_) (fun c113 h => ?_)
        · skip
          refine V_iconst (v := 0) X d_La_shire_509 (by decide) ?_
          have h9 := wp_some h
          exact hQ _ _ h9 (fun _ => by decide) _ _ d_La_shire_510
        · skip
          refine V_aload_n X 0 d_La_shire_494 rfl ?_
          refine V_cP X h (fun r114 s115 q => C_V (q := 0) X [] mt_Co_shire ms_Co_shire ml_La_24 (k_Co_shire fu s112 r114 s115 q) rfl rfl (by omega) (Nat.le_of_ble_eq_true rfl) rfl (by decide) (by decide) (by decide) d_La_shire_495) (fun r114 s115 h => ?_)
          refine V_aload X 4 d_La_shire_498 rfl ?_
          refine V_iconst (v := 1) X d_La_shire_500 (by decide) ?_
          refine V_iald X d_La_shire_501 hl_q4 hc_q4 rfl h (fun h => ?_)
          refine V_icmp_ne X 509 d_La_shire_502 (by decide) h (fun c116 h => ?_) (fun c116 h => ?_)
          · skip
            refine V_iconst (v := 0) X d_La_shire_509 (by decide) ?_
            have h9 := wp_some h
            exact hQ _ _ h9 (fun _ => by decide) _ _ d_La_shire_510
          · skip
            refine V_iconst (v := 1) X d_La_shire_505 (by decide) ?_
            refine V_goto X 510 d_La_shire_506 (by decide) ?_
            have h9 := wp_some h
            exact hQ _ _ h9 (fun _ => by decide) _ _ d_La_shire_510
