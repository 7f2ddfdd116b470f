set_option maxHeartbeats 4000000 in
set_option maxRecDepth 100000 in
theorem k_Co_suit (fu : Nat) (σ : Sg) (a0 : Int32) (a1 : Int32) (r : Int32) (h : Co_suit fu σ a0 a1 = some r) : Evc y_Co_suit prog_1_method_7_code 3 (some .int) 9 (fun ad => [Value.ref (ad 0), Value.int a0, Value.int a1]) σ σ (fun _ => some (.int r)) := by
  refine Evc_ofI (by decide) (fun ad => Nat.le_of_ble_eq_true rfl) (fun p l e R s m args below meth c D ad cI cB A Q X hQ => ?_)
  have X : Cx p R s m args meth c jR0 prog_1_method_7_code 3 9 D ad cI cB A 0 0 := X
  have hQ := hQ.pure
  have h : wpO (Co_suit fu σ a0 a1) (fun q => q = r) := ⟨_, h, rfl⟩
  rw [Co_suit] at h
  refine V_sub (lv' := [(0, Value.ref (ad 0)), (1, Value.int a0), (2, Value.int a1)]) [0, 1, 2] rfl ?_
  refine V_aload_n X 0 d_Co_suit_0 rfl ?_
  refine V_getR X 0 2 5 rfl ji0 (by decide) (by decide) (by decide) fl_Co_28 d_Co_suit_1 (by decide) (by decide) (by decide) (by decide) ?_
  refine V_iload_n X 1 d_Co_suit_4 rfl ?_
  refine V_cI X h (fun r1 q => C_V (q := 3) X [Value.int a0] mt_Sh_hasSuit ms_Sh_hasSuit ml_Co_111 (k_Sh_hasSuit σ 5 (by decide) (by decide) a0 r1 q) rfl rfl (by omega) (Nat.le_of_ble_eq_true rfl) rfl (by decide) (by decide) (by decide) d_Co_suit_5) (fun r1 h => ?_)
  refine V_if_ne X 14 d_Co_suit_8 (by decide) h (fun c2 h => ?_) (fun c2 h => ?_)
  · skip
    refine V_iload_n X 2 d_Co_suit_14 rfl ?_
    rcases wp_case h with ⟨c3, h⟩ | ⟨c3, h⟩
    · skip
      refine V_tableIn X 53 68 d_Co_suit_15 (0) (by rw [c3]; decide) (by decide) (by decide) rfl (by decide) ?_
      refine V_aload_n X 0 d_Co_suit_68 rfl ?_
      refine V_getR X 0 2 5 rfl ji0 (by decide) (by decide) (by decide) fl_Co_28 d_Co_suit_69 (by decide) (by decide) (by decide) (by decide) ?_
      refine V_iload_n X 1 d_Co_suit_72 rfl ?_
      refine V_cI X h (fun r4 q => C_V (q := 3) X [Value.int a0] mt_Sh_kind ms_Sh_kind ml_Co_114 (k_Sh_kind σ 5 (by decide) (by decide) a0 r4 q) rfl rfl (by omega) (Nat.le_of_ble_eq_true rfl) rfl (by decide) (by decide) (by decide) d_Co_suit_73) (fun r4 h => ?_)
      have h9 := wp_some h
      exact hQ _ h9 (fun h9 => absurd h9 (by decide)) _ _ d_Co_suit_76
    · skip
      rcases wp_case h with ⟨c5, h⟩ | ⟨c5, h⟩
      · skip
        refine V_tableIn X 62 77 d_Co_suit_15 (1) (by rw [c5]; decide) (by decide) (by decide) rfl (by decide) ?_
        refine V_aload_n X 0 d_Co_suit_77 rfl ?_
        refine V_getR X 0 2 5 rfl ji0 (by decide) (by decide) (by decide) fl_Co_28 d_Co_suit_78 (by decide) (by decide) (by decide) (by decide) ?_
        refine V_iload_n X 1 d_Co_suit_81 rfl ?_
        refine V_cI X h (fun r6 q => C_V (q := 3) X [Value.int a0] mt_Sh_need ms_Sh_need ml_Co_117 (k_Sh_need σ 5 (by decide) (by decide) a0 r6 q) rfl rfl (by omega) (Nat.le_of_ble_eq_true rfl) rfl (by decide) (by decide) (by decide) d_Co_suit_82) (fun r6 h => ?_)
        have h9 := wp_some h
        exact hQ _ h9 (fun h9 => absurd h9 (by decide)) _ _ d_Co_suit_85
      · skip
        rcases wp_case h with ⟨c7, h⟩ | ⟨c7, h⟩
        · skip
          refine V_tableIn X 71 86 d_Co_suit_15 (2) (by rw [c7]; decide) (by decide) (by decide) rfl (by decide) ?_
          refine V_aload_n X 0 d_Co_suit_86 rfl ?_
          refine V_getR X 0 2 5 rfl ji0 (by decide) (by decide) (by decide) fl_Co_28 d_Co_suit_87 (by decide) (by decide) (by decide) (by decide) ?_
          refine V_iload_n X 1 d_Co_suit_90 rfl ?_
          refine V_cI X h (fun r8 q => C_V (q := 3) X [Value.int a0] mt_Sh_worth ms_Sh_worth ml_Co_120 (k_Sh_worth σ 5 (by decide) (by decide) a0 r8 q) rfl rfl (by omega) (Nat.le_of_ble_eq_true rfl) rfl (by decide) (by decide) (by decide) d_Co_suit_91) (fun r8 h => ?_)
          have h9 := wp_some h
          exact hQ _ h9 (fun h9 => absurd h9 (by decide)) _ _ d_Co_suit_94
        · skip
          rcases wp_case h with ⟨c9, h⟩ | ⟨c9, h⟩
          · skip
            refine V_tableIn X 80 95 d_Co_suit_15 (3) (by rw [c9]; decide) (by decide) (by decide) rfl (by decide) ?_
            refine V_aload_n X 0 d_Co_suit_95 rfl ?_
            refine V_getR X 0 2 5 rfl ji0 (by decide) (by decide) (by decide) fl_Co_28 d_Co_suit_96 (by decide) (by decide) (by decide) (by decide) ?_
            refine V_iload_n X 1 d_Co_suit_99 rfl ?_
            refine V_cI X h (fun r10 q => C_V (q := 3) X [Value.int a0] mt_Sh_hangsOn ms_Sh_hangsOn ml_Co_123 (k_Sh_hangsOn σ 5 (by decide) (by decide) a0 r10 q) rfl rfl (by omega) (Nat.le_of_ble_eq_true rfl) rfl (by decide) (by decide) (by decide) d_Co_suit_100) (fun r10 h => ?_)
            have h9 := wp_some h
            exact hQ _ h9 (fun h9 => absurd h9 (by decide)) _ _ d_Co_suit_103
          · skip
            rcases wp_case h with ⟨c11, h⟩ | ⟨c11, h⟩
            · skip
              refine V_tableIn X 89 104 d_Co_suit_15 (4) (by rw [c11]; decide) (by decide) (by decide) rfl (by decide) ?_
              refine V_aload_n X 0 d_Co_suit_104 rfl ?_
              refine V_getR X 0 2 5 rfl ji0 (by decide) (by decide) (by decide) fl_Co_28 d_Co_suit_105 (by decide) (by decide) (by decide) (by decide) ?_
              refine V_iload_n X 1 d_Co_suit_108 rfl ?_
              refine V_cI X h (fun r12 q => C_V (q := 3) X [Value.int a0] mt_Sh_cost ms_Sh_cost ml_Co_126 (k_Sh_cost σ 5 (by decide) (by decide) a0 r12 q) rfl rfl (by omega) (Nat.le_of_ble_eq_true rfl) rfl (by decide) (by decide) (by decide) d_Co_suit_109) (fun r12 h => ?_)
              have h9 := wp_some h
              exact hQ _ h9 (fun h9 => absurd h9 (by decide)) _ _ d_Co_suit_112
            · skip
              rcases wp_case h with ⟨c13, h⟩ | ⟨c13, h⟩
              · skip
                refine V_tableIn X 98 113 d_Co_suit_15 (5) (by rw [c13]; decide) (by decide) (by decide) rfl (by decide) ?_
                refine V_aload_n X 0 d_Co_suit_113 rfl ?_
                refine V_getR X 0 2 5 rfl ji0 (by decide) (by decide) (by decide) fl_Co_28 d_Co_suit_114 (by decide) (by decide) (by decide) (by decide) ?_
                refine V_cI X h (fun r14 q => C_V (q := 3) X [] mt_Sh_righted ms_Sh_righted ml_Co_129 (k_Sh_righted σ 5 (by decide) (by decide) r14 q) rfl rfl (by omega) (Nat.le_of_ble_eq_true rfl) rfl (by decide) (by decide) (by decide) d_Co_suit_117) (fun r14 h => ?_)
                refine V_iload_n X 1 d_Co_suit_120 rfl ?_
                refine V_cI X h (fun r15 q => C_S X [Value.int r14, Value.int a0] mt_Co_has ms_Co_has ml_Co_132 (k_Co_has σ r14 a0 r15 q) rfl rfl (by omega) (Nat.le_of_ble_eq_true rfl) d_Co_suit_121) (fun r15 h => ?_)
                refine V_if_eq X 131 d_Co_suit_124 (by decide) h (fun c16 h => ?_) (fun c16 h => ?_)
                · skip
                  refine V_iconst (v := 0) X d_Co_suit_131 (by decide) ?_
                  have h9 := wp_some h
                  exact hQ _ h9 (fun h9 => absurd h9 (by decide)) _ _ d_Co_suit_132
                · skip
                  refine V_iconst (v := 1) X d_Co_suit_127 (by decide) ?_
                  refine V_goto X 132 d_Co_suit_128 (by decide) ?_
                  have h9 := wp_some h
                  exact hQ _ h9 (fun h9 => absurd h9 (by decide)) _ _ d_Co_suit_132
              · skip
                rcases wp_case h with ⟨c17, h⟩ | ⟨c17, h⟩
                · skip
                  refine V_tableIn X 118 133 d_Co_suit_15 (6) (by rw [c17]; decide) (by decide) (by decide) rfl (by decide) ?_
                  refine V_aload_n X 0 d_Co_suit_133 rfl ?_
                  refine V_getR X 0 2 5 rfl ji0 (by decide) (by decide) (by decide) fl_Co_28 d_Co_suit_134 (by decide) (by decide) (by decide) (by decide) ?_
                  refine V_iload_n X 1 d_Co_suit_137 rfl ?_
                  refine V_cI X h (fun r18 q => C_V (q := 3) X [Value.int a0] mt_Sh_below ms_Sh_below ml_Co_136 (k_Sh_below σ 5 (by decide) (by decide) a0 r18 q) rfl rfl (by omega) (Nat.le_of_ble_eq_true rfl) rfl (by decide) (by decide) (by decide) d_Co_suit_138) (fun r18 h => ?_)
                  have h9 := wp_some h
                  exact hQ _ h9 (fun h9 => absurd h9 (by decide)) _ _ d_Co_suit_141
                · skip
                  rcases wp_case h with ⟨c19, h⟩ | ⟨c19, h⟩
                  · skip
                    refine V_tableIn X 127 142 d_Co_suit_15 (7) (by rw [c19]; decide) (by decide) (by decide) rfl (by decide) ?_
                    refine V_aload_n X 0 d_Co_suit_142 rfl ?_
                    refine V_getR X 0 2 5 rfl ji0 (by decide) (by decide) (by decide) fl_Co_28 d_Co_suit_143 (by decide) (by decide) (by decide) (by decide) ?_
                    refine V_iload_n X 1 d_Co_suit_146 rfl ?_
                    refine V_cI X h (fun r20 q => C_V (q := 3) X [Value.int a0] mt_Sh_shakes ms_Sh_shakes ml_Co_139 (k_Sh_shakes σ 5 (by decide) (by decide) a0 r20 q) rfl rfl (by omega) (Nat.le_of_ble_eq_true rfl) rfl (by decide) (by decide) (by decide) d_Co_suit_147) (fun r20 h => ?_)
                    have h9 := wp_some h
                    exact hQ _ h9 (fun h9 => absurd h9 (by decide)) _ _ d_Co_suit_150
                  · skip
                    rcases wp_case h with ⟨c21, h⟩ | ⟨c21, h⟩
                    · skip
                      refine V_tableIn X 136 151 d_Co_suit_15 (8) (by rw [c21]; decide) (by decide) (by decide) rfl (by decide) ?_
                      refine V_aload_n X 0 d_Co_suit_151 rfl ?_
                      refine V_getR X 0 4 53 rfl ji0 (by decide) (by decide) (by decide) fl_Co_40 d_Co_suit_152 (by decide) (by decide) (by decide) (by decide) ?_
                      refine V_iload_n X 1 d_Co_suit_155 rfl ?_
                      refine V_cI X h (fun r22 q => C_V (q := 5) X [Value.int a0] mt_Gu_possibleNeeds ms_Gu_possibleNeeds ml_Co_142 (k_Gu_possibleNeeds fu σ a0 r22 q) rfl rfl (by omega) (Nat.le_of_ble_eq_true rfl) rfl (by decide) (by decide) (by decide) d_Co_suit_156) (fun r22 h => ?_)
                      have h9 := wp_some h
                      exact hQ _ h9 (fun h9 => absurd h9 (by decide)) _ _ d_Co_suit_159
                    · skip
                      rcases wp_case h with ⟨c23, h⟩ | ⟨c23, h⟩
                      · skip
                        refine V_tableIn X 145 160 d_Co_suit_15 (9) (by rw [c23]; decide) (by decide) (by decide) rfl (by decide) ?_
                        refine V_aload_n X 0 d_Co_suit_160 rfl ?_
                        refine V_getR X 0 4 53 rfl ji0 (by decide) (by decide) (by decide) fl_Co_40 d_Co_suit_161 (by decide) (by decide) (by decide) (by decide) ?_
                        refine V_iload_n X 1 d_Co_suit_164 rfl ?_
                        refine V_cI X h (fun r24 q => C_V (q := 5) X [Value.int a0] mt_Gu_bestTry ms_Gu_bestTry ml_Co_145 (k_Gu_bestTry fu σ a0 r24 q) rfl rfl (by omega) (Nat.le_of_ble_eq_true rfl) rfl (by decide) (by decide) (by decide) d_Co_suit_165) (fun r24 h => ?_)
                        have h9 := wp_some h
                        exact hQ _ h9 (fun h9 => absurd h9 (by decide)) _ _ d_Co_suit_168
                      · skip
                        refine V_tableOut X 169 d_Co_suit_15 (by have z0 := sw_ne c3 (0) (by decide); have z1 := sw_ne c5 (1) (by decide); have z2 := sw_ne c7 (2) (by decide); have z3 := sw_ne c9 (3) (by decide); have z4 := sw_ne c11 (4) (by decide); have z5 := sw_ne c13 (5) (by decide); have z6 := sw_ne c17 (6) (by decide); have z7 := sw_ne c19 (7) (by decide); have z8 := sw_ne c21 (8) (by decide); have z9 := sw_ne c23 (9) (by decide); omega) (by decide) ?_
                        refine V_bipush (v := -102) X d_Co_suit_169 (by decide) ?_
                        have h9 := wp_some h
                        exact hQ _ h9 (fun h9 => absurd h9 (by decide)) _ _ d_Co_suit_171
  · skip
    refine V_bipush (v := -101) X d_Co_suit_11 (by decide) ?_
    have h9 := wp_some h
    exact hQ _ h9 (fun h9 => absurd h9 (by decide)) _ _ d_Co_suit_13
set_option maxHeartbeats 4000000 in
set_option maxRecDepth 100000 in
theorem Ch_goodWays_L26_ok {p : Program} {l : Launch} {e : Env} {R : Room} {s : State} {m : MethodId} {args : Array Value} {below : List Frame} {meth : Method} {c : Code} {D : va_G} {ad : Nat → Nat} {cI cB : ClassId} {A : Nat → Prop} {cells slots : Nat} {Q : State → Prop} {rd : Nat} (X : Cx p R s m args meth c "MistletoeCourt$Chances" prog_2_method_2_code 6 (2 + 2 * (rd + 1)) D ad cI cB A cells slots) (fu : Nat) (rec : Int32 → Int32 → Int32 → Int32 → Option Int32) (hrec : ∀ (σ : Sg) (a0 a1 a2 a3 : Int32) (r : Int32), rec a0 a1 a2 a3 = some r → Evc y_Ch_goodWays prog_2_method_2_code 6 (some .int) (2 + 2 * rd) (fun ad => [Value.int a0, Value.int a1, Value.int a2, Value.int a3]) σ σ (fun _ => some (.int r))) (l0 : Int32) (l1 : Int32) (l2 : Int32) (l3 : Int32) (σ : Sg) (kont : (Int32 → Int32 → Option Int32)) {K : Int32 → Prop} (hQ : RP p l e R s m args below meth c 6 D ad cI cB A cells slots Q prog_2_method_2_code false σ K) (hk : ∀ (l4 : Int32) (l5 : Int32), wpO (kont l4 l5) K → V p l e R s m args below meth c 6 D A cells slots Q (wl ad cI cB σ) 60 [(0, Value.int l0), (1, Value.int l1), (2, Value.int l2), (3, Value.int l3), (4, Value.int l4), (5, Value.int l5)] []) : ∀ (n : Nat) (l4 : Int32) (l5 : Int32), wpO (Ch_goodWays_L26 fu rec l0 l1 l2 l3 kont n l4 l5) K → V p l e R s m args below meth c 6 D A cells slots Q (wl ad cI cB σ) 26 [(0, Value.int l0), (1, Value.int l1), (2, Value.int l2), (3, Value.int l3), (4, Value.int l4), (5, Value.int l5)] [] := by
  intro n
  induction n with
  | zero =>
    intro l4 l5 h
    exact (wp_none h).elim
  | succ n ih =>
    intro l4 l5 h
    rw [Ch_goodWays_L26] at h
    refine V_iload X 5 d_Ch_goodWays_26 rfl ?_
    refine V_iload_n X 1 d_Ch_goodWays_28 rfl ?_
    refine V_icmp_gt X 60 d_Ch_goodWays_29 (by decide) h (fun c4 h => ?_) (fun c4 h => ?_)
    · skip
      exact hk l4 l5 h
    · skip
      refine V_iload X 4 d_Ch_goodWays_32 rfl ?_
      refine V_bipush (v := 20) X d_Ch_goodWays_34 (by decide) ?_
      refine V_iload_n X 0 d_Ch_goodWays_36 rfl ?_
      refine V_iload X 5 d_Ch_goodWays_37 rfl ?_
      refine V_iadd X d_Ch_goodWays_39 ?_
      refine V_mmin X ml_Ch_9 d_Ch_goodWays_40 (by omega) (Nat.le_of_ble_eq_true rfl) ?_
      refine V_iload_n X 1 d_Ch_goodWays_43 rfl ?_
      refine V_iload_n X 2 d_Ch_goodWays_44 rfl ?_
      refine V_iconst (v := 1) X d_Ch_goodWays_45 (by decide) ?_
      refine V_isub X d_Ch_goodWays_46 ?_
      refine V_iload_n X 3 d_Ch_goodWays_47 rfl ?_
      refine V_cI X h (fun r5 q => C_S X [Value.int (if (l0 + l5) < (20 : Int32) then l0 + l5 else (20 : Int32)), Value.int l1, Value.int (l2 - (1 : Int32)), Value.int l3] mt_Ch_goodWays ms_Ch_goodWays ml_Ch_15 (hrec σ (if (l0 + l5) < (20 : Int32) then l0 + l5 else (20 : Int32)) l1 (l2 - (1 : Int32)) l3 r5 q) rfl rfl (by omega) (Nat.le_of_ble_eq_true rfl) d_Ch_goodWays_48) (fun r5 h => ?_)
      refine V_iadd X d_Ch_goodWays_51 ?_
      refine V_istore X [(4, Value.int (l4 + r5)), (0, Value.int l0), (1, Value.int l1), (2, Value.int l2), (3, Value.int l3), (5, Value.int l5)] d_Ch_goodWays_52 (by decide) rfl ?_
      refine V_iinc X 5 (l5 + (1 : Int32)) [(5, Value.int (l5 + (1 : Int32))), (4, Value.int (l4 + r5)), (0, Value.int l0), (1, Value.int l1), (2, Value.int l2), (3, Value.int l3)] d_Ch_goodWays_54 rfl (by first | rfl | decide) (by decide) rfl ?_
      refine V_goto X 26 d_Ch_goodWays_57 (by decide) ?_
      refine V_sub (lv' := [(0, Value.int l0), (1, Value.int l1), (2, Value.int l2), (3, Value.int l3), (4, Value.int (l4 + r5)), (5, Value.int (l5 + (1 : Int32)))]) [2, 3, 4, 5, 1, 0] rfl ?_
      exact ih (l4 + r5) (l5 + (1 : Int32)) h
set_option maxHeartbeats 4000000 in
set_option maxRecDepth 100000 in
theorem k_Ch_goodWays (fu : Nat) : ∀ (rd : Nat) (σ : Sg) (a0 : Int32) (a1 : Int32) (a2 : Int32) (a3 : Int32) (r : Int32), Ch_goodWays fu rd a0 a1 a2 a3 = some r → Evc y_Ch_goodWays prog_2_method_2_code 6 (some .int) (2 + 2 * rd) (fun ad => [Value.int a0, Value.int a1, Value.int a2, Value.int a3]) σ σ (fun _ => some (.int r)) := by
  intro rd
  induction rd with
  | zero =>
    intro σ a0 a1 a2 a3 r h
    cases h
  | succ rd hrec =>
    intro σ a0 a1 a2 a3 r h
    refine Evc_ofI (by decide) (fun ad => Nat.le_of_ble_eq_true rfl) (fun p l e R s m args below meth c D ad cI cB A Q X hQ => ?_)
    have X : Cx p R s m args meth c "MistletoeCourt$Chances" prog_2_method_2_code 6 (2 + 2 * (rd + 1)) D ad cI cB A 0 0 := X
    have hQ := hQ.pure
    have h : wpO (Ch_goodWays fu (rd + 1) a0 a1 a2 a3) (fun q => q = r) := ⟨_, h, rfl⟩
    rw [Ch_goodWays] at h
    generalize hrf : Ch_goodWays fu rd = rec at h hrec
    refine V_sub (lv' := [(0, Value.int a0), (1, Value.int a1), (2, Value.int a2), (3, Value.int a3)]) [0, 1, 2, 3] rfl ?_
    refine V_iload_n X 2 d_Ch_goodWays_0 rfl ?_
    refine V_if_le X 9 d_Ch_goodWays_1 (by decide) h (fun c1 h => ?_) (fun c1 h => ?_)
    · skip
      refine V_iload_n X 0 d_Ch_goodWays_9 rfl ?_
      refine V_iload_n X 3 d_Ch_goodWays_10 rfl ?_
      refine V_icmp_lt X 18 d_Ch_goodWays_11 (by decide) h (fun c2 h => ?_) (fun c2 h => ?_)
      · skip
        refine V_iconst (v := 0) X d_Ch_goodWays_18 (by decide) ?_
        have h9 := wp_some h
        exact hQ _ h9 (fun h9 => absurd h9 (by decide)) _ _ d_Ch_goodWays_19
      · skip
        refine V_iconst (v := 1) X d_Ch_goodWays_14 (by decide) ?_
        refine V_goto X 19 d_Ch_goodWays_15 (by decide) ?_
        have h9 := wp_some h
        exact hQ _ h9 (fun h9 => absurd h9 (by decide)) _ _ d_Ch_goodWays_19
    · skip
      refine V_iload_n X 2 d_Ch_goodWays_4 rfl ?_
      refine V_iconst (v := 3) X d_Ch_goodWays_5 (by decide) ?_
      refine V_icmp_le X 20 d_Ch_goodWays_6 (by decide) h (fun c3 h => ?_) (fun c3 h => ?_)
      · skip
        refine V_iconst (v := 0) X d_Ch_goodWays_20 (by decide) ?_
        refine V_istore X [(4, Value.int (0 : Int32)), (0, Value.int a0), (1, Value.int a1), (2, Value.int a2), (3, Value.int a3)] d_Ch_goodWays_21 (by decide) rfl ?_
        refine V_iconst (v := 0) X d_Ch_goodWays_23 (by decide) ?_
        refine V_istore X [(5, Value.int (0 : Int32)), (4, Value.int (0 : Int32)), (0, Value.int a0), (1, Value.int a1), (2, Value.int a2), (3, Value.int a3)] d_Ch_goodWays_24 (by decide) rfl ?_
        refine V_sub (lv' := [(0, Value.int a0), (1, Value.int a1), (2, Value.int a2), (3, Value.int a3), (4, Value.int (0 : Int32)), (5, Value.int (0 : Int32))]) [2, 3, 4, 5, 1, 0] rfl ?_
        refine Ch_goodWays_L26_ok X fu rec hrec a0 a1 a2 a3 σ _ hQ (fun l4_6 l5_7 h => ?_) fu (0 : Int32) (0 : Int32) h
        refine V_iload X 4 d_Ch_goodWays_60 rfl ?_
        have h9 := wp_some h
        exact hQ _ h9 (fun h9 => absurd h9 (by decide)) _ _ d_Ch_goodWays_62
      · skip
        refine V_iload_n X 0 d_Ch_goodWays_9 rfl ?_
        refine V_iload_n X 3 d_Ch_goodWays_10 rfl ?_
        refine V_icmp_lt X 18 d_Ch_goodWays_11 (by decide) h (fun c8 h => ?_) (fun c8 h => ?_)
        · skip
          refine V_iconst (v := 0) X d_Ch_goodWays_18 (by decide) ?_
          have h9 := wp_some h
          exact hQ _ h9 (fun h9 => absurd h9 (by decide)) _ _ d_Ch_goodWays_19
        · skip
          refine V_iconst (v := 1) X d_Ch_goodWays_14 (by decide) ?_
          refine V_goto X 19 d_Ch_goodWays_15 (by decide) ?_
          have h9 := wp_some h
          exact hQ _ h9 (fun h9 => absurd h9 (by decide)) _ _ d_Ch_goodWays_19
set_option maxHeartbeats 4000000 in
set_option maxRecDepth 100000 in
theorem Ch_allWays_L4_ok {p : Program} {l : Launch} {e : Env} {R : Room} {s : State} {m : MethodId} {args : Array Value} {below : List Frame} {meth : Method} {c : Code} {D : va_G} {ad : Nat → Nat} {cI cB : ClassId} {A : Nat → Prop} {cells slots : Nat} {Q : State → Prop} (X : Cx p R s m args meth c "MistletoeCourt$Chances" prog_2_method_3_code 4 1 D ad cI cB A cells slots) (fu : Nat) (l0 : Int32) (l1 : Int32) (σ : Sg) (kont : (Int32 → Int32 → Option Int32)) {K : Int32 → Prop} (hQ : RP p l e R s m args below meth c 4 D ad cI cB A cells slots Q prog_2_method_3_code false σ K) (hk : ∀ (l2 : Int32) (l3 : Int32), wpO (kont l2 l3) K → V p l e R s m args below meth c 4 D A cells slots Q (wl ad cI cB σ) 21 [(0, Value.int l0), (1, Value.int l1), (2, Value.int l2), (3, Value.int l3)] []) : ∀ (n : Nat) (l2 : Int32) (l3 : Int32), wpO (Ch_allWays_L4 fu l0 l1 kont n l2 l3) K → V p l e R s m args below meth c 4 D A cells slots Q (wl ad cI cB σ) 4 [(0, Value.int l0), (1, Value.int l1), (2, Value.int l2), (3, Value.int l3)] [] := by
  intro n
  induction n with
  | zero =>
    intro l2 l3 h
    exact (wp_none h).elim
  | succ n ih =>
    intro l2 l3 h
    rw [Ch_allWays_L4] at h
    refine V_iload_n X 3 d_Ch_allWays_4 rfl ?_
    refine V_iload_n X 1 d_Ch_allWays_5 rfl ?_
    refine V_icmp_ge X 21 d_Ch_allWays_6 (by decide) h (fun c1 h => ?_) (fun c1 h => ?_)
    · skip
      exact hk l2 l3 h
    · skip
      refine V_iload_n X 2 d_Ch_allWays_9 rfl ?_
      refine V_iload_n X 0 d_Ch_allWays_10 rfl ?_
      refine V_iconst (v := 1) X d_Ch_allWays_11 (by decide) ?_
      refine V_iadd X d_Ch_allWays_12 ?_
      refine V_imul X d_Ch_allWays_13 ?_
      refine V_istore_n X [(2, Value.int (l2 * (l0 + (1 : Int32)))), (0, Value.int l0), (1, Value.int l1), (3, Value.int l3)] d_Ch_allWays_14 (by decide) rfl ?_
      refine V_iinc X 3 (l3 + (1 : Int32)) [(3, Value.int (l3 + (1 : Int32))), (2, Value.int (l2 * (l0 + (1 : Int32)))), (0, Value.int l0), (1, Value.int l1)] d_Ch_allWays_15 rfl (by first | rfl | decide) (by decide) rfl ?_
      refine V_goto X 4 d_Ch_allWays_18 (by decide) ?_
      refine V_sub (lv' := [(0, Value.int l0), (1, Value.int l1), (2, Value.int (l2 * (l0 + (1 : Int32)))), (3, Value.int (l3 + (1 : Int32)))]) [2, 3, 1, 0] rfl ?_
      exact ih (l2 * (l0 + (1 : Int32))) (l3 + (1 : Int32)) h
set_option maxHeartbeats 4000000 in
set_option maxRecDepth 100000 in
theorem k_Ch_allWays (fu : Nat) (σ : Sg) (a0 : Int32) (a1 : Int32) (r : Int32) (h : Ch_allWays fu a0 a1 = some r) : Evc y_Ch_allWays prog_2_method_3_code 4 (some .int) 1 (fun ad => [Value.int a0, Value.int a1]) σ σ (fun _ => some (.int r)) := by
  refine Evc_ofI (by decide) (fun ad => Nat.le_of_ble_eq_true rfl) (fun p l e R s m args below meth c D ad cI cB A Q X hQ => ?_)
  have X : Cx p R s m args meth c "MistletoeCourt$Chances" prog_2_method_3_code 4 1 D ad cI cB A 0 0 := X
  have hQ := hQ.pure
  have h : wpO (Ch_allWays fu a0 a1) (fun q => q = r) := ⟨_, h, rfl⟩
  rw [Ch_allWays] at h
  refine V_sub (lv' := [(0, Value.int a0), (1, Value.int a1)]) [0, 1] rfl ?_
  refine V_iconst (v := 1) X d_Ch_allWays_0 (by decide) ?_
  refine V_istore_n X [(2, Value.int (1 : Int32)), (0, Value.int a0), (1, Value.int a1)] d_Ch_allWays_1 (by decide) rfl ?_
  refine V_iconst (v := 0) X d_Ch_allWays_2 (by decide) ?_
  refine V_istore_n X [(3, Value.int (0 : Int32)), (2, Value.int (1 : Int32)), (0, Value.int a0), (1, Value.int a1)] d_Ch_allWays_3 (by decide) rfl ?_
  refine V_sub (lv' := [(0, Value.int a0), (1, Value.int a1), (2, Value.int (1 : Int32)), (3, Value.int (0 : Int32))]) [2, 3, 1, 0] rfl ?_
  refine Ch_allWays_L4_ok X fu a0 a1 σ _ hQ (fun l2_2 l3_3 h => ?_) fu (1 : Int32) (0 : Int32) h
  refine V_iload_n X 2 d_Ch_allWays_21 rfl ?_
  have h9 := wp_some h
  exact hQ _ h9 (fun h9 => absurd h9 (by decide)) _ _ d_Ch_allWays_22
set_option maxHeartbeats 4000000 in
set_option maxRecDepth 100000 in
theorem Ch_inLowestTerms_L2_ok {p : Program} {l : Launch} {e : Env} {R : Room} {s : State} {m : MethodId} {args : Array Value} {below : List Frame} {meth : Method} {c : Code} {D : va_G} {ad : Nat → Nat} {cI cB : ClassId} {A : Nat → Prop} {cells slots : Nat} {Q : State → Prop} (X : Cx p R s m args meth c "MistletoeCourt$Chances" prog_2_method_4_code 4 1 D ad cI cB A cells slots) (fu : Nat) (l0 : Int32) (l1 : Int32) (l2 : Int32) (σ : Sg) (kont : (Int32 → Option Int32)) {K : Int32 → Prop} (hQ : RP p l e R s m args below meth c 4 D ad cI cB A cells slots Q prog_2_method_4_code false σ K) (hk : ∀ (l3 : Int32), wpO (kont l3) K → V p l e R s m args below meth c 4 D A cells slots Q (wl ad cI cB σ) 29 [(0, Value.int l0), (1, Value.int l1), (2, Value.int l2), (3, Value.int l3)] []) : ∀ (n : Nat) (l3 : Int32), wpO (Ch_inLowestTerms_L2 fu l0 l1 l2 kont n l3) K → V p l e R s m args below meth c 4 D A cells slots Q (wl ad cI cB σ) 2 [(0, Value.int l0), (1, Value.int l1), (2, Value.int l2), (3, Value.int l3)] [] := by
  intro n
  induction n with
  | zero =>
    intro l3 h
    exact (wp_none h).elim
  | succ n ih =>
    intro l3 h
    rw [Ch_inLowestTerms_L2] at h
    refine V_iload_n X 3 d_Ch_inLowestTerms_2 rfl ?_
    refine V_iconst (v := 1) X d_Ch_inLowestTerms_3 (by decide) ?_
    refine V_icmp_le X 29 d_Ch_inLowestTerms_4 (by decide) h (fun c1 h => ?_) (fun c1 h => ?_)
    · skip
      exact hk l3 h
    · skip
      refine V_iload_n X 1 d_Ch_inLowestTerms_7 rfl ?_
      refine V_iload_n X 3 d_Ch_inLowestTerms_8 rfl ?_
      obtain ⟨hz, h⟩ := wp_nz h
      refine V_irem X d_Ch_inLowestTerms_9 hz ?_
      refine V_if_ne X 23 d_Ch_inLowestTerms_10 (by decide) h (fun c2 h => ?_) (fun c2 h => ?_)
      · skip
        refine V_iinc X 3 (l3 + (-1 : Int32)) [(3, Value.int (l3 + (-1 : Int32))), (0, Value.int l0), (1, Value.int l1), (2, Value.int l2)] d_Ch_inLowestTerms_23 rfl (by first | rfl | decide) (by decide) rfl ?_
        refine V_goto X 2 d_Ch_inLowestTerms_26 (by decide) ?_
        refine V_sub (lv' := [(0, Value.int l0), (1, Value.int l1), (2, Value.int l2), (3, Value.int (l3 + (-1 : Int32)))]) [1, 2, 3, 0] rfl ?_
        exact ih (l3 + (-1 : Int32)) h
      · skip
        refine V_iload_n X 2 d_Ch_inLowestTerms_13 rfl ?_
        refine V_iload_n X 3 d_Ch_inLowestTerms_14 rfl ?_
        obtain ⟨hz, h⟩ := wp_nz h
        refine V_irem X d_Ch_inLowestTerms_15 hz ?_
        refine V_if_ne X 23 d_Ch_inLowestTerms_16 (by decide) h (fun c3 h => ?_) (fun c3 h => ?_)
        · skip
          refine V_iinc X 3 (l3 + (-1 : Int32)) [(3, Value.int (l3 + (-1 : Int32))), (0, Value.int l0), (1, Value.int l1), (2, Value.int l2)] d_Ch_inLowestTerms_23 rfl (by first | rfl | decide) (by decide) rfl ?_
          refine V_goto X 2 d_Ch_inLowestTerms_26 (by decide) ?_
          refine V_sub (lv' := [(0, Value.int l0), (1, Value.int l1), (2, Value.int l2), (3, Value.int (l3 + (-1 : Int32)))]) [1, 2, 3, 0] rfl ?_
          exact ih (l3 + (-1 : Int32)) h
        · skip
          refine V_iload_n X 0 d_Ch_inLowestTerms_19 rfl ?_
          refine V_iload_n X 3 d_Ch_inLowestTerms_20 rfl ?_
          obtain ⟨hz, h⟩ := wp_nz h
          refine V_idiv X d_Ch_inLowestTerms_21 hz ?_
          have h9 := wp_some h
          exact hQ _ h9 (fun h9 => absurd h9 (by decide)) _ _ d_Ch_inLowestTerms_22
set_option maxHeartbeats 4000000 in
set_option maxRecDepth 100000 in
theorem k_Ch_inLowestTerms (fu : Nat) (σ : Sg) (a0 : Int32) (a1 : Int32) (a2 : Int32) (r : Int32) (h : Ch_inLowestTerms fu a0 a1 a2 = some r) : Evc y_Ch_inLowestTerms prog_2_method_4_code 4 (some .int) 1 (fun ad => [Value.int a0, Value.int a1, Value.int a2]) σ σ (fun _ => some (.int r)) := by
  refine Evc_ofI (by decide) (fun ad => Nat.le_of_ble_eq_true rfl) (fun p l e R s m args below meth c D ad cI cB A Q X hQ => ?_)
  have X : Cx p R s m args meth c "MistletoeCourt$Chances" prog_2_method_4_code 4 1 D ad cI cB A 0 0 := X
  have hQ := hQ.pure
  have h : wpO (Ch_inLowestTerms fu a0 a1 a2) (fun q => q = r) := ⟨_, h, rfl⟩
  rw [Ch_inLowestTerms] at h
  refine V_sub (lv' := [(0, Value.int a0), (1, Value.int a1), (2, Value.int a2)]) [0, 1, 2] rfl ?_
  refine V_iload_n X 2 d_Ch_inLowestTerms_0 rfl ?_
  refine V_istore_n X [(3, Value.int a2), (0, Value.int a0), (1, Value.int a1), (2, Value.int a2)] d_Ch_inLowestTerms_1 (by decide) rfl ?_
  refine V_sub (lv' := [(0, Value.int a0), (1, Value.int a1), (2, Value.int a2), (3, Value.int a2)]) [1, 2, 3, 0] rfl ?_
  refine Ch_inLowestTerms_L2_ok X fu a0 a1 a2 σ _ hQ (fun l3_4 h => ?_) fu a2 h
  refine V_iload_n X 0 d_Ch_inLowestTerms_29 rfl ?_
  have h9 := wp_some h
  exact hQ _ h9 (fun h9 => absurd h9 (by decide)) _ _ d_Ch_inLowestTerms_30
set_option maxHeartbeats 4000000 in
set_option maxRecDepth 100000 in
theorem k_Co_odds (fu : Nat) (σ : Sg) (a0 : Int32) (a1 : Int32) (a2 : Int32) (a3 : Int32) (r : Int32) (h : Co_odds fu σ a0 a1 a2 a3 = some r) : Evc y_Co_odds prog_1_method_16_code 8 (some .int) 23 (fun ad => [Value.ref (ad 0), Value.int a0, Value.int a1, Value.int a2, Value.int a3]) σ σ (fun _ => some (.int r)) := by
  refine Evc_ofI (by decide) (fun ad => Nat.le_of_ble_eq_true rfl) (fun p l e R s m args below meth c D ad cI cB A Q X hQ => ?_)
  have X : Cx p R s m args meth c jR0 prog_1_method_16_code 8 23 D ad cI cB A 0 0 := X
  have hQ := hQ.pure
  have h : wpO (Co_odds fu σ a0 a1 a2 a3) (fun q => q = r) := ⟨_, h, rfl⟩
  rw [Co_odds] at h
  refine V_sub (lv' := [(0, Value.ref (ad 0)), (1, Value.int a0), (2, Value.int a1), (3, Value.int a2), (4, Value.int a3)]) [0, 1, 2, 3, 4] rfl ?_
  refine V_aload_n X 0 d_Co_odds_0 rfl ?_
  refine V_getR X 0 2 5 rfl ji0 (by decide) (by decide) (by decide) fl_Co_28 d_Co_odds_1 (by decide) (by decide) (by decide) (by decide) ?_
  refine V_iload_n X 1 d_Co_odds_4 rfl ?_
  refine V_cI X h (fun r1 q => C_V (q := 3) X [Value.int a0] mt_Sh_hasSuit ms_Sh_hasSuit ml_Co_111 (k_Sh_hasSuit σ 5 (by decide) (by decide) a0 r1 q) rfl rfl (by omega) (Nat.le_of_ble_eq_true rfl) rfl (by decide) (by decide) (by decide) d_Co_odds_5) (fun r1 h => ?_)
  refine V_if_eq X 22 d_Co_odds_8 (by decide) h (fun c2 h => ?_) (fun c2 h => ?_)
  · skip
    refine V_bipush (v := -101) X d_Co_odds_22 (by decide) ?_
    have h9 := wp_some h
    exact hQ _ h9 (fun h9 => absurd h9 (by decide)) _ _ d_Co_odds_24
  · skip
    refine V_aload_n X 0 d_Co_odds_11 rfl ?_
    refine V_getR X 0 2 5 rfl ji0 (by decide) (by decide) (by decide) fl_Co_28 d_Co_odds_12 (by decide) (by decide) (by decide) (by decide) ?_
    refine V_iload_n X 2 d_Co_odds_15 rfl ?_
    refine V_cI X h (fun r3 q => C_V (q := 3) X [Value.int a1] mt_Sh_hasTree ms_Sh_hasTree ml_Co_97 (k_Sh_hasTree σ 5 (by decide) (by decide) a1 r3 q) rfl rfl (by omega) (Nat.le_of_ble_eq_true rfl) rfl (by decide) (by decide) (by decide) d_Co_odds_16) (fun r3 h => ?_)
    refine V_if_ne X 25 d_Co_odds_19 (by decide) h (fun c4 h => ?_) (fun c4 h => ?_)
    · skip
      refine V_iload_n X 3 d_Co_odds_25 rfl ?_
      refine V_iconst (v := 1) X d_Co_odds_26 (by decide) ?_
      refine V_icmp_lt X 46 d_Co_odds_27 (by decide) h (fun c5 h => ?_) (fun c5 h => ?_)
      · skip
        refine V_bipush (v := -102) X d_Co_odds_46 (by decide) ?_
        have h9 := wp_some h
        exact hQ _ h9 (fun h9 => absurd h9 (by decide)) _ _ d_Co_odds_48
      · skip
        refine V_iload_n X 3 d_Co_odds_30 rfl ?_
        refine V_iconst (v := 3) X d_Co_odds_31 (by decide) ?_
        refine V_icmp_gt X 46 d_Co_odds_32 (by decide) h (fun c6 h => ?_) (fun c6 h => ?_)
        · skip
          refine V_bipush (v := -102) X d_Co_odds_46 (by decide) ?_
          have h9 := wp_some h
          exact hQ _ h9 (fun h9 => absurd h9 (by decide)) _ _ d_Co_odds_48
        · skip
          refine V_iload X 4 d_Co_odds_35 rfl ?_
          refine V_if_lt X 46 d_Co_odds_37 (by decide) h (fun c7 h => ?_) (fun c7 h => ?_)
          · skip
            refine V_bipush (v := -102) X d_Co_odds_46 (by decide) ?_
            have h9 := wp_some h
            exact hQ _ h9 (fun h9 => absurd h9 (by decide)) _ _ d_Co_odds_48
          · skip
            refine V_iload X 4 d_Co_odds_40 rfl ?_
            refine V_iconst (v := 1) X d_Co_odds_42 (by decide) ?_
            refine V_icmp_le X 49 d_Co_odds_43 (by decide) h (fun c8 h => ?_) (fun c8 h => ?_)
            · skip
              refine V_aload_n X 0 d_Co_odds_49 rfl ?_
              refine V_getR X 0 2 5 rfl ji0 (by decide) (by decide) (by decide) fl_Co_28 d_Co_odds_50 (by decide) (by decide) (by decide) (by decide) ?_
              refine V_iload_n X 2 d_Co_odds_53 rfl ?_
              refine V_cI X h (fun r9 q => C_V (q := 3) X [Value.int a1] mt_Sh_birdsAt ms_Sh_birdsAt ml_Co_105 (k_Sh_birdsAt σ 5 (by decide) (by decide) a1 r9 q) rfl rfl (by omega) (Nat.le_of_ble_eq_true rfl) rfl (by decide) (by decide) (by decide) d_Co_odds_54) (fun r9 h => ?_)
              refine V_istore X [(5, Value.int r9), (0, Value.ref (ad 0)), (1, Value.int a0), (2, Value.int a1), (3, Value.int a2), (4, Value.int a3)] d_Co_odds_57 (by decide) rfl ?_
              refine V_aload_n X 1 d_Co_odds_59 rfl ?_
              refine V_getR X 0 2 5 rfl ji0 (by decide) (by decide) (by decide) fl_Co_28 d_Co_odds_60 (by decide) (by decide) (by decide) (by decide) ?_
              refine V_iload_n X 3 d_Co_odds_63 rfl ?_
              refine V_cI X h (fun r10 q => C_V (q := 3) X [Value.int a1] mt_Sh_berries ms_Sh_berries ml_Co_101 (k_Sh_berries σ 5 (by decide) (by decide) a1 r10 q) rfl rfl (by omega) (Nat.le_of_ble_eq_true rfl) rfl (by decide) (by decide) (by decide) d_Co_odds_64) (fun r10 h => ?_)
              refine V_iload X 0 d_Co_odds_67 rfl ?_
              refine V_iload_n X 4 d_Co_odds_69 rfl ?_
              refine V_aload_n X 1 d_Co_odds_70 rfl ?_
              refine V_getR X 0 2 5 rfl ji0 (by decide) (by decide) (by decide) fl_Co_28 d_Co_odds_71 (by decide) (by decide) (by decide) (by decide) ?_
              refine V_iload_n X 2 d_Co_odds_74 rfl ?_
              refine V_cI X h (fun r11 q => C_V (q := 3) X [Value.int a0] mt_Sh_cost ms_Sh_cost ml_Co_126 (k_Sh_cost σ 5 (by decide) (by decide) a0 r11 q) rfl rfl (by omega) (Nat.le_of_ble_eq_true rfl) rfl (by decide) (by decide) (by decide) d_Co_odds_75) (fun r11 h => ?_)
              refine V_cI X h (fun r12 q => C_SN X [Value.int r10, Value.int r9, Value.int a2, Value.int r11] mt_Ch_goodWays ms_Ch_goodWays mn_Co_205 (k_Ch_goodWays fu 10 σ r10 r9 a2 r11 r12 q) rfl rfl (by omega) (Nat.le_of_ble_eq_true rfl) d_Co_odds_78) (fun r12 h => ?_)
              refine V_istore X [(6, Value.int r12), (5, Value.int r9), (0, Value.ref (ad 0)), (1, Value.int a0), (2, Value.int a1), (3, Value.int a2), (4, Value.int a3)] d_Co_odds_81 (by decide) rfl ?_
              refine V_iload X 1 d_Co_odds_83 rfl ?_
              refine V_iload_n X 5 d_Co_odds_85 rfl ?_
              refine V_cI X h (fun r13 q => C_S X [Value.int r9, Value.int a2] mt_Ch_allWays ms_Ch_allWays ml_Co_211 (k_Ch_allWays fu σ r9 a2 r13 q) rfl rfl (by omega) (Nat.le_of_ble_eq_true rfl) d_Co_odds_86) (fun r13 h => ?_)
              refine V_istore X [(7, Value.int r13), (6, Value.int r12), (5, Value.int r9), (0, Value.ref (ad 0)), (1, Value.int a0), (2, Value.int a1), (3, Value.int a2), (4, Value.int a3)] d_Co_odds_89 (by decide) rfl ?_
              refine V_iload X 7 d_Co_odds_91 rfl ?_
              refine V_if_ne X 101 d_Co_odds_93 (by decide) h (fun c14 h => ?_) (fun c14 h => ?_)
              · skip
                refine V_iload X 0 d_Co_odds_101 rfl ?_
                refine V_iload X 1 d_Co_odds_103 rfl ?_
                refine V_iload X 0 d_Co_odds_105 rfl ?_
                refine V_cI X h (fun r15 q => C_S X [Value.int r13, Value.int r12, Value.int r13] mt_Ch_inLowestTerms ms_Ch_inLowestTerms ml_Co_215 (k_Ch_inLowestTerms fu σ r13 r12 r13 r15 q) rfl rfl (by omega) (Nat.le_of_ble_eq_true rfl) d_Co_odds_107) (fun r15 h => ?_)
                have h9 := wp_some h
                exact hQ _ h9 (fun h9 => absurd h9 (by decide)) _ _ d_Co_odds_110
              · skip
                refine V_iload X 1 d_Co_odds_96 rfl ?_
                refine V_goto X 103 d_Co_odds_98 (by decide) ?_
                refine V_iload X 1 d_Co_odds_103 rfl ?_
                refine V_iload X 0 d_Co_odds_105 rfl ?_
                refine V_cI X h (fun r16 q => C_S X [Value.int r12, Value.int r12, Value.int r13] mt_Ch_inLowestTerms ms_Ch_inLowestTerms ml_Co_215 (k_Ch_inLowestTerms fu σ r12 r12 r13 r16 q) rfl rfl (by omega) (Nat.le_of_ble_eq_true rfl) d_Co_odds_107) (fun r16 h => ?_)
                have h9 := wp_some h
                exact hQ _ h9 (fun h9 => absurd h9 (by decide)) _ _ d_Co_odds_110
            · skip
              refine V_bipush (v := -102) X d_Co_odds_46 (by decide) ?_
              have h9 := wp_some h
              exact hQ _ h9 (fun h9 => absurd h9 (by decide)) _ _ d_Co_odds_48
    · skip
      refine V_bipush (v := -101) X d_Co_odds_22 (by decide) ?_
      have h9 := wp_some h
      exact hQ _ h9 (fun h9 => absurd h9 (by decide)) _ _ d_Co_odds_24
set_option maxHeartbeats 4000000 in
set_option maxRecDepth 100000 in
theorem k_Pg_code (σ : Sg) (a0 : Int32) (r : Int32) (h : Pg_code σ a0 = some r) : Evc y_Pg_code prog_6_method_3_code 2 (some .int) 2 (fun ad => [Value.ref (ad 1), Value.int a0]) σ σ (fun _ => some (.int r)) := by
  refine Evc_ofI (by decide) (fun ad => Nat.le_of_ble_eq_true rfl) (fun p l e R s m args below meth c D ad cI cB A Q X hQ => ?_)
  have X : Cx p R s m args meth c jR1 prog_6_method_3_code 2 2 D ad cI cB A 0 0 := X
  have hQ := hQ.pure
  have h : wpO (Pg_code σ a0) (fun q => q = r) := ⟨_, h, rfl⟩
  rw [Pg_code] at h
  refine V_sub (lv' := [(0, Value.ref (ad 1)), (1, Value.int a0)]) [0, 1] rfl ?_
  refine V_aload_n X 0 d_Pg_code_0 rfl ?_
  refine V_getR X 1 0 2 rfl ji1 (by decide) (by decide) (by decide) fl_Pg_14 d_Pg_code_1 (by decide) (by decide) (by decide) (by decide) ?_
  refine V_iload_n X 1 d_Pg_code_4 rfl ?_
  refine V_cI X h (fun r1 q => C_V (q := 9) X [Value.int a0] mt_Rw_at ms_Rw_at ml_Pg_24 (k_Rw_at σ 2 (by decide) (by decide) a0 r1 q) rfl rfl (by omega) (Nat.le_of_ble_eq_true rfl) rfl (by decide) (by decide) (by decide) d_Pg_code_5) (fun r1 h => ?_)
  have h9 := wp_some h
  exact hQ _ h9 (fun h9 => absurd h9 (by decide)) _ _ d_Pg_code_8
set_option maxHeartbeats 4000000 in
set_option maxRecDepth 100000 in
theorem Co_digest_L20_ok {p : Program} {l : Launch} {e : Env} {R : Room} {s : State} {m : MethodId} {args : Array Value} {below : List Frame} {meth : Method} {c : Code} {D : va_G} {ad : Nat → Nat} {cI cB : ClassId} {A : Nat → Prop} {cells slots : Nat} {Q : State → Prop} (X : Cx p R s m args meth c jR0 prog_1_method_23_code 5 24 D ad cI cB A cells slots) (fu : Nat) (l3 : Int32) (σ : Sg) (kont : (Int64 → Int32 → Option (Int64 × Sg))) {K : (Int64 × Sg) → Prop} (hQ : RL p l e R s m args below meth c 5 D ad cI cB A cells slots Q prog_1_method_23_code K) (hk : ∀ (l1 : Int64) (l4 : Int32), wpO (kont l1 l4) K → V p l e R s m args below meth c 5 D A cells slots Q (wl ad cI cB σ) 45 [(0, Value.ref (ad 0)), (1, Value.long l1), (3, Value.int l3), (4, Value.int l4)] []) : ∀ (n : Nat) (l1 : Int64) (l4 : Int32), wpO (Co_digest_L20 fu l3 σ kont n l1 l4) K → V p l e R s m args below meth c 5 D A cells slots Q (wl ad cI cB σ) 20 [(0, Value.ref (ad 0)), (1, Value.long l1), (3, Value.int l3), (4, Value.int l4)] [] := by
  intro n
  induction n with
  | zero =>
    intro l1 l4 h
    exact (wp_none h).elim
  | succ n ih =>
    intro l1 l4 h
    rw [Co_digest_L20] at h
    refine V_iload X 3 d_Co_digest_20 rfl ?_
    refine V_iconst (v := 2) X d_Co_digest_22 (by decide) ?_
    refine V_icmp_gt X 45 d_Co_digest_23 (by decide) h (fun c3 h => ?_) (fun c3 h => ?_)
    · skip
      exact hk l1 l4 h
    · skip
      refine V_lload_n X 1 d_Co_digest_26 rfl ?_
      refine V_aload_n X 0 d_Co_digest_27 rfl ?_
      refine V_iload_n X 2 d_Co_digest_28 rfl ?_
      refine V_iload X 3 d_Co_digest_29 rfl ?_
      refine V_cI X h (fun r4 q => C_V (q := 0) X [Value.int l3, Value.int l4] mt_Co_tree ms_Co_tree ml_Co_257 (k_Co_tree fu σ l3 l4 r4 q) rfl rfl (by omega) (Nat.le_of_ble_eq_true rfl) rfl (by decide) (by decide) (by decide) d_Co_digest_31) (fun r4 h => ?_)
      refine V_i2l X d_Co_digest_34 ?_
      refine V_cL X h (fun r5 q => C_S X [Value.long l1, Value.long r4.toInt64] mt_Co_mixed ms_Co_mixed ml_Co_260 (k_Co_mixed σ l1 r4.toInt64 r5 q) rfl rfl (by omega) (Nat.le_of_ble_eq_true rfl) d_Co_digest_35) (fun r5 h => ?_)
      refine V_lstore_n X [(1, Value.long r5), (0, Value.ref (ad 0)), (3, Value.int l3), (4, Value.int l4)] d_Co_digest_38 (by decide) rfl ?_
      refine V_iinc X 3 (l4 + (1 : Int32)) [(4, Value.int (l4 + (1 : Int32))), (1, Value.long r5), (0, Value.ref (ad 0)), (3, Value.int l3)] d_Co_digest_39 rfl (by first | rfl | decide) (by decide) rfl ?_
      refine V_goto X 20 d_Co_digest_42 (by decide) ?_
      refine V_sub (lv' := [(0, Value.ref (ad 0)), (1, Value.long r5), (3, Value.int l3), (4, Value.int (l4 + (1 : Int32)))]) [2, 1, 3, 0] rfl ?_
      exact ih r5 (l4 + (1 : Int32)) h
set_option maxHeartbeats 4000000 in
set_option maxRecDepth 100000 in
theorem Co_digest_L48_ok {p : Program} {l : Launch} {e : Env} {R : Room} {s : State} {m : MethodId} {args : Array Value} {below : List Frame} {meth : Method} {c : Code} {D : va_G} {ad : Nat → Nat} {cI cB : ClassId} {A : Nat → Prop} {cells slots : Nat} {Q : State → Prop} (X : Cx p R s m args meth c jR0 prog_1_method_23_code 5 24 D ad cI cB A cells slots) (fu : Nat) (l3 : Int32) (kont : (Int64 → Int32 → Sg → Option (Int64 × Sg))) {K : (Int64 × Sg) → Prop} (hQ : RL p l e R s m args below meth c 5 D ad cI cB A cells slots Q prog_1_method_23_code K) (hk : ∀ (l1 : Int64) (l4 : Int32) (σ : Sg), wpO (kont l1 l4 σ) K → V p l e R s m args below meth c 5 D A cells slots Q (wl ad cI cB σ) 73 [(0, Value.ref (ad 0)), (1, Value.long l1), (3, Value.int l3), (4, Value.int l4)] []) : ∀ (n : Nat) (l1 : Int64) (l4 : Int32) (σ : Sg), wpO (Co_digest_L48 fu l3 kont n l1 l4 σ) K → V p l e R s m args below meth c 5 D A cells slots Q (wl ad cI cB σ) 48 [(0, Value.ref (ad 0)), (1, Value.long l1), (3, Value.int l3), (4, Value.int l4)] [] := by
  intro n
  induction n with
  | zero =>
    intro l1 l4 σ h
    exact (wp_none h).elim
  | succ n ih =>
    intro l1 l4 σ h
    rw [Co_digest_L48] at h
    refine V_iload X 3 d_Co_digest_48 rfl ?_
    refine V_iconst (v := 1) X d_Co_digest_50 (by decide) ?_
    refine V_icmp_gt X 73 d_Co_digest_51 (by decide) h (fun c8 h => ?_) (fun c8 h => ?_)
    · skip
      exact hk l1 l4 σ h
    · skip
      refine V_lload_n X 1 d_Co_digest_54 rfl ?_
      refine V_aload_n X 0 d_Co_digest_55 rfl ?_
      refine V_iload_n X 2 d_Co_digest_56 rfl ?_
      refine V_iload X 3 d_Co_digest_57 rfl ?_
      refine V_cP X h (fun r9 s10 q => C_V (q := 0) X [Value.int l3, Value.int l4] mt_Co_game ms_Co_game ml_Co_264 (k_Co_game fu σ l3 l4 r9 s10 q) rfl rfl (by omega) (Nat.le_of_ble_eq_true rfl) rfl (by decide) (by decide) (by decide) d_Co_digest_59) (fun r9 s10 h => ?_)
      refine V_i2l X d_Co_digest_62 ?_
      refine V_cL X h (fun r11 q => C_S X [Value.long l1, Value.long r9.toInt64] mt_Co_mixed ms_Co_mixed ml_Co_260 (k_Co_mixed s10 l1 r9.toInt64 r11 q) rfl rfl (by omega) (Nat.le_of_ble_eq_true rfl) d_Co_digest_63) (fun r11 h => ?_)
      refine V_lstore_n X [(1, Value.long r11), (0, Value.ref (ad 0)), (3, Value.int l3), (4, Value.int l4)] d_Co_digest_66 (by decide) rfl ?_
      refine V_iinc X 3 (l4 + (1 : Int32)) [(4, Value.int (l4 + (1 : Int32))), (1, Value.long r11), (0, Value.ref (ad 0)), (3, Value.int l3)] d_Co_digest_67 rfl (by first | rfl | decide) (by decide) rfl ?_
      refine V_goto X 48 d_Co_digest_70 (by decide) ?_
      refine V_sub (lv' := [(0, Value.ref (ad 0)), (1, Value.long r11), (3, Value.int l3), (4, Value.int (l4 + (1 : Int32)))]) [2, 1, 3, 0] rfl ?_
      exact ih r11 (l4 + (1 : Int32)) s10 h
set_option maxHeartbeats 4000000 in
set_option maxRecDepth 100000 in
theorem Co_digest_L6_ok {p : Program} {l : Launch} {e : Env} {R : Room} {s : State} {m : MethodId} {args : Array Value} {below : List Frame} {meth : Method} {c : Code} {D : va_G} {ad : Nat → Nat} {cI cB : ClassId} {A : Nat → Prop} {cells slots : Nat} {Q : State → Prop} (X : Cx p R s m args meth c jR0 prog_1_method_23_code 5 24 D ad cI cB A cells slots) (fu : Nat) (kont : (Int64 → Int32 → Sg → Option (Int64 × Sg))) {K : (Int64 × Sg) → Prop} (hQ : RL p l e R s m args below meth c 5 D ad cI cB A cells slots Q prog_1_method_23_code K) (hk : ∀ (l1 : Int64) (l3 : Int32) (σ : Sg), wpO (kont l1 l3 σ) K → V p l e R s m args below meth c 5 D A cells slots Q (wl ad cI cB σ) 79 [(0, Value.ref (ad 0)), (1, Value.long l1), (3, Value.int l3)] []) : ∀ (n : Nat) (l1 : Int64) (l3 : Int32) (σ : Sg), wpO (Co_digest_L6 fu kont n l1 l3 σ) K → V p l e R s m args below meth c 5 D A cells slots Q (wl ad cI cB σ) 6 [(0, Value.ref (ad 0)), (1, Value.long l1), (3, Value.int l3)] [] := by
  intro n
  induction n with
  | zero =>
    intro l1 l3 σ h
    exact (wp_none h).elim
  | succ n ih =>
    intro l1 l3 σ h
    rw [Co_digest_L6] at h
    refine V_iload_n X 2 d_Co_digest_6 rfl ?_
    refine V_aload_n X 0 d_Co_digest_7 rfl ?_
    refine V_getR X 0 2 5 rfl ji0 (by decide) (by decide) (by decide) fl_Co_28 d_Co_digest_8 (by decide) (by decide) (by decide) (by decide) ?_
    refine V_cI X h (fun r1 q => C_V (q := 3) X [] mt_Sh_trees ms_Sh_trees ml_Co_241 (k_Sh_trees σ 5 (by decide) (by decide) r1 q) rfl rfl (by omega) (Nat.le_of_ble_eq_true rfl) rfl (by decide) (by decide) (by decide) d_Co_digest_11) (fun r1 h => ?_)
    refine V_icmp_ge X 79 d_Co_digest_14 (by decide) h (fun c2 h => ?_) (fun c2 h => ?_)
    · skip
      exact hk l1 l3 σ h
    · skip
      refine V_iconst (v := 0) X d_Co_digest_17 (by decide) ?_
      refine V_istore X [(4, Value.int (0 : Int32)), (0, Value.ref (ad 0)), (1, Value.long l1), (3, Value.int l3)] d_Co_digest_18 (by decide) rfl ?_
      refine V_sub (lv' := [(0, Value.ref (ad 0)), (1, Value.long l1), (3, Value.int l3), (4, Value.int (0 : Int32))]) [1, 2, 3, 0] rfl ?_
      refine Co_digest_L20_ok X fu l3 σ _ hQ (fun l1_6 l4_7 h => ?_) fu l1 (0 : Int32) h
      refine V_iconst (v := 0) X d_Co_digest_45 (by decide) ?_
      refine V_istore X [(4, Value.int (0 : Int32)), (0, Value.ref (ad 0)), (1, Value.long l1_6), (3, Value.int l3)] d_Co_digest_46 (by decide) rfl ?_
      refine V_sub (lv' := [(0, Value.ref (ad 0)), (1, Value.long l1_6), (3, Value.int l3), (4, Value.int (0 : Int32))]) [1, 2, 3, 0] rfl ?_
      refine Co_digest_L48_ok X fu l3 _ hQ (fun l1_12 l4_13 s14 h => ?_) fu l1_6 (0 : Int32) σ h
      refine V_iinc X 2 (l3 + (1 : Int32)) [(3, Value.int (l3 + (1 : Int32))), (0, Value.ref (ad 0)), (1, Value.long l1_12), (4, Value.int l4_13)] d_Co_digest_73 rfl (by first | rfl | decide) (by decide) rfl ?_
      refine V_goto X 6 d_Co_digest_76 (by decide) ?_
      refine V_sub (lv' := [(0, Value.ref (ad 0)), (1, Value.long l1_12), (3, Value.int (l3 + (1 : Int32)))]) [1, 2, 0] rfl ?_
      exact ih l1_12 (l3 + (1 : Int32)) s14 h
set_option maxHeartbeats 4000000 in
set_option maxRecDepth 100000 in
theorem Co_digest_L95_ok {p : Program} {l : Launch} {e : Env} {R : Room} {s : State} {m : MethodId} {args : Array Value} {below : List Frame} {meth : Method} {c : Code} {D : va_G} {ad : Nat → Nat} {cI cB : ClassId} {A : Nat → Prop} {cells slots : Nat} {Q : State → Prop} (X : Cx p R s m args meth c jR0 prog_1_method_23_code 5 24 D ad cI cB A cells slots) (fu : Nat) (l3 : Int32) (σ : Sg) (kont : (Int64 → Int32 → Option (Int64 × Sg))) {K : (Int64 × Sg) → Prop} (hQ : RL p l e R s m args below meth c 5 D ad cI cB A cells slots Q prog_1_method_23_code K) (hk : ∀ (l1 : Int64) (l4 : Int32), wpO (kont l1 l4) K → V p l e R s m args below meth c 5 D A cells slots Q (wl ad cI cB σ) 121 [(0, Value.ref (ad 0)), (1, Value.long l1), (3, Value.int l3), (4, Value.int l4)] []) : ∀ (n : Nat) (l1 : Int64) (l4 : Int32), wpO (Co_digest_L95 fu l3 σ kont n l1 l4) K → V p l e R s m args below meth c 5 D A cells slots Q (wl ad cI cB σ) 95 [(0, Value.ref (ad 0)), (1, Value.long l1), (3, Value.int l3), (4, Value.int l4)] [] := by
  intro n
  induction n with
  | zero =>
    intro l1 l4 h
    exact (wp_none h).elim
  | succ n ih =>
    intro l1 l4 h
    rw [Co_digest_L95] at h
    refine V_iload X 3 d_Co_digest_95 rfl ?_
    refine V_bipush (v := 9) X d_Co_digest_97 (by decide) ?_
    refine V_icmp_gt X 121 d_Co_digest_99 (by decide) h (fun c20 h => ?_) (fun c20 h => ?_)
    · skip
      exact hk l1 l4 h
    · skip
      refine V_lload_n X 1 d_Co_digest_102 rfl ?_
      refine V_aload_n X 0 d_Co_digest_103 rfl ?_
      refine V_iload_n X 2 d_Co_digest_104 rfl ?_
      refine V_iload X 3 d_Co_digest_105 rfl ?_
      refine V_cI X h (fun r21 q => C_V (q := 0) X [Value.int l3, Value.int l4] mt_Co_suit ms_Co_suit ml_Co_267 (k_Co_suit fu σ l3 l4 r21 q) rfl rfl (by omega) (Nat.le_of_ble_eq_true rfl) rfl (by decide) (by decide) (by decide) d_Co_digest_107) (fun r21 h => ?_)
      refine V_i2l X d_Co_digest_110 ?_
      refine V_cL X h (fun r22 q => C_S X [Value.long l1, Value.long r21.toInt64] mt_Co_mixed ms_Co_mixed ml_Co_260 (k_Co_mixed σ l1 r21.toInt64 r22 q) rfl rfl (by omega) (Nat.le_of_ble_eq_true rfl) d_Co_digest_111) (fun r22 h => ?_)
      refine V_lstore_n X [(1, Value.long r22), (0, Value.ref (ad 0)), (3, Value.int l3), (4, Value.int l4)] d_Co_digest_114 (by decide) rfl ?_
      refine V_iinc X 3 (l4 + (1 : Int32)) [(4, Value.int (l4 + (1 : Int32))), (1, Value.long r22), (0, Value.ref (ad 0)), (3, Value.int l3)] d_Co_digest_115 rfl (by first | rfl | decide) (by decide) rfl ?_
      refine V_goto X 95 d_Co_digest_118 (by decide) ?_
      refine V_sub (lv' := [(0, Value.ref (ad 0)), (1, Value.long r22), (3, Value.int l3), (4, Value.int (l4 + (1 : Int32)))]) [2, 1, 3, 0] rfl ?_
      exact ih r22 (l4 + (1 : Int32)) h
set_option maxHeartbeats 4000000 in
set_option maxRecDepth 100000 in
theorem Co_digest_L124_ok {p : Program} {l : Launch} {e : Env} {R : Room} {s : State} {m : MethodId} {args : Array Value} {below : List Frame} {meth : Method} {c : Code} {D : va_G} {ad : Nat → Nat} {cI cB : ClassId} {A : Nat → Prop} {cells slots : Nat} {Q : State → Prop} (X : Cx p R s m args meth c jR0 prog_1_method_23_code 5 24 D ad cI cB A cells slots) (fu : Nat) (l3 : Int32) (σ : Sg) (kont : (Int64 → Int32 → Option (Int64 × Sg))) {K : (Int64 × Sg) → Prop} (hQ : RL p l e R s m args below meth c 5 D ad cI cB A cells slots Q prog_1_method_23_code K) (hk : ∀ (l1 : Int64) (l4 : Int32), wpO (kont l1 l4) K → V p l e R s m args below meth c 5 D A cells slots Q (wl ad cI cB σ) 151 [(0, Value.ref (ad 0)), (1, Value.long l1), (3, Value.int l3), (4, Value.int l4)] []) : ∀ (n : Nat) (l1 : Int64) (l4 : Int32), wpO (Co_digest_L124 fu l3 σ kont n l1 l4) K → V p l e R s m args below meth c 5 D A cells slots Q (wl ad cI cB σ) 124 [(0, Value.ref (ad 0)), (1, Value.long l1), (3, Value.int l3), (4, Value.int l4)] [] := by
  intro n
  induction n with
  | zero =>
    intro l1 l4 h
    exact (wp_none h).elim
  | succ n ih =>
    intro l1 l4 h
    rw [Co_digest_L124] at h
    refine V_iload X 3 d_Co_digest_124 rfl ?_
    refine V_iconst (v := 1) X d_Co_digest_126 (by decide) ?_
    refine V_icmp_gt X 151 d_Co_digest_127 (by decide) h (fun c25 h => ?_) (fun c25 h => ?_)
    · skip
      exact hk l1 l4 h
    · skip
      refine V_lload_n X 1 d_Co_digest_130 rfl ?_
      refine V_aload_n X 0 d_Co_digest_131 rfl ?_
      refine V_iload_n X 2 d_Co_digest_132 rfl ?_
      refine V_iconst (v := 0) X d_Co_digest_133 (by decide) ?_
      refine V_iconst (v := 2) X d_Co_digest_134 (by decide) ?_
      refine V_iload X 3 d_Co_digest_135 rfl ?_
      refine V_cI X h (fun r26 q => C_V (q := 0) X [Value.int l3, Value.int (0 : Int32), Value.int (2 : Int32), Value.int l4] mt_Co_odds ms_Co_odds ml_Co_270 (k_Co_odds fu σ l3 (0 : Int32) (2 : Int32) l4 r26 q) rfl rfl (by omega) (Nat.le_of_ble_eq_true rfl) rfl (by decide) (by decide) (by decide) d_Co_digest_137) (fun r26 h => ?_)
      refine V_i2l X d_Co_digest_140 ?_
      refine V_cL X h (fun r27 q => C_S X [Value.long l1, Value.long r26.toInt64] mt_Co_mixed ms_Co_mixed ml_Co_260 (k_Co_mixed σ l1 r26.toInt64 r27 q) rfl rfl (by omega) (Nat.le_of_ble_eq_true rfl) d_Co_digest_141) (fun r27 h => ?_)
      refine V_lstore_n X [(1, Value.long r27), (0, Value.ref (ad 0)), (3, Value.int l3), (4, Value.int l4)] d_Co_digest_144 (by decide) rfl ?_
      refine V_iinc X 3 (l4 + (1 : Int32)) [(4, Value.int (l4 + (1 : Int32))), (1, Value.long r27), (0, Value.ref (ad 0)), (3, Value.int l3)] d_Co_digest_145 rfl (by first | rfl | decide) (by decide) rfl ?_
      refine V_goto X 124 d_Co_digest_148 (by decide) ?_
      refine V_sub (lv' := [(0, Value.ref (ad 0)), (1, Value.long r27), (3, Value.int l3), (4, Value.int (l4 + (1 : Int32)))]) [2, 1, 3, 0] rfl ?_
      exact ih r27 (l4 + (1 : Int32)) h
set_option maxHeartbeats 4000000 in
set_option maxRecDepth 100000 in
theorem Co_digest_L81_ok {p : Program} {l : Launch} {e : Env} {R : Room} {s : State} {m : MethodId} {args : Array Value} {below : List Frame} {meth : Method} {c : Code} {D : va_G} {ad : Nat → Nat} {cI cB : ClassId} {A : Nat → Prop} {cells slots : Nat} {Q : State → Prop} (X : Cx p R s m args meth c jR0 prog_1_method_23_code 5 24 D ad cI cB A cells slots) (fu : Nat) (σ : Sg) (kont : (Int64 → Int32 → Option (Int64 × Sg))) {K : (Int64 × Sg) → Prop} (hQ : RL p l e R s m args below meth c 5 D ad cI cB A cells slots Q prog_1_method_23_code K) (hk : ∀ (l1 : Int64) (l3 : Int32), wpO (kont l1 l3) K → V p l e R s m args below meth c 5 D A cells slots Q (wl ad cI cB σ) 157 [(0, Value.ref (ad 0)), (1, Value.long l1), (3, Value.int l3)] []) : ∀ (n : Nat) (l1 : Int64) (l3 : Int32), wpO (Co_digest_L81 fu σ kont n l1 l3) K → V p l e R s m args below meth c 5 D A cells slots Q (wl ad cI cB σ) 81 [(0, Value.ref (ad 0)), (1, Value.long l1), (3, Value.int l3)] [] := by
  intro n
  induction n with
  | zero =>
    intro l1 l3 h
    exact (wp_none h).elim
  | succ n ih =>
    intro l1 l3 h
    rw [Co_digest_L81] at h
    refine V_iload_n X 2 d_Co_digest_81 rfl ?_
    refine V_aload_n X 0 d_Co_digest_82 rfl ?_
    refine V_getR X 0 2 5 rfl ji0 (by decide) (by decide) (by decide) fl_Co_28 d_Co_digest_83 (by decide) (by decide) (by decide) (by decide) ?_
    refine V_cI X h (fun r18 q => C_V (q := 3) X [] mt_Sh_suits ms_Sh_suits ml_Co_94 (k_Sh_suits σ 5 (by decide) (by decide) r18 q) rfl rfl (by omega) (Nat.le_of_ble_eq_true rfl) rfl (by decide) (by decide) (by decide) d_Co_digest_86) (fun r18 h => ?_)
    refine V_icmp_ge X 157 d_Co_digest_89 (by decide) h (fun c19 h => ?_) (fun c19 h => ?_)
    · skip
      exact hk l1 l3 h
    · skip
      refine V_iconst (v := 0) X d_Co_digest_92 (by decide) ?_
      refine V_istore X [(4, Value.int (0 : Int32)), (0, Value.ref (ad 0)), (1, Value.long l1), (3, Value.int l3)] d_Co_digest_93 (by decide) rfl ?_
      refine V_sub (lv' := [(0, Value.ref (ad 0)), (1, Value.long l1), (3, Value.int l3), (4, Value.int (0 : Int32))]) [1, 2, 3, 0] rfl ?_
      refine Co_digest_L95_ok X fu l3 σ _ hQ (fun l1_23 l4_24 h => ?_) fu l1 (0 : Int32) h
      refine V_iconst (v := 0) X d_Co_digest_121 (by decide) ?_
      refine V_istore X [(4, Value.int (0 : Int32)), (0, Value.ref (ad 0)), (1, Value.long l1_23), (3, Value.int l3)] d_Co_digest_122 (by decide) rfl ?_
      refine V_sub (lv' := [(0, Value.ref (ad 0)), (1, Value.long l1_23), (3, Value.int l3), (4, Value.int (0 : Int32))]) [1, 2, 3, 0] rfl ?_
      refine Co_digest_L124_ok X fu l3 σ _ hQ (fun l1_28 l4_29 h => ?_) fu l1_23 (0 : Int32) h
      refine V_iinc X 2 (l3 + (1 : Int32)) [(3, Value.int (l3 + (1 : Int32))), (0, Value.ref (ad 0)), (1, Value.long l1_28), (4, Value.int l4_29)] d_Co_digest_151 rfl (by first | rfl | decide) (by decide) rfl ?_
      refine V_goto X 81 d_Co_digest_154 (by decide) ?_
      refine V_sub (lv' := [(0, Value.ref (ad 0)), (1, Value.long l1_28), (3, Value.int (l3 + (1 : Int32)))]) [1, 2, 0] rfl ?_
      exact ih l1_28 (l3 + (1 : Int32)) h
set_option maxHeartbeats 4000000 in
set_option maxRecDepth 100000 in
theorem Co_digest_L159_ok {p : Program} {l : Launch} {e : Env} {R : Room} {s : State} {m : MethodId} {args : Array Value} {below : List Frame} {meth : Method} {c : Code} {D : va_G} {ad : Nat → Nat} {cI cB : ClassId} {A : Nat → Prop} {cells slots : Nat} {Q : State → Prop} (X : Cx p R s m args meth c jR0 prog_1_method_23_code 5 24 D ad cI cB A cells slots) (fu : Nat) (σ : Sg) (kont : (Int64 → Int32 → Option (Int64 × Sg))) {K : (Int64 × Sg) → Prop} (hQ : RL p l e R s m args below meth c 5 D ad cI cB A cells slots Q prog_1_method_23_code K) (hk : ∀ (l1 : Int64) (l3 : Int32), wpO (kont l1 l3) K → V p l e R s m args below meth c 5 D A cells slots Q (wl ad cI cB σ) 190 [(0, Value.ref (ad 0)), (1, Value.long l1), (3, Value.int l3)] []) : ∀ (n : Nat) (l1 : Int64) (l3 : Int32), wpO (Co_digest_L159 fu σ kont n l1 l3) K → V p l e R s m args below meth c 5 D A cells slots Q (wl ad cI cB σ) 159 [(0, Value.ref (ad 0)), (1, Value.long l1), (3, Value.int l3)] [] := by
  intro n
  induction n with
  | zero =>
    intro l1 l3 h
    exact (wp_none h).elim
  | succ n ih =>
    intro l1 l3 h
    rw [Co_digest_L159] at h
    refine V_iload_n X 2 d_Co_digest_159 rfl ?_
    refine V_aload_n X 0 d_Co_digest_160 rfl ?_
    refine V_getR X 0 0 1 rfl ji0 (by decide) (by decide) (by decide) fl_Co_10 d_Co_digest_161 (by decide) (by decide) (by decide) (by decide) ?_
    refine V_cI X h (fun r32 q => C_V (q := 1) X [] mt_Pg_size ms_Pg_size ml_Co_65 (k_Pg_size σ r32 q) rfl rfl (by omega) (Nat.le_of_ble_eq_true rfl) rfl (by decide) (by decide) (by decide) d_Co_digest_164) (fun r32 h => ?_)
    refine V_icmp_ge X 190 d_Co_digest_167 (by decide) h (fun c33 h => ?_) (fun c33 h => ?_)
    · skip
      exact hk l1 l3 h
    · skip
      refine V_lload_n X 1 d_Co_digest_170 rfl ?_
      refine V_aload_n X 0 d_Co_digest_171 rfl ?_
      refine V_getR X 0 0 1 rfl ji0 (by decide) (by decide) (by decide) fl_Co_10 d_Co_digest_172 (by decide) (by decide) (by decide) (by decide) ?_
      refine V_iload_n X 2 d_Co_digest_175 rfl ?_
      refine V_cI X h (fun r34 q => C_V (q := 1) X [Value.int l3] mt_Pg_code ms_Pg_code ml_Co_273 (k_Pg_code σ l3 r34 q) rfl rfl (by omega) (Nat.le_of_ble_eq_true rfl) rfl (by decide) (by decide) (by decide) d_Co_digest_176) (fun r34 h => ?_)
      refine V_i2l X d_Co_digest_179 ?_
      refine V_cL X h (fun r35 q => C_S X [Value.long l1, Value.long r34.toInt64] mt_Co_mixed ms_Co_mixed ml_Co_260 (k_Co_mixed σ l1 r34.toInt64 r35 q) rfl rfl (by omega) (Nat.le_of_ble_eq_true rfl) d_Co_digest_180) (fun r35 h => ?_)
      refine V_lstore_n X [(1, Value.long r35), (0, Value.ref (ad 0)), (3, Value.int l3)] d_Co_digest_183 (by decide) rfl ?_
      refine V_iinc X 2 (l3 + (1 : Int32)) [(3, Value.int (l3 + (1 : Int32))), (1, Value.long r35), (0, Value.ref (ad 0))] d_Co_digest_184 rfl (by first | rfl | decide) (by decide) rfl ?_
      refine V_goto X 159 d_Co_digest_187 (by decide) ?_
      refine V_sub (lv' := [(0, Value.ref (ad 0)), (1, Value.long r35), (3, Value.int (l3 + (1 : Int32)))]) [2, 1, 0] rfl ?_
      exact ih r35 (l3 + (1 : Int32)) h
set_option maxHeartbeats 4000000 in
set_option maxRecDepth 100000 in
theorem Co_digest_L192_ok {p : Program} {l : Launch} {e : Env} {R : Room} {s : State} {m : MethodId} {args : Array Value} {below : List Frame} {meth : Method} {c : Code} {D : va_G} {ad : Nat → Nat} {cI cB : ClassId} {A : Nat → Prop} {cells slots : Nat} {Q : State → Prop} (X : Cx p R s m args meth c jR0 prog_1_method_23_code 5 24 D ad cI cB A cells slots) (fu : Nat) (σ : Sg) (kont : (Int64 → Int32 → Option (Int64 × Sg))) {K : (Int64 × Sg) → Prop} (hQ : RL p l e R s m args below meth c 5 D ad cI cB A cells slots Q prog_1_method_23_code K) (hk : ∀ (l1 : Int64) (l3 : Int32), wpO (kont l1 l3) K → V p l e R s m args below meth c 5 D A cells slots Q (wl ad cI cB σ) 215 [(0, Value.ref (ad 0)), (1, Value.long l1), (3, Value.int l3)] []) : ∀ (n : Nat) (l1 : Int64) (l3 : Int32), wpO (Co_digest_L192 fu σ kont n l1 l3) K → V p l e R s m args below meth c 5 D A cells slots Q (wl ad cI cB σ) 192 [(0, Value.ref (ad 0)), (1, Value.long l1), (3, Value.int l3)] [] := by
  intro n
  induction n with
  | zero =>
    intro l1 l3 h
    exact (wp_none h).elim
  | succ n ih =>
    intro l1 l3 h
    rw [Co_digest_L192] at h
    refine V_iload_n X 2 d_Co_digest_192 rfl ?_
    refine V_bipush (v := 11) X d_Co_digest_193 (by decide) ?_
    refine V_icmp_gt X 215 d_Co_digest_195 (by decide) h (fun c38 h => ?_) (fun c38 h => ?_)
    · skip
      exact hk l1 l3 h
    · skip
      refine V_lload_n X 1 d_Co_digest_198 rfl ?_
      refine V_aload_n X 0 d_Co_digest_199 rfl ?_
      refine V_iload_n X 2 d_Co_digest_200 rfl ?_
      refine V_cI X h (fun r39 q => C_V (q := 0) X [Value.int l3] mt_Co_count ms_Co_count ml_Co_276 (k_Co_count fu σ l3 r39 q) rfl rfl (by omega) (Nat.le_of_ble_eq_true rfl) rfl (by decide) (by decide) (by decide) d_Co_digest_201) (fun r39 h => ?_)
      refine V_i2l X d_Co_digest_204 ?_
      refine V_cL X h (fun r40 q => C_S X [Value.long l1, Value.long r39.toInt64] mt_Co_mixed ms_Co_mixed ml_Co_260 (k_Co_mixed σ l1 r39.toInt64 r40 q) rfl rfl (by omega) (Nat.le_of_ble_eq_true rfl) d_Co_digest_205) (fun r40 h => ?_)
      refine V_lstore_n X [(1, Value.long r40), (0, Value.ref (ad 0)), (3, Value.int l3)] d_Co_digest_208 (by decide) rfl ?_
      refine V_iinc X 2 (l3 + (1 : Int32)) [(3, Value.int (l3 + (1 : Int32))), (1, Value.long r40), (0, Value.ref (ad 0))] d_Co_digest_209 rfl (by first | rfl | decide) (by decide) rfl ?_
      refine V_goto X 192 d_Co_digest_212 (by decide) ?_
      refine V_sub (lv' := [(0, Value.ref (ad 0)), (1, Value.long r40), (3, Value.int (l3 + (1 : Int32)))]) [2, 1, 0] rfl ?_
      exact ih r40 (l3 + (1 : Int32)) h
set_option maxHeartbeats 4000000 in
set_option maxRecDepth 100000 in
theorem k_Co_digest (fu : Nat) (σ : Sg) (r : Int64) (σ' : Sg) (h : Co_digest fu σ = some (r, σ')) : Evc y_Co_digest prog_1_method_23_code 5 (some .long) 24 (fun ad => [Value.ref (ad 0)]) σ σ' (fun _ => some (.long r)) := by
  refine Evc_ofL (by decide) (fun ad => Nat.le_of_ble_eq_true rfl) (fun p l e R s m args below meth c D ad cI cB A Q X hQ => ?_)
  have X : Cx p R s m args meth c jR0 prog_1_method_23_code 5 24 D ad cI cB A 0 0 := X
  have h : wpO (Co_digest fu σ) (fun q => q = (r, σ')) := ⟨_, h, rfl⟩
  rw [Co_digest] at h
  refine V_sub (lv' := [(0, Value.ref (ad 0))]) [0] rfl ?_
  refine V_ldc2 X d_Co_digest_0 kl_Co_255 ?_
  refine V_lstore_n X [(1, Value.long (1229 : Int64)), (0, Value.ref (ad 0))] d_Co_digest_3 (by decide) rfl ?_
  refine V_iconst (v := 0) X d_Co_digest_4 (by decide) ?_
  refine V_istore_n X [(3, Value.int (0 : Int32)), (1, Value.long (1229 : Int64)), (0, Value.ref (ad 0))] d_Co_digest_5 (by decide) rfl ?_
  refine V_sub (lv' := [(0, Value.ref (ad 0)), (1, Value.long (1229 : Int64)), (3, Value.int (0 : Int32))]) [2, 1, 0] rfl ?_
  refine Co_digest_L6_ok X fu _ hQ (fun l1_15 l3_16 s17 h => ?_) fu (1229 : Int64) (0 : Int32) σ h
  refine V_iconst (v := 0) X d_Co_digest_79 (by decide) ?_
  refine V_istore_n X [(3, Value.int (0 : Int32)), (0, Value.ref (ad 0)), (1, Value.long l1_15)] d_Co_digest_80 (by decide) rfl ?_
  refine V_sub (lv' := [(0, Value.ref (ad 0)), (1, Value.long l1_15), (3, Value.int (0 : Int32))]) [1, 2, 0] rfl ?_
  refine Co_digest_L81_ok X fu s17 _ hQ (fun l1_30 l3_31 h => ?_) fu l1_15 (0 : Int32) h
  refine V_iconst (v := 0) X d_Co_digest_157 (by decide) ?_
  refine V_istore_n X [(3, Value.int (0 : Int32)), (0, Value.ref (ad 0)), (1, Value.long l1_30)] d_Co_digest_158 (by decide) rfl ?_
  refine V_sub (lv' := [(0, Value.ref (ad 0)), (1, Value.long l1_30), (3, Value.int (0 : Int32))]) [1, 2, 0] rfl ?_
  refine Co_digest_L159_ok X fu s17 _ hQ (fun l1_36 l3_37 h => ?_) fu l1_30 (0 : Int32) h
  refine V_iconst (v := 0) X d_Co_digest_190 (by decide) ?_
  refine V_istore_n X [(3, Value.int (0 : Int32)), (0, Value.ref (ad 0)), (1, Value.long l1_36)] d_Co_digest_191 (by decide) rfl ?_
  refine V_sub (lv' := [(0, Value.ref (ad 0)), (1, Value.long l1_36), (3, Value.int (0 : Int32))]) [1, 2, 0] rfl ?_
  refine Co_digest_L192_ok X fu s17 _ hQ (fun l1_41 l3_42 h => ?_) fu l1_36 (0 : Int32) h
  refine V_lload_n X 1 d_Co_digest_215 rfl ?_
  have h9 := wp_some h
  exact hQ _ _ h9 _ _ d_Co_digest_216
set_option maxHeartbeats 4000000 in
set_option maxRecDepth 100000 in
theorem k_Rd_isDigit (σ : Sg) (a0 : Int32) (a1 : Int32) (a2 : Int32) (r : Int32) (h : Rd_isDigit a0 a1 a2 = some r) : Evc y_Rd_isDigit prog_8_method_10_code 3 (some .boolean) 1 (fun ad => [Value.int a0, Value.int a1, Value.int a2]) σ σ (fun _ => some (.int r)) := by
  refine Evc_ofZ (by decide) (fun ad => Nat.le_of_ble_eq_true rfl) (fun p l e R s m args below meth c D ad cI cB A Q X hQ => ?_)
  have X : Cx p R s m args meth c jR2 prog_8_method_10_code 3 1 D ad cI cB A 0 0 := X
  have hQ := hQ.pure
  have h : wpO (Rd_isDigit a0 a1 a2) (fun q => q = r) := ⟨_, h, rfl⟩
  rw [Rd_isDigit] at h
  refine V_sub (lv' := [(0, Value.int a0), (1, Value.int a1), (2, Value.int a2)]) [0, 1, 2] rfl ?_
  refine V_iload_n X 0 d_Rd_isDigit_0 rfl ?_
  refine V_bipush (v := 48) X d_Rd_isDigit_1 (by decide) ?_
  refine V_iload_n X 1 d_Rd_isDigit_3 rfl ?_
  refine V_iadd X d_Rd_isDigit_4 ?_
  refine V_icmp_lt X 20 d_Rd_isDigit_5 (by decide) h (fun c1 h => ?_) (fun c1 h => ?_)
  · skip
    refine V_iconst (v := 0) X d_Rd_isDigit_20 (by decide) ?_
    have h9 := wp_some h
    exact hQ _ h9 (fun _ => by decide) _ _ d_Rd_isDigit_21
  · skip
    refine V_iload_n X 0 d_Rd_isDigit_8 rfl ?_
    refine V_bipush (v := 48) X d_Rd_isDigit_9 (by decide) ?_
    refine V_iload_n X 2 d_Rd_isDigit_11 rfl ?_
    refine V_iadd X d_Rd_isDigit_12 ?_
    refine V_icmp_gt X 20 d_Rd_isDigit_13 (by decide) h (fun c2 h => ?_) (fun c2 h => ?_)
    · skip
      refine V_iconst (v := 0) X d_Rd_isDigit_20 (by decide) ?_
      have h9 := wp_some h
      exact hQ _ h9 (fun _ => by decide) _ _ d_Rd_isDigit_21
    · skip
      refine V_iconst (v := 1) X d_Rd_isDigit_16 (by decide) ?_
      refine V_goto X 21 d_Rd_isDigit_17 (by decide) ?_
      have h9 := wp_some h
      exact hQ _ h9 (fun _ => by decide) _ _ d_Rd_isDigit_21
set_option maxHeartbeats 4000000 in
set_option maxRecDepth 100000 in
theorem k_Rd_goesOn (σ : Sg) (a0 : Int32) (a1 : Int32) (r : Int32) (σ' : Sg) (h : Rd_goesOn σ a0 a1 = some (r, σ')) : Evc y_Rd_goesOn prog_8_method_9_code 3 (some .boolean) 1 (fun ad => [Value.ref (ad 4), Value.int a0, Value.int a1]) σ σ' (fun _ => some (.int r)) := by
  refine Evc_ofZ (by decide) (fun ad => Nat.le_of_ble_eq_true rfl) (fun p l e R s m args below meth c D ad cI cB A Q X hQ => ?_)
  have X : Cx p R s m args meth c jR2 prog_8_method_9_code 3 1 D ad cI cB A 0 0 := X
  have h : wpO (Rd_goesOn σ a0 a1) (fun q => q = (r, σ')) := ⟨_, h, rfl⟩
  rw [Rd_goesOn] at h
  refine V_sub (lv' := [(0, Value.ref (ad 4)), (1, Value.int a0), (2, Value.int a1)]) [0, 1, 2] rfl ?_
  refine V_iload_n X 1 d_Rd_goesOn_0 rfl ?_
  refine V_if_eq X 9 d_Rd_goesOn_1 (by decide) h (fun c1 h => ?_) (fun c1 h => ?_)
  · skip
    refine V_iload_n X 1 d_Rd_goesOn_9 rfl ?_
    obtain ⟨hz, h⟩ := wp_if h
    have h9 := wp_some h
    exact hQ _ _ h9 (fun _ => hz) _ _ d_Rd_goesOn_10
  · skip
    refine V_aload_n X 0 d_Rd_goesOn_4 rfl ?_
    refine V_iload_n X 2 d_Rd_goesOn_5 rfl ?_
    refine V_putI X 2 1 rfl ji2 jk2 jn2 (by decide) (by decide) (by decide) rfl (by decide +kernel) fl_Rd_15 d_Rd_goesOn_6 (by decide) (by decide) (by decide) ?_
    refine V_iload_n X 1 d_Rd_goesOn_9 rfl ?_
    obtain ⟨hz, h⟩ := wp_if h
    have h9 := wp_some h
    exact hQ _ _ h9 (fun _ => hz) _ _ d_Rd_goesOn_10
set_option maxHeartbeats 4000000 in
set_option maxRecDepth 100000 in
theorem k_Rd_takesDigitOfTree (σ : Sg) (a0 : Int32) (r : Int32) (σ' : Sg) (h : Rd_takesDigitOfTree σ a0 = some (r, σ')) : Evc y_Rd_takesDigitOfTree prog_8_method_6_code 3 (some .boolean) 2 (fun ad => [Value.ref (ad 4), Value.int a0]) σ σ' (fun _ => some (.int r)) := by
  refine Evc_ofZ (by decide) (fun ad => Nat.le_of_ble_eq_true rfl) (fun p l e R s m args below meth c D ad cI cB A Q X hQ => ?_)
  have X : Cx p R s m args meth c jR2 prog_8_method_6_code 3 2 D ad cI cB A 0 0 := X
  have h : wpO (Rd_takesDigitOfTree σ a0) (fun q => q = (r, σ')) := ⟨_, h, rfl⟩
  rw [Rd_takesDigitOfTree] at h
  refine V_sub (lv' := [(0, Value.ref (ad 4)), (1, Value.int a0)]) [0, 1] rfl ?_
  refine V_iload_n X 1 d_Rd_takesDigitOfTree_0 rfl ?_
  refine V_iconst (v := 0) X d_Rd_takesDigitOfTree_1 (by decide) ?_
  refine V_bipush (v := 9) X d_Rd_takesDigitOfTree_2 (by decide) ?_
  refine V_cI X h (fun r1 q => C_S X [Value.int a0, Value.int (0 : Int32), Value.int (9 : Int32)] mt_Rd_isDigit ms_Rd_isDigit ml_Rd_75 (k_Rd_isDigit σ a0 (0 : Int32) (9 : Int32) r1 q) rfl rfl (by omega) (Nat.le_of_ble_eq_true rfl) d_Rd_takesDigitOfTree_4) (fun r1 h => ?_)
  refine V_istore_n X [(2, Value.int r1), (0, Value.ref (ad 4)), (1, Value.int a0)] d_Rd_takesDigitOfTree_7 (by decide) rfl ?_
  refine V_aload_n X 1 d_Rd_takesDigitOfTree_8 rfl ?_
  refine V_getI X 2 1 rfl ji2 (by decide) (by decide) (by decide) fl_Rd_15 d_Rd_takesDigitOfTree_9 (by decide) (by decide) (by decide) ?_
  refine V_if_ne X 22 d_Rd_takesDigitOfTree_12 (by decide) h (fun c2 h => ?_) (fun c2 h => ?_)
  · skip
    refine V_aload_n X 1 d_Rd_takesDigitOfTree_22 rfl ?_
    refine V_dup X d_Rd_takesDigitOfTree_23 rfl ?_
    refine V_getI X 2 2 rfl ji2 (by decide) (by decide) (by decide) fl_Rd_19 d_Rd_takesDigitOfTree_24 (by decide) (by decide) (by decide) ?_
    refine V_iload_n X 0 d_Rd_takesDigitOfTree_27 rfl ?_
    refine V_if_eq X 35 d_Rd_takesDigitOfTree_28 (by decide) h (fun c3 h => ?_) (fun c3 h => ?_)
    · skip
      refine V_iconst (v := 0) X d_Rd_takesDigitOfTree_35 (by decide) ?_
      refine V_iadd X d_Rd_takesDigitOfTree_36 ?_
      refine V_putI X 2 2 rfl ji2 jk2 jn2 (by decide) (by decide) (by decide) rfl (by decide +kernel) fl_Rd_19 d_Rd_takesDigitOfTree_37 (by decide) (by decide) (by decide) ?_
      refine V_aload_n X 1 d_Rd_takesDigitOfTree_40 rfl ?_
      refine V_iload_n X 0 d_Rd_takesDigitOfTree_41 rfl ?_
      refine V_iconst (v := 2) X d_Rd_takesDigitOfTree_42 (by decide) ?_
      refine V_cP X h (fun r4 s5 q => C_V (q := 2) X [Value.int r1, Value.int (2 : Int32)] mt_Rd_goesOn ms_Rd_goesOn ml_Rd_71 (k_Rd_goesOn (sF σ 4 2 ((gF σ 4 2) + (0 : Int32))) r1 (2 : Int32) r4 s5 q) rfl rfl (by omega) (Nat.le_of_ble_eq_true rfl) rfl (by decide) (by decide) (by decide) d_Rd_takesDigitOfTree_43) (fun r4 s5 h => ?_)
      obtain ⟨hz, h⟩ := wp_if h
      have h9 := wp_some h
      exact hQ _ _ h9 (fun _ => hz) _ _ d_Rd_takesDigitOfTree_46
    · skip
      refine V_iconst (v := 1) X d_Rd_takesDigitOfTree_31 (by decide) ?_
      refine V_goto X 36 d_Rd_takesDigitOfTree_32 (by decide) ?_
      refine V_iadd X d_Rd_takesDigitOfTree_36 ?_
      refine V_putI X 2 2 rfl ji2 jk2 jn2 (by decide) (by decide) (by decide) rfl (by decide +kernel) fl_Rd_19 d_Rd_takesDigitOfTree_37 (by decide) (by decide) (by decide) ?_
      refine V_aload_n X 1 d_Rd_takesDigitOfTree_40 rfl ?_
      refine V_iload_n X 0 d_Rd_takesDigitOfTree_41 rfl ?_
      refine V_iconst (v := 2) X d_Rd_takesDigitOfTree_42 (by decide) ?_
      refine V_cP X h (fun r6 s7 q => C_V (q := 2) X [Value.int r1, Value.int (2 : Int32)] mt_Rd_goesOn ms_Rd_goesOn ml_Rd_71 (k_Rd_goesOn (sF σ 4 2 ((gF σ 4 2) + (1 : Int32))) r1 (2 : Int32) r6 s7 q) rfl rfl (by omega) (Nat.le_of_ble_eq_true rfl) rfl (by decide) (by decide) (by decide) d_Rd_takesDigitOfTree_43) (fun r6 s7 h => ?_)
      obtain ⟨hz, h⟩ := wp_if h
      have h9 := wp_some h
      exact hQ _ _ h9 (fun _ => hz) _ _ d_Rd_takesDigitOfTree_46
  · skip
    refine V_aload_n X 1 d_Rd_takesDigitOfTree_15 rfl ?_
    refine V_iload_n X 0 d_Rd_takesDigitOfTree_16 rfl ?_
    refine V_iconst (v := 1) X d_Rd_takesDigitOfTree_17 (by decide) ?_
    refine V_cP X h (fun r8 s9 q => C_V (q := 2) X [Value.int r1, Value.int (1 : Int32)] mt_Rd_goesOn ms_Rd_goesOn ml_Rd_71 (k_Rd_goesOn σ r1 (1 : Int32) r8 s9 q) rfl rfl (by omega) (Nat.le_of_ble_eq_true rfl) rfl (by decide) (by decide) (by decide) d_Rd_takesDigitOfTree_18) (fun r8 s9 h => ?_)
    obtain ⟨hz, h⟩ := wp_if h
    have h9 := wp_some h
    exact hQ _ _ h9 (fun _ => hz) _ _ d_Rd_takesDigitOfTree_21
set_option maxHeartbeats 4000000 in
set_option maxRecDepth 100000 in
theorem k_Rd_takesTreeEnd (σ : Sg) (a0 : Int32) (r : Int32) (σ' : Sg) (h : Rd_takesTreeEnd σ a0 = some (r, σ')) : Evc y_Rd_takesTreeEnd prog_8_method_7_code 2 (some .boolean) 2 (fun ad => [Value.ref (ad 4), Value.int a0]) σ σ' (fun _ => some (.int r)) := by
  refine Evc_ofZ (by decide) (fun ad => Nat.le_of_ble_eq_true rfl) (fun p l e R s m args below meth c D ad cI cB A Q X hQ => ?_)
  have X : Cx p R s m args meth c jR2 prog_8_method_7_code 2 2 D ad cI cB A 0 0 := X
  have h : wpO (Rd_takesTreeEnd σ a0) (fun q => q = (r, σ')) := ⟨_, h, rfl⟩
  rw [Rd_takesTreeEnd] at h
  refine V_sub (lv' := [(0, Value.ref (ad 4)), (1, Value.int a0)]) [0, 1] rfl ?_
  refine V_iload_n X 1 d_Rd_takesTreeEnd_0 rfl ?_
  refine V_bipush (v := 59) X d_Rd_takesTreeEnd_1 (by decide) ?_
  refine V_icmp_ne X 13 d_Rd_takesTreeEnd_3 (by decide) h (fun c1 h => ?_) (fun c1 h => ?_)
  · skip
    refine V_aload_n X 0 d_Rd_takesTreeEnd_13 rfl ?_
    refine V_iload_n X 1 d_Rd_takesTreeEnd_14 rfl ?_
    refine V_bipush (v := 44) X d_Rd_takesTreeEnd_15 (by decide) ?_
    refine V_icmp_ne X 32 d_Rd_takesTreeEnd_17 (by decide) h (fun c2 h => ?_) (fun c2 h => ?_)
    · skip
      refine V_iconst (v := 0) X d_Rd_takesTreeEnd_32 (by decide) ?_
      refine V_iconst (v := 0) X d_Rd_takesTreeEnd_33 (by decide) ?_
      refine V_cP X h (fun r3 s4 q => C_V (q := 2) X [Value.int (0 : Int32), Value.int (0 : Int32)] mt_Rd_goesOn ms_Rd_goesOn ml_Rd_71 (k_Rd_goesOn σ (0 : Int32) (0 : Int32) r3 s4 q) rfl rfl (by omega) (Nat.le_of_ble_eq_true rfl) rfl (by decide) (by decide) (by decide) d_Rd_takesTreeEnd_34) (fun r3 s4 h => ?_)
      obtain ⟨hz, h⟩ := wp_if h
      have h9 := wp_some h
      exact hQ _ _ h9 (fun _ => hz) _ _ d_Rd_takesTreeEnd_37
    · skip
      refine V_aload_n X 0 d_Rd_takesTreeEnd_20 rfl ?_
      refine V_getI X 2 2 rfl ji2 (by decide) (by decide) (by decide) fl_Rd_19 d_Rd_takesTreeEnd_21 (by decide) (by decide) (by decide) ?_
      refine V_iconst (v := 3) X d_Rd_takesTreeEnd_24 (by decide) ?_
      refine V_icmp_ge X 32 d_Rd_takesTreeEnd_25 (by decide) h (fun c5 h => ?_) (fun c5 h => ?_)
      · skip
        refine V_iconst (v := 0) X d_Rd_takesTreeEnd_32 (by decide) ?_
        refine V_iconst (v := 0) X d_Rd_takesTreeEnd_33 (by decide) ?_
        refine V_cP X h (fun r6 s7 q => C_V (q := 2) X [Value.int (0 : Int32), Value.int (0 : Int32)] mt_Rd_goesOn ms_Rd_goesOn ml_Rd_71 (k_Rd_goesOn σ (0 : Int32) (0 : Int32) r6 s7 q) rfl rfl (by omega) (Nat.le_of_ble_eq_true rfl) rfl (by decide) (by decide) (by decide) d_Rd_takesTreeEnd_34) (fun r6 s7 h => ?_)
        obtain ⟨hz, h⟩ := wp_if h
        have h9 := wp_some h
        exact hQ _ _ h9 (fun _ => hz) _ _ d_Rd_takesTreeEnd_37
      · skip
        refine V_iconst (v := 1) X d_Rd_takesTreeEnd_28 (by decide) ?_
        refine V_goto X 33 d_Rd_takesTreeEnd_29 (by decide) ?_
        refine V_iconst (v := 0) X d_Rd_takesTreeEnd_33 (by decide) ?_
        refine V_cP X h (fun r8 s9 q => C_V (q := 2) X [Value.int (1 : Int32), Value.int (0 : Int32)] mt_Rd_goesOn ms_Rd_goesOn ml_Rd_71 (k_Rd_goesOn σ (1 : Int32) (0 : Int32) r8 s9 q) rfl rfl (by omega) (Nat.le_of_ble_eq_true rfl) rfl (by decide) (by decide) (by decide) d_Rd_takesTreeEnd_34) (fun r8 s9 h => ?_)
        obtain ⟨hz, h⟩ := wp_if h
        have h9 := wp_some h
        exact hQ _ _ h9 (fun _ => hz) _ _ d_Rd_takesTreeEnd_37
  · skip
    refine V_aload_n X 0 d_Rd_takesTreeEnd_6 rfl ?_
    refine V_iconst (v := 1) X d_Rd_takesTreeEnd_7 (by decide) ?_
    refine V_iconst (v := 3) X d_Rd_takesTreeEnd_8 (by decide) ?_
    refine V_cP X h (fun r10 s11 q => C_V (q := 2) X [Value.int (1 : Int32), Value.int (3 : Int32)] mt_Rd_goesOn ms_Rd_goesOn ml_Rd_71 (k_Rd_goesOn σ (1 : Int32) (3 : Int32) r10 s11 q) rfl rfl (by omega) (Nat.le_of_ble_eq_true rfl) rfl (by decide) (by decide) (by decide) d_Rd_takesTreeEnd_9) (fun r10 s11 h => ?_)
    obtain ⟨hz, h⟩ := wp_if h
    have h9 := wp_some h
    exact hQ _ _ h9 (fun _ => hz) _ _ d_Rd_takesTreeEnd_12
set_option maxHeartbeats 4000000 in
set_option maxRecDepth 100000 in
theorem k_Rd_takesHang (σ : Sg) (a0 : Int32) (r : Int32) (σ' : Sg) (h : Rd_takesHang σ a0 = some (r, σ')) : Evc y_Rd_takesHang prog_8_method_8_code 3 (some .boolean) 2 (fun ad => [Value.ref (ad 4), Value.int a0]) σ σ' (fun _ => some (.int r)) := by
  refine Evc_ofZ (by decide) (fun ad => Nat.le_of_ble_eq_true rfl) (fun p l e R s m args below meth c D ad cI cB A Q X hQ => ?_)
  have X : Cx p R s m args meth c jR2 prog_8_method_8_code 3 2 D ad cI cB A 0 0 := X
  have h : wpO (Rd_takesHang σ a0) (fun q => q = (r, σ')) := ⟨_, h, rfl⟩
  rw [Rd_takesHang] at h
  refine V_sub (lv' := [(0, Value.ref (ad 4)), (1, Value.int a0)]) [0, 1] rfl ?_
  refine V_iload_n X 1 d_Rd_takesHang_0 rfl ?_
  refine V_bipush (v := 45) X d_Rd_takesHang_1 (by decide) ?_
  refine V_icmp_eq X 20 d_Rd_takesHang_3 (by decide) h (fun c1 h => ?_) (fun c1 h => ?_)
  · skip
    refine V_iconst (v := 1) X d_Rd_takesHang_20 (by decide) ?_
    refine V_goto X 25 d_Rd_takesHang_21 (by decide) ?_
    refine V_istore_n X [(2, Value.int (1 : Int32)), (0, Value.ref (ad 4)), (1, Value.int a0)] d_Rd_takesHang_25 (by decide) rfl ?_
    refine V_aload_n X 1 d_Rd_takesHang_26 rfl ?_
    refine V_dup X d_Rd_takesHang_27 rfl ?_
    refine V_getI X 2 3 rfl ji2 (by decide) (by decide) (by decide) fl_Rd_22 d_Rd_takesHang_28 (by decide) (by decide) (by decide) ?_
    refine V_iload_n X 0 d_Rd_takesHang_31 rfl ?_
    refine V_if_eqF X d_Rd_takesHang_32 39 (by decide) (by decide) ?_
    refine V_iconst (v := 1) X d_Rd_takesHang_35 (by decide) ?_
    refine V_goto X 40 d_Rd_takesHang_36 (by decide) ?_
    refine V_iadd X d_Rd_takesHang_40 ?_
    refine V_putI X 2 3 rfl ji2 jk2 jn2 (by decide) (by decide) (by decide) rfl (by decide +kernel) fl_Rd_22 d_Rd_takesHang_41 (by decide) (by decide) (by decide) ?_
    refine V_aload_n X 1 d_Rd_takesHang_44 rfl ?_
    refine V_iload_n X 0 d_Rd_takesHang_45 rfl ?_
    refine V_bipush (v := 7) X d_Rd_takesHang_46 (by decide) ?_
    refine V_cP X h (fun r2 s3 q => C_V (q := 2) X [Value.int (1 : Int32), Value.int (7 : Int32)] mt_Rd_goesOn ms_Rd_goesOn ml_Rd_71 (k_Rd_goesOn (sF σ 4 3 ((gF σ 4 3) + (1 : Int32))) (1 : Int32) (7 : Int32) r2 s3 q) rfl rfl (by omega) (Nat.le_of_ble_eq_true rfl) rfl (by decide) (by decide) (by decide) d_Rd_takesHang_48) (fun r2 s3 h => ?_)
    obtain ⟨hz, h⟩ := wp_if h
    have h9 := wp_some h
    exact hQ _ _ h9 (fun _ => hz) _ _ d_Rd_takesHang_51
  · skip
    refine V_iload_n X 1 d_Rd_takesHang_6 rfl ?_
    refine V_iconst (v := 0) X d_Rd_takesHang_7 (by decide) ?_
    refine V_aload_n X 0 d_Rd_takesHang_8 rfl ?_
    refine V_getI X 2 3 rfl ji2 (by decide) (by decide) (by decide) fl_Rd_22 d_Rd_takesHang_9 (by decide) (by decide) (by decide) ?_
    refine V_iconst (v := 1) X d_Rd_takesHang_12 (by decide) ?_
    refine V_isub X d_Rd_takesHang_13 ?_
    refine V_cI X h (fun r4 q => C_S X [Value.int a0, Value.int (0 : Int32), Value.int ((gF σ 4 3) - (1 : Int32))] mt_Rd_isDigit ms_Rd_isDigit ml_Rd_75 (k_Rd_isDigit σ a0 (0 : Int32) ((gF σ 4 3) - (1 : Int32)) r4 q) rfl rfl (by omega) (Nat.le_of_ble_eq_true rfl) d_Rd_takesHang_14) (fun r4 h => ?_)
    refine V_if_eq X 24 d_Rd_takesHang_17 (by decide) h (fun c5 h => ?_) (fun c5 h => ?_)
    · skip
      refine V_iconst (v := 0) X d_Rd_takesHang_24 (by decide) ?_
      refine V_istore_n X [(2, Value.int (0 : Int32)), (0, Value.ref (ad 4)), (1, Value.int a0)] d_Rd_takesHang_25 (by decide) rfl ?_
      refine V_aload_n X 1 d_Rd_takesHang_26 rfl ?_
      refine V_dup X d_Rd_takesHang_27 rfl ?_
      refine V_getI X 2 3 rfl ji2 (by decide) (by decide) (by decide) fl_Rd_22 d_Rd_takesHang_28 (by decide) (by decide) (by decide) ?_
      refine V_iload_n X 0 d_Rd_takesHang_31 rfl ?_
      refine V_if_eqT X 39 d_Rd_takesHang_32 (by decide) (by decide) ?_
      refine V_iconst (v := 0) X d_Rd_takesHang_39 (by decide) ?_
      refine V_iadd X d_Rd_takesHang_40 ?_
      refine V_putI X 2 3 rfl ji2 jk2 jn2 (by decide) (by decide) (by decide) rfl (by decide +kernel) fl_Rd_22 d_Rd_takesHang_41 (by decide) (by decide) (by decide) ?_
      refine V_aload_n X 1 d_Rd_takesHang_44 rfl ?_
      refine V_iload_n X 0 d_Rd_takesHang_45 rfl ?_
      refine V_bipush (v := 7) X d_Rd_takesHang_46 (by decide) ?_
      refine V_cP X h (fun r6 s7 q => C_V (q := 2) X [Value.int (0 : Int32), Value.int (7 : Int32)] mt_Rd_goesOn ms_Rd_goesOn ml_Rd_71 (k_Rd_goesOn (sF σ 4 3 ((gF σ 4 3) + (0 : Int32))) (0 : Int32) (7 : Int32) r6 s7 q) rfl rfl (by omega) (Nat.le_of_ble_eq_true rfl) rfl (by decide) (by decide) (by decide) d_Rd_takesHang_48) (fun r6 s7 h => ?_)
      obtain ⟨hz, h⟩ := wp_if h
      have h9 := wp_some h
      exact hQ _ _ h9 (fun _ => hz) _ _ d_Rd_takesHang_51
    · skip
      refine V_iconst (v := 1) X d_Rd_takesHang_20 (by decide) ?_
      refine V_goto X 25 d_Rd_takesHang_21 (by decide) ?_
      refine V_istore_n X [(2, Value.int (1 : Int32)), (0, Value.ref (ad 4)), (1, Value.int a0)] d_Rd_takesHang_25 (by decide) rfl ?_
      refine V_aload_n X 1 d_Rd_takesHang_26 rfl ?_
      refine V_dup X d_Rd_takesHang_27 rfl ?_
      refine V_getI X 2 3 rfl ji2 (by decide) (by decide) (by decide) fl_Rd_22 d_Rd_takesHang_28 (by decide) (by decide) (by decide) ?_
      refine V_iload_n X 0 d_Rd_takesHang_31 rfl ?_
      refine V_if_eqF X d_Rd_takesHang_32 39 (by decide) (by decide) ?_
      refine V_iconst (v := 1) X d_Rd_takesHang_35 (by decide) ?_
      refine V_goto X 40 d_Rd_takesHang_36 (by decide) ?_
      refine V_iadd X d_Rd_takesHang_40 ?_
      refine V_putI X 2 3 rfl ji2 jk2 jn2 (by decide) (by decide) (by decide) rfl (by decide +kernel) fl_Rd_22 d_Rd_takesHang_41 (by decide) (by decide) (by decide) ?_
      refine V_aload_n X 1 d_Rd_takesHang_44 rfl ?_
      refine V_iload_n X 0 d_Rd_takesHang_45 rfl ?_
      refine V_bipush (v := 7) X d_Rd_takesHang_46 (by decide) ?_
      refine V_cP X h (fun r8 s9 q => C_V (q := 2) X [Value.int (1 : Int32), Value.int (7 : Int32)] mt_Rd_goesOn ms_Rd_goesOn ml_Rd_71 (k_Rd_goesOn (sF σ 4 3 ((gF σ 4 3) + (1 : Int32))) (1 : Int32) (7 : Int32) r8 s9 q) rfl rfl (by omega) (Nat.le_of_ble_eq_true rfl) rfl (by decide) (by decide) (by decide) d_Rd_takesHang_48) (fun r8 s9 h => ?_)
      obtain ⟨hz, h⟩ := wp_if h
      have h9 := wp_some h
      exact hQ _ _ h9 (fun _ => hz) _ _ d_Rd_takesHang_51
set_option maxHeartbeats 4000000 in
set_option maxRecDepth 100000 in
theorem k_Rd_takes (σ : Sg) (a0 : Int32) (r : Int32) (σ' : Sg) (h : Rd_takes σ a0 = some (r, σ')) : Evc y_Rd_takes prog_8_method_5_code 2 (some .boolean) 6 (fun ad => [Value.ref (ad 4), Value.int a0]) σ σ' (fun _ => some (.int r)) := by
  refine Evc_ofZ (by decide) (fun ad => Nat.le_of_ble_eq_true rfl) (fun p l e R s m args below meth c D ad cI cB A Q X hQ => ?_)
  have X : Cx p R s m args meth c jR2 prog_8_method_5_code 2 6 D ad cI cB A 0 0 := X
  have h : wpO (Rd_takes σ a0) (fun q => q = (r, σ')) := ⟨_, h, rfl⟩
  rw [Rd_takes] at h
  refine V_sub (lv' := [(0, Value.ref (ad 4)), (1, Value.int a0)]) [0, 1] rfl ?_
  refine V_aload_n X 0 d_Rd_takes_0 rfl ?_
  refine V_getI X 2 1 rfl ji2 (by decide) (by decide) (by decide) fl_Rd_15 d_Rd_takes_1 (by decide) (by decide) (by decide) ?_
  rcases wp_case h with ⟨c1, h⟩ | ⟨c1, h⟩
  · skip
    refine V_tableIn X 44 48 d_Rd_takes_4 (0) (by rw [c1]; decide) (by decide) (by decide) rfl (by decide) ?_
    refine V_aload_n X 0 d_Rd_takes_48 rfl ?_
    refine V_iload_n X 1 d_Rd_takes_49 rfl ?_
    refine V_cP X h (fun r2 s3 q => C_V (q := 2) X [Value.int a0] mt_Rd_takesDigitOfTree ms_Rd_takesDigitOfTree ml_Rd_65 (k_Rd_takesDigitOfTree σ a0 r2 s3 q) rfl rfl (by omega) (Nat.le_of_ble_eq_true rfl) rfl (by decide) (by decide) (by decide) d_Rd_takes_50) (fun r2 s3 h => ?_)
    obtain ⟨hz, h⟩ := wp_if h
    have h9 := wp_some h
    exact hQ _ _ h9 (fun _ => hz) _ _ d_Rd_takes_53
  · skip
    rcases wp_case h with ⟨c4, h⟩ | ⟨c4, h⟩
    · skip
      refine V_tableIn X 44 48 d_Rd_takes_4 (1) (by rw [c4]; decide) (by decide) (by decide) rfl (by decide) ?_
      refine V_aload_n X 0 d_Rd_takes_48 rfl ?_
      refine V_iload_n X 1 d_Rd_takes_49 rfl ?_
      refine V_cP X h (fun r5 s6 q => C_V (q := 2) X [Value.int a0] mt_Rd_takesDigitOfTree ms_Rd_takesDigitOfTree ml_Rd_65 (k_Rd_takesDigitOfTree σ a0 r5 s6 q) rfl rfl (by omega) (Nat.le_of_ble_eq_true rfl) rfl (by decide) (by decide) (by decide) d_Rd_takes_50) (fun r5 s6 h => ?_)
      obtain ⟨hz, h⟩ := wp_if h
      have h9 := wp_some h
      exact hQ _ _ h9 (fun _ => hz) _ _ d_Rd_takes_53
    · skip
      rcases wp_case h with ⟨c7, h⟩ | ⟨c7, h⟩
      · skip
        refine V_tableIn X 50 54 d_Rd_takes_4 (2) (by rw [c7]; decide) (by decide) (by decide) rfl (by decide) ?_
        refine V_aload_n X 0 d_Rd_takes_54 rfl ?_
        refine V_iload_n X 1 d_Rd_takes_55 rfl ?_
        refine V_cP X h (fun r8 s9 q => C_V (q := 2) X [Value.int a0] mt_Rd_takesTreeEnd ms_Rd_takesTreeEnd ml_Rd_68 (k_Rd_takesTreeEnd σ a0 r8 s9 q) rfl rfl (by omega) (Nat.le_of_ble_eq_true rfl) rfl (by decide) (by decide) (by decide) d_Rd_takes_56) (fun r8 s9 h => ?_)
        obtain ⟨hz, h⟩ := wp_if h
        have h9 := wp_some h
        exact hQ _ _ h9 (fun _ => hz) _ _ d_Rd_takes_59
      · skip
        rcases wp_case h with ⟨c10, h⟩ | ⟨c10, h⟩
        · skip
          refine V_tableIn X 56 60 d_Rd_takes_4 (3) (by rw [c10]; decide) (by decide) (by decide) rfl (by decide) ?_
          refine V_aload_n X 0 d_Rd_takes_60 rfl ?_
          refine V_ldcS X d_Rd_takes_61 ?_
          refine V_iload_n X 1 d_Rd_takes_63 rfl ?_
          refine V_i2c X d_Rd_takes_64 ?_
          refine V_kidx X ml_Rd_56 d_Rd_takes_65 (by decide) (Nat.le_of_ble_eq_true rfl) ?_
          refine V_if_lt X 75 d_Rd_takes_68 (by decide) h (fun c11 h => ?_) (fun c11 h => ?_)
          · skip
            refine V_iconst (v := 0) X d_Rd_takes_75 (by decide) ?_
            refine V_iconst (v := 4) X d_Rd_takes_76 (by decide) ?_
            refine V_cP X h (fun r12 s13 q => C_V (q := 2) X [Value.int (0 : Int32), Value.int (4 : Int32)] mt_Rd_goesOn ms_Rd_goesOn ml_Rd_71 (k_Rd_goesOn σ (0 : Int32) (4 : Int32) r12 s13 q) rfl rfl (by omega) (Nat.le_of_ble_eq_true rfl) rfl (by decide) (by decide) (by decide) d_Rd_takes_77) (fun r12 s13 h => ?_)
            obtain ⟨hz, h⟩ := wp_if h
            have h9 := wp_some h
            exact hQ _ _ h9 (fun _ => hz) _ _ d_Rd_takes_80
          · skip
            refine V_iconst (v := 1) X d_Rd_takes_71 (by decide) ?_
            refine V_goto X 76 d_Rd_takes_72 (by decide) ?_
            refine V_iconst (v := 4) X d_Rd_takes_76 (by decide) ?_
            refine V_cP X h (fun r14 s15 q => C_V (q := 2) X [Value.int (1 : Int32), Value.int (4 : Int32)] mt_Rd_goesOn ms_Rd_goesOn ml_Rd_71 (k_Rd_goesOn σ (1 : Int32) (4 : Int32) r14 s15 q) rfl rfl (by omega) (Nat.le_of_ble_eq_true rfl) rfl (by decide) (by decide) (by decide) d_Rd_takes_77) (fun r14 s15 h => ?_)
            obtain ⟨hz, h⟩ := wp_if h
            have h9 := wp_some h
            exact hQ _ _ h9 (fun _ => hz) _ _ d_Rd_takes_80
        · skip
          rcases wp_case h with ⟨c16, h⟩ | ⟨c16, h⟩
          · skip
            refine V_tableIn X 77 81 d_Rd_takes_4 (4) (by rw [c16]; decide) (by decide) (by decide) rfl (by decide) ?_
            refine V_aload_n X 0 d_Rd_takes_81 rfl ?_
            refine V_iload_n X 1 d_Rd_takes_82 rfl ?_
            refine V_iconst (v := 1) X d_Rd_takes_83 (by decide) ?_
            refine V_bipush (v := 9) X d_Rd_takes_84 (by decide) ?_
            refine V_cI X h (fun r17 q => C_S X [Value.int a0, Value.int (1 : Int32), Value.int (9 : Int32)] mt_Rd_isDigit ms_Rd_isDigit ml_Rd_75 (k_Rd_isDigit σ a0 (1 : Int32) (9 : Int32) r17 q) rfl rfl (by omega) (Nat.le_of_ble_eq_true rfl) d_Rd_takes_86) (fun r17 h => ?_)
            refine V_iconst (v := 5) X d_Rd_takes_89 (by decide) ?_
            refine V_cP X h (fun r18 s19 q => C_V (q := 2) X [Value.int r17, Value.int (5 : Int32)] mt_Rd_goesOn ms_Rd_goesOn ml_Rd_71 (k_Rd_goesOn σ r17 (5 : Int32) r18 s19 q) rfl rfl (by omega) (Nat.le_of_ble_eq_true rfl) rfl (by decide) (by decide) (by decide) d_Rd_takes_90) (fun r18 s19 h => ?_)
            obtain ⟨hz, h⟩ := wp_if h
            have h9 := wp_some h
            exact hQ _ _ h9 (fun _ => hz) _ _ d_Rd_takes_93
          · skip
            rcases wp_case h with ⟨c20, h⟩ | ⟨c20, h⟩
            · skip
              refine V_tableIn X 90 94 d_Rd_takes_4 (5) (by rw [c20]; decide) (by decide) (by decide) rfl (by decide) ?_
              refine V_aload_n X 0 d_Rd_takes_94 rfl ?_
              refine V_iload_n X 1 d_Rd_takes_95 rfl ?_
              refine V_iconst (v := 1) X d_Rd_takes_96 (by decide) ?_
              refine V_bipush (v := 9) X d_Rd_takes_97 (by decide) ?_
              refine V_cI X h (fun r21 q => C_S X [Value.int a0, Value.int (1 : Int32), Value.int (9 : Int32)] mt_Rd_isDigit ms_Rd_isDigit ml_Rd_75 (k_Rd_isDigit σ a0 (1 : Int32) (9 : Int32) r21 q) rfl rfl (by omega) (Nat.le_of_ble_eq_true rfl) d_Rd_takes_99) (fun r21 h => ?_)
              refine V_bipush (v := 6) X d_Rd_takes_102 (by decide) ?_
              refine V_cP X h (fun r22 s23 q => C_V (q := 2) X [Value.int r21, Value.int (6 : Int32)] mt_Rd_goesOn ms_Rd_goesOn ml_Rd_71 (k_Rd_goesOn σ r21 (6 : Int32) r22 s23 q) rfl rfl (by omega) (Nat.le_of_ble_eq_true rfl) rfl (by decide) (by decide) (by decide) d_Rd_takes_104) (fun r22 s23 h => ?_)
              obtain ⟨hz, h⟩ := wp_if h
              have h9 := wp_some h
              exact hQ _ _ h9 (fun _ => hz) _ _ d_Rd_takes_107
            · skip
              rcases wp_case h with ⟨c24, h⟩ | ⟨c24, h⟩
              · skip
                refine V_tableIn X 104 108 d_Rd_takes_4 (6) (by rw [c24]; decide) (by decide) (by decide) rfl (by decide) ?_
                refine V_aload_n X 0 d_Rd_takes_108 rfl ?_
                refine V_iload_n X 1 d_Rd_takes_109 rfl ?_
                refine V_cP X h (fun r25 s26 q => C_V (q := 2) X [Value.int a0] mt_Rd_takesHang ms_Rd_takesHang ml_Rd_79 (k_Rd_takesHang σ a0 r25 s26 q) rfl rfl (by omega) (Nat.le_of_ble_eq_true rfl) rfl (by decide) (by decide) (by decide) d_Rd_takes_110) (fun r25 s26 h => ?_)
                obtain ⟨hz, h⟩ := wp_if h
                have h9 := wp_some h
                exact hQ _ _ h9 (fun _ => hz) _ _ d_Rd_takes_113
              · skip
                refine V_tableOut X 114 d_Rd_takes_4 (by have z0 := sw_ne c1 (0) (by decide); have z1 := sw_ne c4 (1) (by decide); have z2 := sw_ne c7 (2) (by decide); have z3 := sw_ne c10 (3) (by decide); have z4 := sw_ne c16 (4) (by decide); have z5 := sw_ne c20 (5) (by decide); have z6 := sw_ne c24 (6) (by decide); omega) (by decide) ?_
                refine V_aload_n X 0 d_Rd_takes_114 rfl ?_
                refine V_iload_n X 1 d_Rd_takes_115 rfl ?_
                refine V_bipush (v := 44) X d_Rd_takes_116 (by decide) ?_
                refine V_icmp_ne X 134 d_Rd_takes_118 (by decide) h (fun c27 h => ?_) (fun c27 h => ?_)
                · skip
                  refine V_iconst (v := 0) X d_Rd_takes_134 (by decide) ?_
                  refine V_iconst (v := 3) X d_Rd_takes_135 (by decide) ?_
                  refine V_cP X h (fun r28 s29 q => C_V (q := 2) X [Value.int (0 : Int32), Value.int (3 : Int32)] mt_Rd_goesOn ms_Rd_goesOn ml_Rd_71 (k_Rd_goesOn σ (0 : Int32) (3 : Int32) r28 s29 q) rfl rfl (by omega) (Nat.le_of_ble_eq_true rfl) rfl (by decide) (by decide) (by decide) d_Rd_takes_136) (fun r28 s29 h => ?_)
                  obtain ⟨hz, h⟩ := wp_if h
                  have h9 := wp_some h
                  exact hQ _ _ h9 (fun _ => hz) _ _ d_Rd_takes_139
                · skip
                  refine V_aload_n X 0 d_Rd_takes_121 rfl ?_
                  refine V_getI X 2 3 rfl ji2 (by decide) (by decide) (by decide) fl_Rd_22 d_Rd_takes_122 (by decide) (by decide) (by decide) ?_
                  refine V_bipush (v := 7) X d_Rd_takes_125 (by decide) ?_
                  refine V_icmp_ge X 134 d_Rd_takes_127 (by decide) h (fun c30 h => ?_) (fun c30 h => ?_)
                  · skip
                    refine V_iconst (v := 0) X d_Rd_takes_134 (by decide) ?_
                    refine V_iconst (v := 3) X d_Rd_takes_135 (by decide) ?_
                    refine V_cP X h (fun r31 s32 q => C_V (q := 2) X [Value.int (0 : Int32), Value.int (3 : Int32)] mt_Rd_goesOn ms_Rd_goesOn ml_Rd_71 (k_Rd_goesOn σ (0 : Int32) (3 : Int32) r31 s32 q) rfl rfl (by omega) (Nat.le_of_ble_eq_true rfl) rfl (by decide) (by decide) (by decide) d_Rd_takes_136) (fun r31 s32 h => ?_)
                    obtain ⟨hz, h⟩ := wp_if h
                    have h9 := wp_some h
                    exact hQ _ _ h9 (fun _ => hz) _ _ d_Rd_takes_139
                  · skip
                    refine V_iconst (v := 1) X d_Rd_takes_130 (by decide) ?_
                    refine V_goto X 135 d_Rd_takes_131 (by decide) ?_
                    refine V_iconst (v := 3) X d_Rd_takes_135 (by decide) ?_
                    refine V_cP X h (fun r33 s34 q => C_V (q := 2) X [Value.int (1 : Int32), Value.int (3 : Int32)] mt_Rd_goesOn ms_Rd_goesOn ml_Rd_71 (k_Rd_goesOn σ (1 : Int32) (3 : Int32) r33 s34 q) rfl rfl (by omega) (Nat.le_of_ble_eq_true rfl) rfl (by decide) (by decide) (by decide) d_Rd_takes_136) (fun r33 s34 h => ?_)
                    obtain ⟨hz, h⟩ := wp_if h
                    have h9 := wp_some h
                    exact hQ _ _ h9 (fun _ => hz) _ _ d_Rd_takes_139
set_option maxHeartbeats 4000000 in
set_option maxRecDepth 100000 in
theorem Rd_firstFault_L17_ok {p : Program} {l : Launch} {e : Env} {R : Room} {s : State} {m : MethodId} {args : Array Value} {below : List Frame} {meth : Method} {c : Code} {D : va_G} {ad : Nat → Nat} {cI cB : ClassId} {A : Nat → Prop} {cells slots : Nat} {Q : State → Prop} (X : Cx p R s m args meth c jR2 prog_8_method_2_code 2 7 D ad cI cB A cells slots) (fu : Nat) (kont : (Int32 → Sg → Option (Int32 × Sg))) {K : (Int32 × Sg) → Prop} (hQ : RI p l e R s m args below meth c 2 D ad cI cB A cells slots Q prog_8_method_2_code false K) (hk : ∀ (l1 : Int32) (σ : Sg), wpO (kont l1 σ) K → V p l e R s m args below meth c 2 D A cells slots Q (wl ad cI cB σ) 51 [(0, Value.ref (ad 4)), (1, Value.int l1)] []) : ∀ (n : Nat) (l1 : Int32) (σ : Sg), wpO (Rd_firstFault_L17 fu kont n l1 σ) K → V p l e R s m args below meth c 2 D A cells slots Q (wl ad cI cB σ) 17 [(0, Value.ref (ad 4)), (1, Value.int l1)] [] := by
  intro n
  induction n with
  | zero =>
    intro l1 σ h
    exact (wp_none h).elim
  | succ n ih =>
    intro l1 σ h
    rw [Rd_firstFault_L17] at h
    refine V_iload_n X 1 d_Rd_firstFault_17 rfl ?_
    refine V_aload_n X 0 d_Rd_firstFault_18 rfl ?_
    refine V_getR X 2 0 1 rfl ji2 (by decide) (by decide) (by decide) fl_Rd_9 d_Rd_firstFault_19 (by decide) (by decide) (by decide) (by decide) ?_
    refine V_cI X h (fun r1 q => C_V (q := 1) X [] mt_Pg_size ms_Pg_size ml_Rd_25 (k_Pg_size σ r1 q) rfl rfl (by omega) (Nat.le_of_ble_eq_true rfl) rfl (by decide) (by decide) (by decide) d_Rd_firstFault_22) (fun r1 h => ?_)
    refine V_icmp_ge X 51 d_Rd_firstFault_25 (by decide) h (fun c2 h => ?_) (fun c2 h => ?_)
    · skip
      exact hk l1 σ h
    · skip
      refine V_aload_n X 0 d_Rd_firstFault_28 rfl ?_
      refine V_aload_n X 0 d_Rd_firstFault_29 rfl ?_
      refine V_getR X 2 0 1 rfl ji2 (by decide) (by decide) (by decide) fl_Rd_9 d_Rd_firstFault_30 (by decide) (by decide) (by decide) (by decide) ?_
      refine V_iload_n X 1 d_Rd_firstFault_33 rfl ?_
      refine V_cI X h (fun r3 q => C_V (q := 1) X [Value.int l1] mt_Pg_code ms_Pg_code ml_Rd_31 (k_Pg_code σ l1 r3 q) rfl rfl (by omega) (Nat.le_of_ble_eq_true rfl) rfl (by decide) (by decide) (by decide) d_Rd_firstFault_34) (fun r3 h => ?_)
      refine V_cP X h (fun r4 s5 q => C_V (q := 2) X [Value.int r3] mt_Rd_takes ms_Rd_takes ml_Rd_35 (k_Rd_takes σ r3 r4 s5 q) rfl rfl (by omega) (Nat.le_of_ble_eq_true rfl) rfl (by decide) (by decide) (by decide) d_Rd_firstFault_37) (fun r4 s5 h => ?_)
      refine V_if_ne X 45 d_Rd_firstFault_40 (by decide) h (fun c6 h => ?_) (fun c6 h => ?_)
      · skip
        refine V_iinc X 1 (l1 + (1 : Int32)) [(1, Value.int (l1 + (1 : Int32))), (0, Value.ref (ad 4))] d_Rd_firstFault_45 rfl (by first | rfl | decide) (by decide) rfl ?_
        refine V_goto X 17 d_Rd_firstFault_48 (by decide) ?_
        refine V_sub (lv' := [(0, Value.ref (ad 4)), (1, Value.int (l1 + (1 : Int32)))]) [1, 0] rfl ?_
        exact ih (l1 + (1 : Int32)) s5 h
      · skip
        refine V_iload_n X 1 d_Rd_firstFault_43 rfl ?_
        have h9 := wp_some h
        exact hQ _ _ h9 (fun h9 => absurd h9 (by decide)) _ _ d_Rd_firstFault_44
set_option maxHeartbeats 4000000 in
set_option maxRecDepth 100000 in
theorem k_Rd_firstFault (fu : Nat) (σ : Sg) (r : Int32) (σ' : Sg) (h : Rd_firstFault fu σ = some (r, σ')) : Evc y_Rd_firstFault prog_8_method_2_code 2 (some .int) 7 (fun ad => [Value.ref (ad 4)]) σ σ' (fun _ => some (.int r)) := by
  refine Evc_ofI (by decide) (fun ad => Nat.le_of_ble_eq_true rfl) (fun p l e R s m args below meth c D ad cI cB A Q X hQ => ?_)
  have X : Cx p R s m args meth c jR2 prog_8_method_2_code 2 7 D ad cI cB A 0 0 := X
  have h : wpO (Rd_firstFault fu σ) (fun q => q = (r, σ')) := ⟨_, h, rfl⟩
  rw [Rd_firstFault] at h
  refine V_sub (lv' := [(0, Value.ref (ad 4))]) [0] rfl ?_
  refine V_aload_n X 0 d_Rd_firstFault_0 rfl ?_
  refine V_iconst (v := 0) X d_Rd_firstFault_1 (by decide) ?_
  refine V_putI X 2 1 rfl ji2 jk2 jn2 (by decide) (by decide) (by decide) rfl (by decide +kernel) fl_Rd_15 d_Rd_firstFault_2 (by decide) (by decide) (by decide) ?_
  refine V_aload_n X 0 d_Rd_firstFault_5 rfl ?_
  refine V_iconst (v := 0) X d_Rd_firstFault_6 (by decide) ?_
  refine V_putI X 2 2 rfl ji2 jk2 jn2 (by decide) (by decide) (by decide) rfl (by decide +kernel) fl_Rd_19 d_Rd_firstFault_7 (by decide) (by decide) (by decide) ?_
  refine V_aload_n X 0 d_Rd_firstFault_10 rfl ?_
  refine V_iconst (v := 0) X d_Rd_firstFault_11 (by decide) ?_
  refine V_putI X 2 3 rfl ji2 jk2 jn2 (by decide) (by decide) (by decide) rfl (by decide +kernel) fl_Rd_22 d_Rd_firstFault_12 (by decide) (by decide) (by decide) ?_
  refine V_iconst (v := 0) X d_Rd_firstFault_15 (by decide) ?_
  refine V_istore_n X [(1, Value.int (0 : Int32)), (0, Value.ref (ad 4))] d_Rd_firstFault_16 (by decide) rfl ?_
  refine V_sub (lv' := [(0, Value.ref (ad 4)), (1, Value.int (0 : Int32))]) [1, 0] rfl ?_
  refine Rd_firstFault_L17_ok X fu _ hQ (fun l1_7 s8 h => ?_) fu (0 : Int32) (sF (sF (sF σ 4 1 (0 : Int32)) 4 2 (0 : Int32)) 4 3 (0 : Int32)) h
  refine V_aload_n X 0 d_Rd_firstFault_51 rfl ?_
  refine V_getR X 2 0 1 rfl ji2 (by decide) (by decide) (by decide) fl_Rd_9 d_Rd_firstFault_52 (by decide) (by decide) (by decide) (by decide) ?_
  refine V_cI X h (fun r9 q => C_V (q := 1) X [] mt_Pg_size ms_Pg_size ml_Rd_25 (k_Pg_size s8 r9 q) rfl rfl (by omega) (Nat.le_of_ble_eq_true rfl) rfl (by decide) (by decide) (by decide) d_Rd_firstFault_55) (fun r9 h => ?_)
  have h9 := wp_some h
  exact hQ _ _ h9 (fun h9 => absurd h9 (by decide)) _ _ d_Rd_firstFault_58
set_option maxHeartbeats 4000000 in
set_option maxRecDepth 100000 in
theorem k_Co_fault (fu : Nat) (σ : Sg) (r : Int32) (σ' : Sg) (h : Co_fault fu σ = some (r, σ')) : Evc y_Co_fault prog_1_method_4_code 1 (some .int) 8 (fun ad => [Value.ref (ad 0)]) σ σ' (fun _ => some (.int r)) := by
  refine Evc_ofI (by decide) (fun ad => Nat.le_of_ble_eq_true rfl) (fun p l e R s m args below meth c D ad cI cB A Q X hQ => ?_)
  have X : Cx p R s m args meth c jR0 prog_1_method_4_code 1 8 D ad cI cB A 0 0 := X
  have h : wpO (Co_fault fu σ) (fun q => q = (r, σ')) := ⟨_, h, rfl⟩
  rw [Co_fault] at h
  refine V_sub (lv' := [(0, Value.ref (ad 0))]) [0] rfl ?_
  refine V_aload_n X 0 d_Co_fault_0 rfl ?_
  refine V_getR X 0 1 4 rfl ji0 (by decide) (by decide) (by decide) fl_Co_21 d_Co_fault_1 (by decide) (by decide) (by decide) (by decide) ?_
  refine V_cP X h (fun r1 s2 q => C_V (q := 2) X [] mt_Rd_firstFault ms_Rd_firstFault ml_Co_76 (k_Rd_firstFault fu σ r1 s2 q) rfl rfl (by omega) (Nat.le_of_ble_eq_true rfl) rfl (by decide) (by decide) (by decide) d_Co_fault_4) (fun r1 s2 h => ?_)
  have h9 := wp_some h
  exact hQ _ _ h9 (fun h9 => absurd h9 (by decide)) _ _ d_Co_fault_7
set_option maxHeartbeats 4000000 in
set_option maxRecDepth 100000 in
theorem k_Si_clear (σ : Sg) (k : Nat) (hl_k : k < 116) (hc_k : jv_cls k = 4) (σ' : Sg) (h : Si_clear σ k = some σ') : Evc y_Si_clear prog_11_method_4_code 1 (none) 1 (fun ad => [Value.ref (ad k)]) σ σ' (fun _ => none) := by
  refine Evc_ofV (by decide) (fun ad => Nat.le_of_ble_eq_true rfl) (fun p l e R s m args below meth c D ad cI cB A Q X hQ => ?_)
  have X : Cx p R s m args meth c jR4 prog_11_method_4_code 1 1 D ad cI cB A 0 0 := X
  have h : wpO (Si_clear σ k) (fun q => q = σ') := ⟨_, h, rfl⟩
  rw [Si_clear] at h
  refine V_sub (lv' := [(0, Value.ref (ad k))]) [0] rfl ?_
  refine V_aload_n X 0 d_Si_clear_0 rfl ?_
  refine V_iconst (v := 0) X d_Si_clear_1 (by decide) ?_
  refine V_putI X 4 3 rfl ji4 jk4 jn4 (by decide) (by decide) (by decide) rfl (by decide +kernel) fl_Si_26 d_Si_clear_2 hl_k hc_k (by decide) ?_
  have h9 := wp_some h
  exact hQ _ h9 _ _ d_Si_clear_5
set_option maxHeartbeats 4000000 in
set_option maxRecDepth 100000 in
theorem k_Co_forget (σ : Sg) (r : Int32) (σ' : Sg) (h : Co_forget σ = some (r, σ')) : Evc y_Co_forget prog_1_method_18_code 2 (some .int) 2 (fun ad => [Value.ref (ad 0)]) σ σ' (fun _ => some (.int r)) := by
  refine Evc_ofI (by decide) (fun ad => Nat.le_of_ble_eq_true rfl) (fun p l e R s m args below meth c D ad cI cB A Q X hQ => ?_)
  have X : Cx p R s m args meth c jR0 prog_1_method_18_code 2 2 D ad cI cB A 0 0 := X
  have h : wpO (Co_forget σ) (fun q => q = (r, σ')) := ⟨_, h, rfl⟩
  rw [Co_forget] at h
  refine V_sub (lv' := [(0, Value.ref (ad 0))]) [0] rfl ?_
  refine V_aload_n X 0 d_Co_forget_0 rfl ?_
  refine V_getR X 0 2 5 rfl ji0 (by decide) (by decide) (by decide) fl_Co_28 d_Co_forget_1 (by decide) (by decide) (by decide) (by decide) ?_
  refine V_cR (t := 22) X (C_V (q := 3) X [] mt_Sh_sightings ms_Sh_sightings ml_Co_219 (k_Sh_sightings σ 5 (by decide) (by decide)) rfl rfl (by omega) (Nat.le_of_ble_eq_true rfl) rfl (by decide) (by decide) (by decide) d_Co_forget_4) ?_
  refine V_cI X h (fun r1 q => C_V (q := 4) X [] mt_Si_size ms_Si_size ml_Co_223 (k_Si_size σ 22 (by decide) (by decide) r1 q) rfl rfl (by omega) (Nat.le_of_ble_eq_true rfl) rfl (by decide) (by decide) (by decide) d_Co_forget_7) (fun r1 h => ?_)
  refine V_istore_n X [(1, Value.int r1), (0, Value.ref (ad 0))] d_Co_forget_10 (by decide) rfl ?_
  refine V_aload_n X 1 d_Co_forget_11 rfl ?_
  refine V_getR X 0 2 5 rfl ji0 (by decide) (by decide) (by decide) fl_Co_28 d_Co_forget_12 (by decide) (by decide) (by decide) (by decide) ?_
  refine V_cR (t := 22) X (C_V (q := 3) X [] mt_Sh_sightings ms_Sh_sightings ml_Co_219 (k_Sh_sightings σ 5 (by decide) (by decide)) rfl rfl (by omega) (Nat.le_of_ble_eq_true rfl) rfl (by decide) (by decide) (by decide) d_Co_forget_15) ?_
  refine V_cV X h (fun s2 q => C_V (q := 4) X [] mt_Si_clear ms_Si_clear ml_Co_229 (k_Si_clear σ 22 (by decide) (by decide) s2 q) rfl rfl (by omega) (Nat.le_of_ble_eq_true rfl) rfl (by decide) (by decide) (by decide) d_Co_forget_18) (fun s2 h => ?_)
  refine V_iload_n X 0 d_Co_forget_21 rfl ?_
  have h9 := wp_some h
  exact hQ _ _ h9 (fun h9 => absurd h9 (by decide)) _ _ d_Co_forget_22
set_option maxHeartbeats 4000000 in
set_option maxRecDepth 100000 in
theorem k_Co_image (fu : Nat) (σ : Sg) (r : Int32) (σ' : Sg) (h : Co_image fu σ = some (r, σ')) : Evc y_Co_image prog_1_method_20_code 1 (some .int) 5 (fun ad => [Value.ref (ad 0)]) σ σ' (fun _ => some (.int r)) := by
  refine Evc_ofI (by decide) (fun ad => Nat.le_of_ble_eq_true rfl) (fun p l e R s m args below meth c D ad cI cB A Q X hQ => ?_)
  have X : Cx p R s m args meth c jR0 prog_1_method_20_code 1 5 D ad cI cB A 0 0 := X
  have h : wpO (Co_image fu σ) (fun q => q = (r, σ')) := ⟨_, h, rfl⟩
  rw [Co_image] at h
  refine V_sub (lv' := [(0, Value.ref (ad 0))]) [0] rfl ?_
  refine V_aload_n X 0 d_Co_image_0 rfl ?_
  refine V_cI X h (fun r1 q => C_V (q := 0) X [] mt_Co_isRead ms_Co_isRead ml_Co_161 (k_Co_isRead σ r1 q) rfl rfl (by omega) (Nat.le_of_ble_eq_true rfl) rfl (by decide) (by decide) (by decide) d_Co_image_1) (fun r1 h => ?_)
  refine V_if_ne X 10 d_Co_image_4 (by decide) h (fun c2 h => ?_) (fun c2 h => ?_)
  · skip
    refine V_aload_n X 0 d_Co_image_10 rfl ?_
    refine V_getR X 0 3 29 rfl ji0 (by decide) (by decide) (by decide) fl_Co_32 d_Co_image_11 (by decide) (by decide) (by decide) (by decide) ?_
    refine V_aload_n X 0 d_Co_image_14 rfl ?_
    refine V_getR X 0 2 5 rfl ji0 (by decide) (by decide) (by decide) fl_Co_28 d_Co_image_15 (by decide) (by decide) (by decide) (by decide) ?_
    refine V_cV X h (fun s3 q => C_V (q := 3) X [Value.ref (ad 5)] mt_Sh_copyFrom ms_Sh_copyFrom ml_Co_238 (k_Sh_copyFrom fu σ 29 (by decide) (by decide) 5 (by decide) (by decide) s3 q) rfl rfl (by omega) (Nat.le_of_ble_eq_true rfl) rfl (by decide) (by decide) (by decide) d_Co_image_18) (fun s3 h => ?_)
    refine V_aload_n X 0 d_Co_image_21 rfl ?_
    refine V_iconst (v := 1) X d_Co_image_22 (by decide) ?_
    refine V_putZ X 0 8 (by decide) rfl ji0 jk0 jn0 (by decide) (by decide) (by decide) rfl (by decide +kernel) fl_Co_86 d_Co_image_23 (by decide) (by decide) (by decide) ?_
    refine V_aload_n X 0 d_Co_image_26 rfl ?_
    refine V_getR X 0 3 29 rfl ji0 (by decide) (by decide) (by decide) fl_Co_32 d_Co_image_27 (by decide) (by decide) (by decide) (by decide) ?_
    refine V_cI X h (fun r4 q => C_V (q := 3) X [] mt_Sh_years ms_Sh_years ml_Co_164 (k_Sh_years (sF s3 0 8 (1 : Int32)) 29 (by decide) (by decide) r4 q) rfl rfl (by omega) (Nat.le_of_ble_eq_true rfl) rfl (by decide) (by decide) (by decide) d_Co_image_30) (fun r4 h => ?_)
    have h9 := wp_some h
    exact hQ _ _ h9 (fun h9 => absurd h9 (by decide)) _ _ d_Co_image_33
  · skip
    refine V_bipush (v := -103) X d_Co_image_7 (by decide) ?_
    have h9 := wp_some h
    exact hQ _ _ h9 (fun h9 => absurd h9 (by decide)) _ _ d_Co_image_9
set_option maxHeartbeats 4000000 in
set_option maxRecDepth 100000 in
theorem k_Pg_add (σ : Sg) (a0 : Int32) (σ' : Sg) (h : Pg_add σ a0 = some σ') : Evc y_Pg_add prog_6_method_5_code 2 (none) 2 (fun ad => [Value.ref (ad 1), Value.int a0]) σ σ' (fun _ => none) := by
  refine Evc_ofV (by decide) (fun ad => Nat.le_of_ble_eq_true rfl) (fun p l e R s m args below meth c D ad cI cB A Q X hQ => ?_)
  have X : Cx p R s m args meth c jR1 prog_6_method_5_code 2 2 D ad cI cB A 0 0 := X
  have h : wpO (Pg_add σ a0) (fun q => q = σ') := ⟨_, h, rfl⟩
  rw [Pg_add] at h
  refine V_sub (lv' := [(0, Value.ref (ad 1)), (1, Value.int a0)]) [0, 1] rfl ?_
  refine V_aload_n X 0 d_Pg_add_0 rfl ?_
  refine V_getR X 1 0 2 rfl ji1 (by decide) (by decide) (by decide) fl_Pg_14 d_Pg_add_1 (by decide) (by decide) (by decide) (by decide) ?_
  refine V_aload_n X 0 d_Pg_add_4 rfl ?_
  refine V_getI X 1 1 rfl ji1 (by decide) (by decide) (by decide) fl_Pg_20 d_Pg_add_5 (by decide) (by decide) (by decide) ?_
  refine V_iload_n X 1 d_Pg_add_8 rfl ?_
  refine V_cV X h (fun s1 q => C_V (q := 9) X [Value.int (gF σ 1 1), Value.int a0] mt_Rw_put ms_Rw_put ml_Pg_28 (k_Rw_put σ 2 (by decide) (by decide) (gF σ 1 1) a0 s1 q) rfl rfl (by omega) (Nat.le_of_ble_eq_true rfl) rfl (by decide) (by decide) (by decide) d_Pg_add_9) (fun s1 h => ?_)
  refine V_aload_n X 0 d_Pg_add_12 rfl ?_
  refine V_dup X d_Pg_add_13 rfl ?_
  refine V_getI X 1 1 rfl ji1 (by decide) (by decide) (by decide) fl_Pg_20 d_Pg_add_14 (by decide) (by decide) (by decide) ?_
  refine V_iconst (v := 1) X d_Pg_add_17 (by decide) ?_
  refine V_iadd X d_Pg_add_18 ?_
  refine V_putI X 1 1 rfl ji1 jk1 jn1 (by decide) (by decide) (by decide) rfl (by decide +kernel) fl_Pg_20 d_Pg_add_19 (by decide) (by decide) (by decide) ?_
  have h9 := wp_some h
  exact hQ _ h9 _ _ d_Pg_add_22
set_option maxHeartbeats 4000000 in
set_option maxRecDepth 100000 in
theorem k_Co_letter (σ : Sg) (a0 : Int32) (r : Int32) (σ' : Sg) (h : Co_letter σ a0 = some (r, σ')) : Evc y_Co_letter prog_1_method_2_code 2 (some .int) 3 (fun ad => [Value.ref (ad 0), Value.int a0]) σ σ' (fun _ => some (.int r)) := by
  refine Evc_ofI (by decide) (fun ad => Nat.le_of_ble_eq_true rfl) (fun p l e R s m args below meth c D ad cI cB A Q X hQ => ?_)
  have X : Cx p R s m args meth c jR0 prog_1_method_2_code 2 3 D ad cI cB A 0 0 := X
  have h : wpO (Co_letter σ a0) (fun q => q = (r, σ')) := ⟨_, h, rfl⟩
  rw [Co_letter] at h
  refine V_sub (lv' := [(0, Value.ref (ad 0)), (1, Value.int a0)]) [0, 1] rfl ?_
  refine V_iload_n X 1 d_Co_letter_0 rfl ?_
  refine V_bipush (v := 32) X d_Co_letter_1 (by decide) ?_
  refine V_icmp_lt X 12 d_Co_letter_3 (by decide) h (fun c1 h => ?_) (fun c1 h => ?_)
  · skip
    refine V_bipush (v := -102) X d_Co_letter_12 (by decide) ?_
    have h9 := wp_some h
    exact hQ _ _ h9 (fun h9 => absurd h9 (by decide)) _ _ d_Co_letter_14
  · skip
    refine V_iload_n X 1 d_Co_letter_6 rfl ?_
    refine V_bipush (v := 126) X d_Co_letter_7 (by decide) ?_
    refine V_icmp_le X 15 d_Co_letter_9 (by decide) h (fun c2 h => ?_) (fun c2 h => ?_)
    · skip
      refine V_aload_n X 0 d_Co_letter_15 rfl ?_
      refine V_getR X 0 0 1 rfl ji0 (by decide) (by decide) (by decide) fl_Co_10 d_Co_letter_16 (by decide) (by decide) (by decide) (by decide) ?_
      refine V_cI X h (fun r3 q => C_V (q := 1) X [] mt_Pg_size ms_Pg_size ml_Co_65 (k_Pg_size σ r3 q) rfl rfl (by omega) (Nat.le_of_ble_eq_true rfl) rfl (by decide) (by decide) (by decide) d_Co_letter_19) (fun r3 h => ?_)
      refine V_bipush (v := 46) X d_Co_letter_22 (by decide) ?_
      refine V_icmp_lt X 30 d_Co_letter_24 (by decide) h (fun c4 h => ?_) (fun c4 h => ?_)
      · skip
        refine V_aload_n X 0 d_Co_letter_30 rfl ?_
        refine V_getR X 0 0 1 rfl ji0 (by decide) (by decide) (by decide) fl_Co_10 d_Co_letter_31 (by decide) (by decide) (by decide) (by decide) ?_
        refine V_iload_n X 1 d_Co_letter_34 rfl ?_
        refine V_cV X h (fun s5 q => C_V (q := 1) X [Value.int a0] mt_Pg_add ms_Pg_add ml_Co_69 (k_Pg_add σ a0 s5 q) rfl rfl (by omega) (Nat.le_of_ble_eq_true rfl) rfl (by decide) (by decide) (by decide) d_Co_letter_35) (fun s5 h => ?_)
        refine V_aload_n X 0 d_Co_letter_38 rfl ?_
        refine V_getR X 0 0 1 rfl ji0 (by decide) (by decide) (by decide) fl_Co_10 d_Co_letter_39 (by decide) (by decide) (by decide) (by decide) ?_
        refine V_cI X h (fun r6 q => C_V (q := 1) X [] mt_Pg_size ms_Pg_size ml_Co_65 (k_Pg_size s5 r6 q) rfl rfl (by omega) (Nat.le_of_ble_eq_true rfl) rfl (by decide) (by decide) (by decide) d_Co_letter_42) (fun r6 h => ?_)
        have h9 := wp_some h
        exact hQ _ _ h9 (fun h9 => absurd h9 (by decide)) _ _ d_Co_letter_45
      · skip
        refine V_bipush (v := -104) X d_Co_letter_27 (by decide) ?_
        have h9 := wp_some h
        exact hQ _ _ h9 (fun h9 => absurd h9 (by decide)) _ _ d_Co_letter_29
    · skip
      refine V_bipush (v := -102) X d_Co_letter_12 (by decide) ?_
      have h9 := wp_some h
      exact hQ _ _ h9 (fun h9 => absurd h9 (by decide)) _ _ d_Co_letter_14
