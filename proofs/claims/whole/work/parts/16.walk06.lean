set_option maxHeartbeats 4000000 in
set_option maxRecDepth 100000 in
theorem Mo_tryFor_L32_ok {p : Program} {l : Launch} {e : Env} {R : Room} {s : State} {m : MethodId} {args : Array Value} {below : List Frame} {meth : Method} {c : Code} {D : va_G} {ad : Nat → Nat} {cI cB : ClassId} {A : Nat → Prop} {cells slots : Nat} {Q : State → Prop} (X : Cx p R s m args meth c jR10 prog_13_method_51_code 9 5 D ad cI cB A cells slots) (fu : Nat) (l1 : Int32) (l2 : Int32) (l3 : Int32) (l4 : Int32) (l5 : Int32) (kont : (Int32 → Int32 → Sg → Option (Int32 × Sg))) {K : (Int32 × Sg) → Prop} (hQ : RI p l e R s m args below meth c 9 D ad cI cB A cells slots Q prog_13_method_51_code false K) (hk : ∀ (l6 : Int32) (l7 : Int32) (σ : Sg), wpO (kont l6 l7 σ) K → V p l e R s m args below meth c 9 D A cells slots Q (wl ad cI cB σ) 78 [(0, Value.ref (ad 91)), (1, Value.int l1), (2, Value.int l2), (3, Value.int l3), (4, Value.int l4), (5, Value.int l5), (6, Value.int l6), (7, Value.int l7)] []) : ∀ (n : Nat) (l6 : Int32) (l7 : Int32) (σ : Sg), wpO (Mo_tryFor_L32 fu l1 l2 l3 l4 l5 kont n l6 l7 σ) K → V p l e R s m args below meth c 9 D A cells slots Q (wl ad cI cB σ) 32 [(0, Value.ref (ad 91)), (1, Value.int l1), (2, Value.int l2), (3, Value.int l3), (4, Value.int l4), (5, Value.int l5), (6, Value.int l6), (7, Value.int l7)] [] := by
  intro n
  induction n with
  | zero =>
    intro l6 l7 σ h
    exact (wp_none h).elim
  | succ n ih =>
    intro l6 l7 σ h
    rw [Mo_tryFor_L32] at h
    refine V_iload X 7 d_Mo_tryFor_32 rfl ?_
    refine V_bipush (v := 9) X d_Mo_tryFor_34 (by decide) ?_
    refine V_icmp_gt X 78 d_Mo_tryFor_36 (by decide) h (fun c5 h => ?_) (fun c5 h => ?_)
    · skip
      exact hk l6 l7 σ h
    · skip
      refine V_iload X 6 d_Mo_tryFor_39 rfl ?_
      refine V_iload_n X 2 d_Mo_tryFor_41 rfl ?_
      refine V_iload X 7 d_Mo_tryFor_42 rfl ?_
      refine V_iconst (v := 1) X d_Mo_tryFor_44 (by decide) ?_
      refine V_isub X d_Mo_tryFor_45 ?_
      refine V_cI X h (fun r6 q => C_S X [Value.int l2, Value.int (l7 - (1 : Int32))] mt_Mo_isIn ms_Mo_isIn ml_Mo_142 (k_Mo_isIn σ l2 (l7 - (1 : Int32)) r6 q) rfl rfl (by omega) (Nat.le_of_ble_eq_true rfl) d_Mo_tryFor_46) (fun r6 h => ?_)
      refine V_if_eq X 68 d_Mo_tryFor_49 (by decide) h (fun c7 h => ?_) (fun c7 h => ?_)
      · skip
        refine V_iconst (v := 0) X d_Mo_tryFor_68 (by decide) ?_
        refine V_iadd X d_Mo_tryFor_69 ?_
        refine V_istore X [(6, Value.int (l6 + (0 : Int32))), (0, Value.ref (ad 91)), (1, Value.int l1), (2, Value.int l2), (3, Value.int l3), (4, Value.int l4), (5, Value.int l5), (7, Value.int l7)] d_Mo_tryFor_70 (by decide) rfl ?_
        refine V_iinc X 7 (l7 + (1 : Int32)) [(7, Value.int (l7 + (1 : Int32))), (6, Value.int (l6 + (0 : Int32))), (0, Value.ref (ad 91)), (1, Value.int l1), (2, Value.int l2), (3, Value.int l3), (4, Value.int l4), (5, Value.int l5)] d_Mo_tryFor_72 rfl (by first | rfl | decide) (by decide) rfl ?_
        refine V_goto X 32 d_Mo_tryFor_75 (by decide) ?_
        refine V_sub (lv' := [(0, Value.ref (ad 91)), (1, Value.int l1), (2, Value.int l2), (3, Value.int l3), (4, Value.int l4), (5, Value.int l5), (6, Value.int (l6 + (0 : Int32))), (7, Value.int (l7 + (1 : Int32)))]) [2, 3, 4, 5, 6, 7, 1, 0] rfl ?_
        exact ih (l6 + (0 : Int32)) (l7 + (1 : Int32)) σ h
      · skip
        refine V_aload_n X 0 d_Mo_tryFor_52 rfl ?_
        refine V_iload_n X 1 d_Mo_tryFor_53 rfl ?_
        refine V_iload X 7 d_Mo_tryFor_54 rfl ?_
        refine V_cP X h (fun r8 s9 q => C_V (q := 10) X [Value.int l1, Value.int l7] mt_Mo_costWith ms_Mo_costWith ml_Mo_229 (k_Mo_costWith fu σ l1 l7 r8 s9 q) rfl rfl (by omega) (Nat.le_of_ble_eq_true rfl) rfl (by decide) (by decide) (by decide) d_Mo_tryFor_56) (fun r8 s9 h => ?_)
        refine V_iload X 5 d_Mo_tryFor_59 rfl ?_
        refine V_icmp_gt X 68 d_Mo_tryFor_61 (by decide) h (fun c10 h => ?_) (fun c10 h => ?_)
        · skip
          refine V_iconst (v := 0) X d_Mo_tryFor_68 (by decide) ?_
          refine V_iadd X d_Mo_tryFor_69 ?_
          refine V_istore X [(6, Value.int (l6 + (0 : Int32))), (0, Value.ref (ad 91)), (1, Value.int l1), (2, Value.int l2), (3, Value.int l3), (4, Value.int l4), (5, Value.int l5), (7, Value.int l7)] d_Mo_tryFor_70 (by decide) rfl ?_
          refine V_iinc X 7 (l7 + (1 : Int32)) [(7, Value.int (l7 + (1 : Int32))), (6, Value.int (l6 + (0 : Int32))), (0, Value.ref (ad 91)), (1, Value.int l1), (2, Value.int l2), (3, Value.int l3), (4, Value.int l4), (5, Value.int l5)] d_Mo_tryFor_72 rfl (by first | rfl | decide) (by decide) rfl ?_
          refine V_goto X 32 d_Mo_tryFor_75 (by decide) ?_
          refine V_sub (lv' := [(0, Value.ref (ad 91)), (1, Value.int l1), (2, Value.int l2), (3, Value.int l3), (4, Value.int l4), (5, Value.int l5), (6, Value.int (l6 + (0 : Int32))), (7, Value.int (l7 + (1 : Int32)))]) [2, 3, 4, 5, 6, 7, 1, 0] rfl ?_
          exact ih (l6 + (0 : Int32)) (l7 + (1 : Int32)) s9 h
        · skip
          refine V_iconst (v := 1) X d_Mo_tryFor_64 (by decide) ?_
          refine V_goto X 69 d_Mo_tryFor_65 (by decide) ?_
          refine V_iadd X d_Mo_tryFor_69 ?_
          refine V_istore X [(6, Value.int (l6 + (1 : Int32))), (0, Value.ref (ad 91)), (1, Value.int l1), (2, Value.int l2), (3, Value.int l3), (4, Value.int l4), (5, Value.int l5), (7, Value.int l7)] d_Mo_tryFor_70 (by decide) rfl ?_
          refine V_iinc X 7 (l7 + (1 : Int32)) [(7, Value.int (l7 + (1 : Int32))), (6, Value.int (l6 + (1 : Int32))), (0, Value.ref (ad 91)), (1, Value.int l1), (2, Value.int l2), (3, Value.int l3), (4, Value.int l4), (5, Value.int l5)] d_Mo_tryFor_72 rfl (by first | rfl | decide) (by decide) rfl ?_
          refine V_goto X 32 d_Mo_tryFor_75 (by decide) ?_
          refine V_sub (lv' := [(0, Value.ref (ad 91)), (1, Value.int l1), (2, Value.int l2), (3, Value.int l3), (4, Value.int l4), (5, Value.int l5), (6, Value.int (l6 + (1 : Int32))), (7, Value.int (l7 + (1 : Int32)))]) [2, 3, 4, 5, 6, 7, 1, 0] rfl ?_
          exact ih (l6 + (1 : Int32)) (l7 + (1 : Int32)) s9 h
set_option maxHeartbeats 4000000 in
set_option maxRecDepth 100000 in
theorem Mo_tryFor_L15_ok {p : Program} {l : Launch} {e : Env} {R : Room} {s : State} {m : MethodId} {args : Array Value} {below : List Frame} {meth : Method} {c : Code} {D : va_G} {ad : Nat → Nat} {cI cB : ClassId} {A : Nat → Prop} {cells slots : Nat} {Q : State → Prop} (X : Cx p R s m args meth c jR10 prog_13_method_51_code 9 5 D ad cI cB A cells slots) (fu : Nat) (l1 : Int32) (l2 : Int32) (kont : (Int32 → Int32 → Int32 → Sg → Option (Int32 × Sg))) {K : (Int32 × Sg) → Prop} (hQ : RI p l e R s m args below meth c 9 D ad cI cB A cells slots Q prog_13_method_51_code false K) (hk : ∀ (l3 : Int32) (l4 : Int32) (l5 : Int32) (σ : Sg), wpO (kont l3 l4 l5 σ) K → V p l e R s m args below meth c 9 D A cells slots Q (wl ad cI cB σ) 139 [(0, Value.ref (ad 91)), (1, Value.int l1), (2, Value.int l2), (3, Value.int l3), (4, Value.int l4), (5, Value.int l5)] []) : ∀ (n : Nat) (l3 : Int32) (l4 : Int32) (l5 : Int32) (σ : Sg), wpO (Mo_tryFor_L15 fu l1 l2 kont n l3 l4 l5 σ) K → V p l e R s m args below meth c 9 D A cells slots Q (wl ad cI cB σ) 15 [(0, Value.ref (ad 91)), (1, Value.int l1), (2, Value.int l2), (3, Value.int l3), (4, Value.int l4), (5, Value.int l5)] [] := by
  intro n
  induction n with
  | zero =>
    intro l3 l4 l5 σ h
    exact (wp_none h).elim
  | succ n ih =>
    intro l3 l4 l5 σ h
    rw [Mo_tryFor_L15] at h
    refine V_iload X 5 d_Mo_tryFor_15 rfl ?_
    refine V_bipush (v := 18) X d_Mo_tryFor_17 (by decide) ?_
    refine V_icmp_gt X 139 d_Mo_tryFor_19 (by decide) h (fun c3 h => ?_) (fun c3 h => ?_)
    · skip
      exact hk l3 l4 l5 σ h
    · skip
      refine V_iload_n X 2 d_Mo_tryFor_22 rfl ?_
      refine V_if_eq X 139 d_Mo_tryFor_23 (by decide) h (fun c4 h => ?_) (fun c4 h => ?_)
      · skip
        exact hk l3 l4 l5 σ h
      · skip
        refine V_iconst (v := 0) X d_Mo_tryFor_26 (by decide) ?_
        refine V_istore X [(6, Value.int (0 : Int32)), (0, Value.ref (ad 91)), (1, Value.int l1), (2, Value.int l2), (3, Value.int l3), (4, Value.int l4), (5, Value.int l5)] d_Mo_tryFor_27 (by decide) rfl ?_
        refine V_iconst (v := 1) X d_Mo_tryFor_29 (by decide) ?_
        refine V_istore X [(7, Value.int (1 : Int32)), (6, Value.int (0 : Int32)), (0, Value.ref (ad 91)), (1, Value.int l1), (2, Value.int l2), (3, Value.int l3), (4, Value.int l4), (5, Value.int l5)] d_Mo_tryFor_30 (by decide) rfl ?_
        refine V_sub (lv' := [(0, Value.ref (ad 91)), (1, Value.int l1), (2, Value.int l2), (3, Value.int l3), (4, Value.int l4), (5, Value.int l5), (6, Value.int (0 : Int32)), (7, Value.int (1 : Int32))]) [2, 3, 4, 5, 6, 7, 1, 0] rfl ?_
        refine Mo_tryFor_L32_ok X fu l1 l2 l3 l4 l5 _ hQ (fun l6_11 l7_12 s13 h => ?_) fu (0 : Int32) (1 : Int32) σ h
        refine V_iload_n X 2 d_Mo_tryFor_78 rfl ?_
        refine V_cI X h (fun r14 q => C_S X [Value.int l2] mt_Mo_size ms_Mo_size ml_Mo_169 (k_Mo_size fu s13 l2 r14 q) rfl rfl (by omega) (Nat.le_of_ble_eq_true rfl) d_Mo_tryFor_79) (fun r14 h => ?_)
        refine V_iload X 6 d_Mo_tryFor_82 rfl ?_
        refine V_isub X d_Mo_tryFor_84 ?_
        refine V_istore X [(7, Value.int (r14 - l6_11)), (0, Value.ref (ad 91)), (1, Value.int l1), (2, Value.int l2), (3, Value.int l3), (4, Value.int l4), (5, Value.int l5), (6, Value.int l6_11)] d_Mo_tryFor_85 (by decide) rfl ?_
        refine V_iload X 7 d_Mo_tryFor_87 rfl ?_
        refine V_iload X 0 d_Mo_tryFor_89 rfl ?_
        refine V_icmp_le X 99 d_Mo_tryFor_91 (by decide) h (fun c15 h => ?_) (fun c15 h => ?_)
        · skip
          refine V_iload X 0 d_Mo_tryFor_99 rfl ?_
          refine V_istore X [(8, Value.int (r14 - l6_11)), (7, Value.int (r14 - l6_11)), (0, Value.ref (ad 91)), (1, Value.int l1), (2, Value.int l2), (3, Value.int l3), (4, Value.int l4), (5, Value.int l5), (6, Value.int l6_11)] d_Mo_tryFor_101 (by decide) rfl ?_
          refine V_iload X 0 d_Mo_tryFor_103 rfl ?_
          refine V_iload X 6 d_Mo_tryFor_105 rfl ?_
          refine V_icmp_ge X 115 d_Mo_tryFor_107 (by decide) h (fun c16 h => ?_) (fun c16 h => ?_)
          · skip
            refine V_iload_n X 5 d_Mo_tryFor_115 rfl ?_
            refine V_istore_n X [(3, Value.int l3), (8, Value.int (r14 - l6_11)), (7, Value.int (r14 - l6_11)), (0, Value.ref (ad 91)), (1, Value.int l1), (2, Value.int l2), (4, Value.int l4), (5, Value.int l5), (6, Value.int l6_11)] d_Mo_tryFor_116 (by decide) rfl ?_
            refine V_iload X 1 d_Mo_tryFor_117 rfl ?_
            refine V_iload X 6 d_Mo_tryFor_119 rfl ?_
            refine V_icmp_ge X 129 d_Mo_tryFor_121 (by decide) h (fun c17 h => ?_) (fun c17 h => ?_)
            · skip
              refine V_iload X 6 d_Mo_tryFor_129 rfl ?_
              refine V_istore X [(4, Value.int l4), (3, Value.int l3), (8, Value.int (r14 - l6_11)), (7, Value.int (r14 - l6_11)), (0, Value.ref (ad 91)), (1, Value.int l1), (2, Value.int l2), (5, Value.int l5), (6, Value.int l6_11)] d_Mo_tryFor_131 (by decide) rfl ?_
              refine V_iinc X 7 (l5 + (1 : Int32)) [(5, Value.int (l5 + (1 : Int32))), (4, Value.int l4), (3, Value.int l3), (8, Value.int (r14 - l6_11)), (7, Value.int (r14 - l6_11)), (0, Value.ref (ad 91)), (1, Value.int l1), (2, Value.int l2), (6, Value.int l6_11)] d_Mo_tryFor_133 rfl (by first | rfl | decide) (by decide) rfl ?_
              refine V_goto X 15 d_Mo_tryFor_136 (by decide) ?_
              refine V_sub (lv' := [(0, Value.ref (ad 91)), (1, Value.int l1), (2, Value.int l2), (3, Value.int l3), (4, Value.int l4), (5, Value.int (l5 + (1 : Int32)))]) [5, 6, 7, 2, 1, 0] rfl ?_
              exact ih l3 l4 (l5 + (1 : Int32)) s13 h
            · skip
              refine V_iload X 1 d_Mo_tryFor_124 rfl ?_
              refine V_goto X 131 d_Mo_tryFor_126 (by decide) ?_
              refine V_istore X [(4, Value.int (r14 - l6_11)), (3, Value.int l3), (8, Value.int (r14 - l6_11)), (7, Value.int (r14 - l6_11)), (0, Value.ref (ad 91)), (1, Value.int l1), (2, Value.int l2), (5, Value.int l5), (6, Value.int l6_11)] d_Mo_tryFor_131 (by decide) rfl ?_
              refine V_iinc X 7 (l5 + (1 : Int32)) [(5, Value.int (l5 + (1 : Int32))), (4, Value.int (r14 - l6_11)), (3, Value.int l3), (8, Value.int (r14 - l6_11)), (7, Value.int (r14 - l6_11)), (0, Value.ref (ad 91)), (1, Value.int l1), (2, Value.int l2), (6, Value.int l6_11)] d_Mo_tryFor_133 rfl (by first | rfl | decide) (by decide) rfl ?_
              refine V_goto X 15 d_Mo_tryFor_136 (by decide) ?_
              refine V_sub (lv' := [(0, Value.ref (ad 91)), (1, Value.int l1), (2, Value.int l2), (3, Value.int l3), (4, Value.int (r14 - l6_11)), (5, Value.int (l5 + (1 : Int32)))]) [5, 6, 7, 2, 1, 0] rfl ?_
              exact ih l3 (r14 - l6_11) (l5 + (1 : Int32)) s13 h
          · skip
            refine V_iload X 7 d_Mo_tryFor_110 rfl ?_
            refine V_goto X 116 d_Mo_tryFor_112 (by decide) ?_
            refine V_istore_n X [(3, Value.int l5), (8, Value.int (r14 - l6_11)), (7, Value.int (r14 - l6_11)), (0, Value.ref (ad 91)), (1, Value.int l1), (2, Value.int l2), (4, Value.int l4), (5, Value.int l5), (6, Value.int l6_11)] d_Mo_tryFor_116 (by decide) rfl ?_
            refine V_iload X 1 d_Mo_tryFor_117 rfl ?_
            refine V_iload X 6 d_Mo_tryFor_119 rfl ?_
            refine V_icmp_ge X 129 d_Mo_tryFor_121 (by decide) h (fun c18 h => ?_) (fun c18 h => ?_)
            · skip
              refine V_iload X 6 d_Mo_tryFor_129 rfl ?_
              refine V_istore X [(4, Value.int l4), (3, Value.int l5), (8, Value.int (r14 - l6_11)), (7, Value.int (r14 - l6_11)), (0, Value.ref (ad 91)), (1, Value.int l1), (2, Value.int l2), (5, Value.int l5), (6, Value.int l6_11)] d_Mo_tryFor_131 (by decide) rfl ?_
              refine V_iinc X 7 (l5 + (1 : Int32)) [(5, Value.int (l5 + (1 : Int32))), (4, Value.int l4), (3, Value.int l5), (8, Value.int (r14 - l6_11)), (7, Value.int (r14 - l6_11)), (0, Value.ref (ad 91)), (1, Value.int l1), (2, Value.int l2), (6, Value.int l6_11)] d_Mo_tryFor_133 rfl (by first | rfl | decide) (by decide) rfl ?_
              refine V_goto X 15 d_Mo_tryFor_136 (by decide) ?_
              refine V_sub (lv' := [(0, Value.ref (ad 91)), (1, Value.int l1), (2, Value.int l2), (3, Value.int l5), (4, Value.int l4), (5, Value.int (l5 + (1 : Int32)))]) [5, 6, 7, 2, 1, 0] rfl ?_
              exact ih l5 l4 (l5 + (1 : Int32)) s13 h
            · skip
              refine V_iload X 1 d_Mo_tryFor_124 rfl ?_
              refine V_goto X 131 d_Mo_tryFor_126 (by decide) ?_
              refine V_istore X [(4, Value.int (r14 - l6_11)), (3, Value.int l5), (8, Value.int (r14 - l6_11)), (7, Value.int (r14 - l6_11)), (0, Value.ref (ad 91)), (1, Value.int l1), (2, Value.int l2), (5, Value.int l5), (6, Value.int l6_11)] d_Mo_tryFor_131 (by decide) rfl ?_
              refine V_iinc X 7 (l5 + (1 : Int32)) [(5, Value.int (l5 + (1 : Int32))), (4, Value.int (r14 - l6_11)), (3, Value.int l5), (8, Value.int (r14 - l6_11)), (7, Value.int (r14 - l6_11)), (0, Value.ref (ad 91)), (1, Value.int l1), (2, Value.int l2), (6, Value.int l6_11)] d_Mo_tryFor_133 rfl (by first | rfl | decide) (by decide) rfl ?_
              refine V_goto X 15 d_Mo_tryFor_136 (by decide) ?_
              refine V_sub (lv' := [(0, Value.ref (ad 91)), (1, Value.int l1), (2, Value.int l2), (3, Value.int l5), (4, Value.int (r14 - l6_11)), (5, Value.int (l5 + (1 : Int32)))]) [5, 6, 7, 2, 1, 0] rfl ?_
              exact ih l5 (r14 - l6_11) (l5 + (1 : Int32)) s13 h
        · skip
          refine V_iload X 7 d_Mo_tryFor_94 rfl ?_
          refine V_goto X 101 d_Mo_tryFor_96 (by decide) ?_
          refine V_istore X [(8, Value.int l6_11), (7, Value.int (r14 - l6_11)), (0, Value.ref (ad 91)), (1, Value.int l1), (2, Value.int l2), (3, Value.int l3), (4, Value.int l4), (5, Value.int l5), (6, Value.int l6_11)] d_Mo_tryFor_101 (by decide) rfl ?_
          refine V_iload X 0 d_Mo_tryFor_103 rfl ?_
          refine V_iload X 6 d_Mo_tryFor_105 rfl ?_
          refine V_icmp_ge X 115 d_Mo_tryFor_107 (by decide) h (fun c19 h => ?_) (fun c19 h => ?_)
          · skip
            refine V_iload_n X 5 d_Mo_tryFor_115 rfl ?_
            refine V_istore_n X [(3, Value.int l3), (8, Value.int l6_11), (7, Value.int (r14 - l6_11)), (0, Value.ref (ad 91)), (1, Value.int l1), (2, Value.int l2), (4, Value.int l4), (5, Value.int l5), (6, Value.int l6_11)] d_Mo_tryFor_116 (by decide) rfl ?_
            refine V_iload X 1 d_Mo_tryFor_117 rfl ?_
            refine V_iload X 6 d_Mo_tryFor_119 rfl ?_
            refine V_icmp_ge X 129 d_Mo_tryFor_121 (by decide) h (fun c20 h => ?_) (fun c20 h => ?_)
            · skip
              refine V_iload X 6 d_Mo_tryFor_129 rfl ?_
              refine V_istore X [(4, Value.int l4), (3, Value.int l3), (8, Value.int l6_11), (7, Value.int (r14 - l6_11)), (0, Value.ref (ad 91)), (1, Value.int l1), (2, Value.int l2), (5, Value.int l5), (6, Value.int l6_11)] d_Mo_tryFor_131 (by decide) rfl ?_
              refine V_iinc X 7 (l5 + (1 : Int32)) [(5, Value.int (l5 + (1 : Int32))), (4, Value.int l4), (3, Value.int l3), (8, Value.int l6_11), (7, Value.int (r14 - l6_11)), (0, Value.ref (ad 91)), (1, Value.int l1), (2, Value.int l2), (6, Value.int l6_11)] d_Mo_tryFor_133 rfl (by first | rfl | decide) (by decide) rfl ?_
              refine V_goto X 15 d_Mo_tryFor_136 (by decide) ?_
              refine V_sub (lv' := [(0, Value.ref (ad 91)), (1, Value.int l1), (2, Value.int l2), (3, Value.int l3), (4, Value.int l4), (5, Value.int (l5 + (1 : Int32)))]) [5, 6, 7, 2, 1, 0] rfl ?_
              exact ih l3 l4 (l5 + (1 : Int32)) s13 h
            · skip
              refine V_iload X 1 d_Mo_tryFor_124 rfl ?_
              refine V_goto X 131 d_Mo_tryFor_126 (by decide) ?_
              refine V_istore X [(4, Value.int l6_11), (3, Value.int l3), (8, Value.int l6_11), (7, Value.int (r14 - l6_11)), (0, Value.ref (ad 91)), (1, Value.int l1), (2, Value.int l2), (5, Value.int l5), (6, Value.int l6_11)] d_Mo_tryFor_131 (by decide) rfl ?_
              refine V_iinc X 7 (l5 + (1 : Int32)) [(5, Value.int (l5 + (1 : Int32))), (4, Value.int l6_11), (3, Value.int l3), (8, Value.int l6_11), (7, Value.int (r14 - l6_11)), (0, Value.ref (ad 91)), (1, Value.int l1), (2, Value.int l2), (6, Value.int l6_11)] d_Mo_tryFor_133 rfl (by first | rfl | decide) (by decide) rfl ?_
              refine V_goto X 15 d_Mo_tryFor_136 (by decide) ?_
              refine V_sub (lv' := [(0, Value.ref (ad 91)), (1, Value.int l1), (2, Value.int l2), (3, Value.int l3), (4, Value.int l6_11), (5, Value.int (l5 + (1 : Int32)))]) [5, 6, 7, 2, 1, 0] rfl ?_
              exact ih l3 l6_11 (l5 + (1 : Int32)) s13 h
          · skip
            refine V_iload X 7 d_Mo_tryFor_110 rfl ?_
            refine V_goto X 116 d_Mo_tryFor_112 (by decide) ?_
            refine V_istore_n X [(3, Value.int l5), (8, Value.int l6_11), (7, Value.int (r14 - l6_11)), (0, Value.ref (ad 91)), (1, Value.int l1), (2, Value.int l2), (4, Value.int l4), (5, Value.int l5), (6, Value.int l6_11)] d_Mo_tryFor_116 (by decide) rfl ?_
            refine V_iload X 1 d_Mo_tryFor_117 rfl ?_
            refine V_iload X 6 d_Mo_tryFor_119 rfl ?_
            refine V_icmp_ge X 129 d_Mo_tryFor_121 (by decide) h (fun c21 h => ?_) (fun c21 h => ?_)
            · skip
              refine V_iload X 6 d_Mo_tryFor_129 rfl ?_
              refine V_istore X [(4, Value.int l4), (3, Value.int l5), (8, Value.int l6_11), (7, Value.int (r14 - l6_11)), (0, Value.ref (ad 91)), (1, Value.int l1), (2, Value.int l2), (5, Value.int l5), (6, Value.int l6_11)] d_Mo_tryFor_131 (by decide) rfl ?_
              refine V_iinc X 7 (l5 + (1 : Int32)) [(5, Value.int (l5 + (1 : Int32))), (4, Value.int l4), (3, Value.int l5), (8, Value.int l6_11), (7, Value.int (r14 - l6_11)), (0, Value.ref (ad 91)), (1, Value.int l1), (2, Value.int l2), (6, Value.int l6_11)] d_Mo_tryFor_133 rfl (by first | rfl | decide) (by decide) rfl ?_
              refine V_goto X 15 d_Mo_tryFor_136 (by decide) ?_
              refine V_sub (lv' := [(0, Value.ref (ad 91)), (1, Value.int l1), (2, Value.int l2), (3, Value.int l5), (4, Value.int l4), (5, Value.int (l5 + (1 : Int32)))]) [5, 6, 7, 2, 1, 0] rfl ?_
              exact ih l5 l4 (l5 + (1 : Int32)) s13 h
            · skip
              refine V_iload X 1 d_Mo_tryFor_124 rfl ?_
              refine V_goto X 131 d_Mo_tryFor_126 (by decide) ?_
              refine V_istore X [(4, Value.int l6_11), (3, Value.int l5), (8, Value.int l6_11), (7, Value.int (r14 - l6_11)), (0, Value.ref (ad 91)), (1, Value.int l1), (2, Value.int l2), (5, Value.int l5), (6, Value.int l6_11)] d_Mo_tryFor_131 (by decide) rfl ?_
              refine V_iinc X 7 (l5 + (1 : Int32)) [(5, Value.int (l5 + (1 : Int32))), (4, Value.int l6_11), (3, Value.int l5), (8, Value.int l6_11), (7, Value.int (r14 - l6_11)), (0, Value.ref (ad 91)), (1, Value.int l1), (2, Value.int l2), (6, Value.int l6_11)] d_Mo_tryFor_133 rfl (by first | rfl | decide) (by decide) rfl ?_
              refine V_goto X 15 d_Mo_tryFor_136 (by decide) ?_
              refine V_sub (lv' := [(0, Value.ref (ad 91)), (1, Value.int l1), (2, Value.int l2), (3, Value.int l5), (4, Value.int l6_11), (5, Value.int (l5 + (1 : Int32)))]) [5, 6, 7, 2, 1, 0] rfl ?_
              exact ih l5 l6_11 (l5 + (1 : Int32)) s13 h
set_option maxHeartbeats 4000000 in
set_option maxRecDepth 100000 in
theorem k_Mo_tryFor (fu : Nat) (σ : Sg) (a0 : Int32) (r : Int32) (σ' : Sg) (h : Mo_tryFor fu σ a0 = some (r, σ')) : Evc y_Mo_tryFor prog_13_method_51_code 9 (some .int) 5 (fun ad => [Value.ref (ad 91), Value.int a0]) σ σ' (fun _ => some (.int r)) := by
  refine Evc_ofI (by decide) (fun ad => Nat.le_of_ble_eq_true rfl) (fun p l e R s m args below meth c D ad cI cB A Q X hQ => ?_)
  have X : Cx p R s m args meth c jR10 prog_13_method_51_code 9 5 D ad cI cB A 0 0 := X
  have h : wpO (Mo_tryFor fu σ a0) (fun q => q = (r, σ')) := ⟨_, h, rfl⟩
  rw [Mo_tryFor] at h
  refine V_sub (lv' := [(0, Value.ref (ad 91)), (1, Value.int a0)]) [0, 1] rfl ?_
  refine V_aload_n X 0 d_Mo_tryFor_0 rfl ?_
  refine V_iload_n X 1 d_Mo_tryFor_1 rfl ?_
  refine V_cP X h (fun r1 s2 q => C_V (q := 10) X [Value.int a0] mt_Mo_needsOf ms_Mo_needsOf ml_Mo_172 (k_Mo_needsOf fu σ a0 r1 s2 q) rfl rfl (by omega) (Nat.le_of_ble_eq_true rfl) rfl (by decide) (by decide) (by decide) d_Mo_tryFor_2) (fun r1 s2 h => ?_)
  refine V_istore_n X [(2, Value.int r1), (0, Value.ref (ad 91)), (1, Value.int a0)] d_Mo_tryFor_5 (by decide) rfl ?_
  refine V_iconst (v := -1) X d_Mo_tryFor_6 (by decide) ?_
  refine V_istore_n X [(3, Value.int (-1 : Int32)), (2, Value.int r1), (0, Value.ref (ad 91)), (1, Value.int a0)] d_Mo_tryFor_7 (by decide) rfl ?_
  refine V_ldc X d_Mo_tryFor_8 kc_Mo_196 ?_
  refine V_istore X [(4, Value.int (268435456 : Int32)), (3, Value.int (-1 : Int32)), (2, Value.int r1), (0, Value.ref (ad 91)), (1, Value.int a0)] d_Mo_tryFor_10 (by decide) rfl ?_
  refine V_iconst (v := 1) X d_Mo_tryFor_12 (by decide) ?_
  refine V_istore X [(5, Value.int (1 : Int32)), (4, Value.int (268435456 : Int32)), (3, Value.int (-1 : Int32)), (2, Value.int r1), (0, Value.ref (ad 91)), (1, Value.int a0)] d_Mo_tryFor_13 (by decide) rfl ?_
  refine V_sub (lv' := [(0, Value.ref (ad 91)), (1, Value.int a0), (2, Value.int r1), (3, Value.int (-1 : Int32)), (4, Value.int (268435456 : Int32)), (5, Value.int (1 : Int32))]) [4, 5, 3, 2, 1, 0] rfl ?_
  refine Mo_tryFor_L15_ok X fu a0 r1 _ hQ (fun l3_22 l4_23 l5_24 s25 h => ?_) fu (-1 : Int32) (268435456 : Int32) (1 : Int32) s2 h
  refine V_iload_n X 3 d_Mo_tryFor_139 rfl ?_
  have h9 := wp_some h
  exact hQ _ _ h9 (fun h9 => absurd h9 (by decide)) _ _ d_Mo_tryFor_140
set_option maxHeartbeats 4000000 in
set_option maxRecDepth 100000 in
theorem k_Mo_suitNow (fu : Nat) (σ : Sg) (a0 : Int32) (a1 : Int32) (r : Int32) (σ' : Sg) (h : Mo_suitNow fu σ a0 a1 = some (r, σ')) : Evc y_Mo_suitNow prog_13_method_27_code 3 (some .int) 6 (fun ad => [Value.ref (ad 91), Value.int a0, Value.int a1]) σ σ' (fun _ => some (.int r)) := by
  refine Evc_ofI (by decide) (fun ad => Nat.le_of_ble_eq_true rfl) (fun p l e R s m args below meth c D ad cI cB A Q X hQ => ?_)
  have X : Cx p R s m args meth c jR10 prog_13_method_27_code 3 6 D ad cI cB A 0 0 := X
  have h : wpO (Mo_suitNow fu σ a0 a1) (fun q => q = (r, σ')) := ⟨_, h, rfl⟩
  rw [Mo_suitNow] at h
  refine V_sub (lv' := [(0, Value.ref (ad 91)), (1, Value.int a0), (2, Value.int a1)]) [0, 1, 2] rfl ?_
  refine V_iload_n X 2 d_Mo_suitNow_0 rfl ?_
  rcases wp_case h with ⟨c1, h⟩ | ⟨c1, h⟩
  · skip
    refine V_tableIn X 51 52 d_Mo_suitNow_1 (0) (by rw [c1]; decide) (by decide) (by decide) rfl (by decide) ?_
    refine V_aload_n X 0 d_Mo_suitNow_52 rfl ?_
    refine V_getR X 10 5 94 rfl ji10 (by decide) (by decide) (by decide) fl_Mo_16 d_Mo_suitNow_53 (by decide) (by decide) (by decide) (by decide) ?_
    refine V_iload_n X 1 d_Mo_suitNow_56 rfl ?_
    refine V_iald X d_Mo_suitNow_57 (by decide) (by decide) rfl h (fun h => ?_)
    have h9 := wp_some h
    exact hQ _ _ h9 (fun h9 => absurd h9 (by decide)) _ _ d_Mo_suitNow_58
  · skip
    rcases wp_case h with ⟨c2, h⟩ | ⟨c2, h⟩
    · skip
      refine V_tableIn X 58 59 d_Mo_suitNow_1 (1) (by rw [c2]; decide) (by decide) (by decide) rfl (by decide) ?_
      refine V_aload_n X 0 d_Mo_suitNow_59 rfl ?_
      refine V_getR X 10 6 95 rfl ji10 (by decide) (by decide) (by decide) fl_Mo_19 d_Mo_suitNow_60 (by decide) (by decide) (by decide) (by decide) ?_
      refine V_iload_n X 1 d_Mo_suitNow_63 rfl ?_
      refine V_iald X d_Mo_suitNow_64 (by decide) (by decide) rfl h (fun h => ?_)
      have h9 := wp_some h
      exact hQ _ _ h9 (fun h9 => absurd h9 (by decide)) _ _ d_Mo_suitNow_65
    · skip
      rcases wp_case h with ⟨c3, h⟩ | ⟨c3, h⟩
      · skip
        refine V_tableIn X 65 66 d_Mo_suitNow_1 (2) (by rw [c3]; decide) (by decide) (by decide) rfl (by decide) ?_
        refine V_aload_n X 0 d_Mo_suitNow_66 rfl ?_
        refine V_getR X 10 7 96 rfl ji10 (by decide) (by decide) (by decide) fl_Mo_22 d_Mo_suitNow_67 (by decide) (by decide) (by decide) (by decide) ?_
        refine V_iload_n X 1 d_Mo_suitNow_70 rfl ?_
        refine V_iald X d_Mo_suitNow_71 (by decide) (by decide) rfl h (fun h => ?_)
        have h9 := wp_some h
        exact hQ _ _ h9 (fun h9 => absurd h9 (by decide)) _ _ d_Mo_suitNow_72
      · skip
        rcases wp_case h with ⟨c4, h⟩ | ⟨c4, h⟩
        · skip
          refine V_tableIn X 72 73 d_Mo_suitNow_1 (3) (by rw [c4]; decide) (by decide) (by decide) rfl (by decide) ?_
          refine V_aload_n X 0 d_Mo_suitNow_73 rfl ?_
          refine V_getR X 10 8 97 rfl ji10 (by decide) (by decide) (by decide) fl_Mo_25 d_Mo_suitNow_74 (by decide) (by decide) (by decide) (by decide) ?_
          refine V_iload_n X 1 d_Mo_suitNow_77 rfl ?_
          refine V_iald X d_Mo_suitNow_78 (by decide) (by decide) rfl h (fun h => ?_)
          have h9 := wp_some h
          exact hQ _ _ h9 (fun h9 => absurd h9 (by decide)) _ _ d_Mo_suitNow_79
        · skip
          rcases wp_case h with ⟨c5, h⟩ | ⟨c5, h⟩
          · skip
            refine V_tableIn X 79 80 d_Mo_suitNow_1 (4) (by rw [c5]; decide) (by decide) (by decide) rfl (by decide) ?_
            refine V_aload_n X 0 d_Mo_suitNow_80 rfl ?_
            refine V_iload_n X 1 d_Mo_suitNow_81 rfl ?_
            refine V_cI X h (fun r6 q => C_V (q := 10) X [Value.int a0] mt_Mo_cost ms_Mo_cost ml_Mo_152 (k_Mo_cost fu σ a0 r6 q) rfl rfl (by omega) (Nat.le_of_ble_eq_true rfl) rfl (by decide) (by decide) (by decide) d_Mo_suitNow_82) (fun r6 h => ?_)
            have h9 := wp_some h
            exact hQ _ _ h9 (fun h9 => absurd h9 (by decide)) _ _ d_Mo_suitNow_85
          · skip
            rcases wp_case h with ⟨c7, h⟩ | ⟨c7, h⟩
            · skip
              refine V_tableIn X 85 86 d_Mo_suitNow_1 (5) (by rw [c7]; decide) (by decide) (by decide) rfl (by decide) ?_
              refine V_aload_n X 0 d_Mo_suitNow_86 rfl ?_
              refine V_getI X 10 9 rfl ji10 (by decide) (by decide) (by decide) fl_Mo_127 d_Mo_suitNow_87 (by decide) (by decide) (by decide) ?_
              refine V_iload_n X 1 d_Mo_suitNow_90 rfl ?_
              refine V_cI X h (fun r8 q => C_S X [Value.int (gF σ 91 9), Value.int a0] mt_Mo_isIn ms_Mo_isIn ml_Mo_142 (k_Mo_isIn σ (gF σ 91 9) a0 r8 q) rfl rfl (by omega) (Nat.le_of_ble_eq_true rfl) d_Mo_suitNow_91) (fun r8 h => ?_)
              refine V_if_eq X 101 d_Mo_suitNow_94 (by decide) h (fun c9 h => ?_) (fun c9 h => ?_)
              · skip
                refine V_iconst (v := 0) X d_Mo_suitNow_101 (by decide) ?_
                have h9 := wp_some h
                exact hQ _ _ h9 (fun h9 => absurd h9 (by decide)) _ _ d_Mo_suitNow_102
              · skip
                refine V_iconst (v := 1) X d_Mo_suitNow_97 (by decide) ?_
                refine V_goto X 102 d_Mo_suitNow_98 (by decide) ?_
                have h9 := wp_some h
                exact hQ _ _ h9 (fun h9 => absurd h9 (by decide)) _ _ d_Mo_suitNow_102
            · skip
              rcases wp_case h with ⟨c10, h⟩ | ⟨c10, h⟩
              · skip
                refine V_tableIn X 102 103 d_Mo_suitNow_1 (6) (by rw [c10]; decide) (by decide) (by decide) rfl (by decide) ?_
                refine V_aload_n X 0 d_Mo_suitNow_103 rfl ?_
                refine V_iload_n X 1 d_Mo_suitNow_104 rfl ?_
                refine V_cI X h (fun r11 q => C_V (q := 10) X [Value.int a0] mt_Mo_allOn ms_Mo_allOn ml_Mo_166 (k_Mo_allOn fu σ a0 r11 q) rfl rfl (by omega) (Nat.le_of_ble_eq_true rfl) rfl (by decide) (by decide) (by decide) d_Mo_suitNow_105) (fun r11 h => ?_)
                have h9 := wp_some h
                exact hQ _ _ h9 (fun h9 => absurd h9 (by decide)) _ _ d_Mo_suitNow_108
              · skip
                rcases wp_case h with ⟨c12, h⟩ | ⟨c12, h⟩
                · skip
                  refine V_tableIn X 108 109 d_Mo_suitNow_1 (7) (by rw [c12]; decide) (by decide) (by decide) rfl (by decide) ?_
                  refine V_aload_n X 0 d_Mo_suitNow_109 rfl ?_
                  refine V_iload_n X 1 d_Mo_suitNow_110 rfl ?_
                  refine V_cI X h (fun r13 q => C_V (q := 10) X [Value.int a0] mt_Mo_allOn ms_Mo_allOn ml_Mo_166 (k_Mo_allOn fu σ a0 r13 q) rfl rfl (by omega) (Nat.le_of_ble_eq_true rfl) rfl (by decide) (by decide) (by decide) d_Mo_suitNow_111) (fun r13 h => ?_)
                  refine V_aload_n X 0 d_Mo_suitNow_114 rfl ?_
                  refine V_getI X 10 9 rfl ji10 (by decide) (by decide) (by decide) fl_Mo_127 d_Mo_suitNow_115 (by decide) (by decide) (by decide) ?_
                  refine V_iand X d_Mo_suitNow_118 ?_
                  refine V_cI X h (fun r14 q => C_S X [Value.int (r13 &&& (gF σ 91 9))] mt_Mo_size ms_Mo_size ml_Mo_169 (k_Mo_size fu σ (r13 &&& (gF σ 91 9)) r14 q) rfl rfl (by omega) (Nat.le_of_ble_eq_true rfl) d_Mo_suitNow_119) (fun r14 h => ?_)
                  have h9 := wp_some h
                  exact hQ _ _ h9 (fun h9 => absurd h9 (by decide)) _ _ d_Mo_suitNow_122
                · skip
                  rcases wp_case h with ⟨c15, h⟩ | ⟨c15, h⟩
                  · skip
                    refine V_tableIn X 122 123 d_Mo_suitNow_1 (8) (by rw [c15]; decide) (by decide) (by decide) rfl (by decide) ?_
                    refine V_aload_n X 0 d_Mo_suitNow_123 rfl ?_
                    refine V_iload_n X 1 d_Mo_suitNow_124 rfl ?_
                    refine V_cP X h (fun r16 s17 q => C_V (q := 10) X [Value.int a0] mt_Mo_needsOf ms_Mo_needsOf ml_Mo_172 (k_Mo_needsOf fu σ a0 r16 s17 q) rfl rfl (by omega) (Nat.le_of_ble_eq_true rfl) rfl (by decide) (by decide) (by decide) d_Mo_suitNow_125) (fun r16 s17 h => ?_)
                    have h9 := wp_some h
                    exact hQ _ _ h9 (fun h9 => absurd h9 (by decide)) _ _ d_Mo_suitNow_128
                  · skip
                    refine V_tableOut X 129 d_Mo_suitNow_1 (by have z0 := sw_ne c1 (0) (by decide); have z1 := sw_ne c2 (1) (by decide); have z2 := sw_ne c3 (2) (by decide); have z3 := sw_ne c4 (3) (by decide); have z4 := sw_ne c5 (4) (by decide); have z5 := sw_ne c7 (5) (by decide); have z6 := sw_ne c10 (6) (by decide); have z7 := sw_ne c12 (7) (by decide); have z8 := sw_ne c15 (8) (by decide); omega) (by decide) ?_
                    refine V_aload_n X 0 d_Mo_suitNow_129 rfl ?_
                    refine V_iload_n X 1 d_Mo_suitNow_130 rfl ?_
                    refine V_cP X h (fun r18 s19 q => C_V (q := 10) X [Value.int a0] mt_Mo_tryFor ms_Mo_tryFor ml_Mo_175 (k_Mo_tryFor fu σ a0 r18 s19 q) rfl rfl (by omega) (Nat.le_of_ble_eq_true rfl) rfl (by decide) (by decide) (by decide) d_Mo_suitNow_131) (fun r18 s19 h => ?_)
                    have h9 := wp_some h
                    exact hQ _ _ h9 (fun h9 => absurd h9 (by decide)) _ _ d_Mo_suitNow_134
set_option maxHeartbeats 4000000 in
set_option maxRecDepth 100000 in
theorem Mo_divisor_L4_ok {p : Program} {l : Launch} {e : Env} {R : Room} {s : State} {m : MethodId} {args : Array Value} {below : List Frame} {meth : Method} {c : Code} {D : va_G} {ad : Nat → Nat} {cI cB : ClassId} {A : Nat → Prop} {cells slots : Nat} {Q : State → Prop} (X : Cx p R s m args meth c jR10 prog_13_method_6_code 5 1 D ad cI cB A cells slots) (fu : Nat) (σ : Sg) (kont : (Int32 → Int32 → Option Int32)) {K : Int32 → Prop} (hQ : RP p l e R s m args below meth c 5 D ad cI cB A cells slots Q prog_13_method_6_code false σ K) (hk : ∀ (l2 : Int32) (l3 : Int32), wpO (kont l2 l3) K → V p l e R s m args below meth c 5 D A cells slots Q (wl ad cI cB σ) 21 [(2, Value.int l2), (3, Value.int l3)] []) : ∀ (n : Nat) (l2 : Int32) (l3 : Int32), wpO (Mo_divisor_L4 fu kont n l2 l3) K → V p l e R s m args below meth c 5 D A cells slots Q (wl ad cI cB σ) 4 [(2, Value.int l2), (3, Value.int l3)] [] := by
  intro n
  induction n with
  | zero =>
    intro l2 l3 h
    exact (wp_none h).elim
  | succ n ih =>
    intro l2 l3 h
    rw [Mo_divisor_L4] at h
    refine V_iload_n X 1 d_Mo_divisor_4 rfl ?_
    refine V_if_eq X 21 d_Mo_divisor_5 (by decide) h (fun c1 h => ?_) (fun c1 h => ?_)
    · skip
      exact hk l2 l3 h
    · skip
      refine V_iload_n X 0 d_Mo_divisor_8 rfl ?_
      refine V_iload_n X 1 d_Mo_divisor_9 rfl ?_
      obtain ⟨hz, h⟩ := wp_nz h
      refine V_irem X d_Mo_divisor_10 hz ?_
      refine V_istore X [(4, Value.int (l2 - l2 / l3 * l3)), (2, Value.int l2), (3, Value.int l3)] d_Mo_divisor_11 (by decide) rfl ?_
      refine V_iload_n X 2 d_Mo_divisor_13 rfl ?_
      refine V_istore_n X [(2, Value.int l3), (4, Value.int (l2 - l2 / l3 * l3)), (3, Value.int l3)] d_Mo_divisor_14 (by decide) rfl ?_
      refine V_iload X 1 d_Mo_divisor_15 rfl ?_
      refine V_istore_n X [(3, Value.int (l2 - l2 / l3 * l3)), (2, Value.int l3), (4, Value.int (l2 - l2 / l3 * l3))] d_Mo_divisor_17 (by decide) rfl ?_
      refine V_goto X 4 d_Mo_divisor_18 (by decide) ?_
      refine V_sub (lv' := [(2, Value.int l3), (3, Value.int (l2 - l2 / l3 * l3))]) [1, 0] rfl ?_
      exact ih l3 (l2 - l2 / l3 * l3) h
set_option maxHeartbeats 4000000 in
set_option maxRecDepth 100000 in
theorem k_Mo_divisor (fu : Nat) (σ : Sg) (a0 : Int32) (a1 : Int32) (r : Int32) (h : Mo_divisor fu a0 a1 = some r) : Evc y_Mo_divisor prog_13_method_6_code 5 (some .int) 1 (fun ad => [Value.int a0, Value.int a1]) σ σ (fun _ => some (.int r)) := by
  refine Evc_ofI (by decide) (fun ad => Nat.le_of_ble_eq_true rfl) (fun p l e R s m args below meth c D ad cI cB A Q X hQ => ?_)
  have X : Cx p R s m args meth c jR10 prog_13_method_6_code 5 1 D ad cI cB A 0 0 := X
  have hQ := hQ.pure
  have h : wpO (Mo_divisor fu a0 a1) (fun q => q = r) := ⟨_, h, rfl⟩
  rw [Mo_divisor] at h
  refine V_sub (lv' := [(0, Value.int a0), (1, Value.int a1)]) [0, 1] rfl ?_
  refine V_iload_n X 0 d_Mo_divisor_0 rfl ?_
  refine V_istore_n X [(2, Value.int a0), (0, Value.int a0), (1, Value.int a1)] d_Mo_divisor_1 (by decide) rfl ?_
  refine V_iload_n X 2 d_Mo_divisor_2 rfl ?_
  refine V_istore_n X [(3, Value.int a1), (2, Value.int a0), (0, Value.int a0), (1, Value.int a1)] d_Mo_divisor_3 (by decide) rfl ?_
  refine V_sub (lv' := [(2, Value.int a0), (3, Value.int a1)]) [1, 0] rfl ?_
  refine Mo_divisor_L4_ok X fu σ _ hQ (fun l2_2 l3_3 h => ?_) fu a0 a1 h
  refine V_iload_n X 0 d_Mo_divisor_21 rfl ?_
  have h9 := wp_some h
  exact hQ _ h9 (fun h9 => absurd h9 (by decide)) _ _ d_Mo_divisor_22
set_option maxHeartbeats 4000000 in
set_option maxRecDepth 100000 in
theorem Mo_oddsNow_L3_ok {p : Program} {l : Launch} {e : Env} {R : Room} {s : State} {m : MethodId} {args : Array Value} {below : List Frame} {meth : Method} {c : Code} {D : va_G} {ad : Nat → Nat} {cI cB : ClassId} {A : Nat → Prop} {cells slots : Nat} {Q : State → Prop} (X : Cx p R s m args meth c jR10 prog_13_method_45_code 9 3 D ad cI cB A cells slots) (fu : Nat) (l1 : Int32) (l2 : Int32) (l3 : Int32) (l4 : Int32) (kont : (Int32 → Sg → Option (Int32 × Sg))) {K : (Int32 × Sg) → Prop} (hQ : RI p l e R s m args below meth c 9 D ad cI cB A cells slots Q prog_13_method_45_code false K) (hk : ∀ (l5 : Int32) (σ : Sg), wpO (kont l5 σ) K → V p l e R s m args below meth c 9 D A cells slots Q (wl ad cI cB σ) 39 [(0, Value.ref (ad 91)), (1, Value.int l1), (2, Value.int l2), (3, Value.int l3), (4, Value.int l4), (5, Value.int l5)] []) : ∀ (n : Nat) (l5 : Int32) (σ : Sg), wpO (Mo_oddsNow_L3 fu l1 l2 l3 l4 kont n l5 σ) K → V p l e R s m args below meth c 9 D A cells slots Q (wl ad cI cB σ) 3 [(0, Value.ref (ad 91)), (1, Value.int l1), (2, Value.int l2), (3, Value.int l3), (4, Value.int l4), (5, Value.int l5)] [] := by
  intro n
  induction n with
  | zero =>
    intro l5 σ h
    exact (wp_none h).elim
  | succ n ih =>
    intro l5 σ h
    rw [Mo_oddsNow_L3] at h
    refine V_iload X 5 d_Mo_oddsNow_3 rfl ?_
    refine V_bipush (v := 20) X d_Mo_oddsNow_5 (by decide) ?_
    refine V_icmp_gt X 39 d_Mo_oddsNow_7 (by decide) h (fun c1 h => ?_) (fun c1 h => ?_)
    · skip
      exact hk l5 σ h
    · skip
      refine V_aload_n X 0 d_Mo_oddsNow_10 rfl ?_
      refine V_getR X 10 28 106 rfl ji10 (by decide) (by decide) (by decide) fl_Mo_53 d_Mo_oddsNow_11 (by decide) (by decide) (by decide) (by decide) ?_
      refine V_iload X 5 d_Mo_oddsNow_14 rfl ?_
      refine V_iload X 5 d_Mo_oddsNow_16 rfl ?_
      refine V_aload_n X 0 d_Mo_oddsNow_18 rfl ?_
      refine V_getR X 10 3 92 rfl ji10 (by decide) (by decide) (by decide) fl_Mo_7 d_Mo_oddsNow_19 (by decide) (by decide) (by decide) (by decide) ?_
      refine V_iload_n X 2 d_Mo_oddsNow_22 rfl ?_
      refine V_iald X d_Mo_oddsNow_23 (by decide) (by decide) rfl h (fun h => ?_)
      refine V_icmp_ne X 31 d_Mo_oddsNow_24 (by decide) h (fun c2 h => ?_) (fun c2 h => ?_)
      · skip
        refine V_iconst (v := 0) X d_Mo_oddsNow_31 (by decide) ?_
        refine V_iast X d_Mo_oddsNow_32 (by decide) (by decide) rfl h (fun h => ?_)
        refine V_iinc X 5 (l5 + (1 : Int32)) [(5, Value.int (l5 + (1 : Int32))), (0, Value.ref (ad 91)), (1, Value.int l1), (2, Value.int l2), (3, Value.int l3), (4, Value.int l4)] d_Mo_oddsNow_33 rfl (by first | rfl | decide) (by decide) rfl ?_
        refine V_goto X 3 d_Mo_oddsNow_36 (by decide) ?_
        refine V_sub (lv' := [(0, Value.ref (ad 91)), (1, Value.int l1), (2, Value.int l2), (3, Value.int l3), (4, Value.int l4), (5, Value.int (l5 + (1 : Int32)))]) [1, 2, 3, 4, 5, 0] rfl ?_
        exact ih (l5 + (1 : Int32)) (sA σ 106 (ix l5) (0 : Int32)) h
      · skip
        refine V_iconst (v := 1) X d_Mo_oddsNow_27 (by decide) ?_
        refine V_goto X 32 d_Mo_oddsNow_28 (by decide) ?_
        refine V_iast X d_Mo_oddsNow_32 (by decide) (by decide) rfl h (fun h => ?_)
        refine V_iinc X 5 (l5 + (1 : Int32)) [(5, Value.int (l5 + (1 : Int32))), (0, Value.ref (ad 91)), (1, Value.int l1), (2, Value.int l2), (3, Value.int l3), (4, Value.int l4)] d_Mo_oddsNow_33 rfl (by first | rfl | decide) (by decide) rfl ?_
        refine V_goto X 3 d_Mo_oddsNow_36 (by decide) ?_
        refine V_sub (lv' := [(0, Value.ref (ad 91)), (1, Value.int l1), (2, Value.int l2), (3, Value.int l3), (4, Value.int l4), (5, Value.int (l5 + (1 : Int32)))]) [1, 2, 3, 4, 5, 0] rfl ?_
        exact ih (l5 + (1 : Int32)) (sA σ 106 (ix l5) (1 : Int32)) h
set_option maxHeartbeats 4000000 in
set_option maxRecDepth 100000 in
theorem Mo_oddsNow_L54_ok {p : Program} {l : Launch} {e : Env} {R : Room} {s : State} {m : MethodId} {args : Array Value} {below : List Frame} {meth : Method} {c : Code} {D : va_G} {ad : Nat → Nat} {cI cB : ClassId} {A : Nat → Prop} {cells slots : Nat} {Q : State → Prop} (X : Cx p R s m args meth c jR10 prog_13_method_45_code 9 3 D ad cI cB A cells slots) (fu : Nat) (l1 : Int32) (l2 : Int32) (l3 : Int32) (l4 : Int32) (l5 : Int32) (l6 : Int32) (kont : (Int32 → Sg → Option (Int32 × Sg))) {K : (Int32 × Sg) → Prop} (hQ : RI p l e R s m args below meth c 9 D ad cI cB A cells slots Q prog_13_method_45_code false K) (hk : ∀ (l7 : Int32) (σ : Sg), wpO (kont l7 σ) K → V p l e R s m args below meth c 9 D A cells slots Q (wl ad cI cB σ) 75 [(0, Value.ref (ad 91)), (1, Value.int l1), (2, Value.int l2), (3, Value.int l3), (4, Value.int l4), (5, Value.int l5), (6, Value.int l6), (7, Value.int l7)] []) : ∀ (n : Nat) (l7 : Int32) (σ : Sg), wpO (Mo_oddsNow_L54 fu l1 l2 l3 l4 l5 l6 kont n l7 σ) K → V p l e R s m args below meth c 9 D A cells slots Q (wl ad cI cB σ) 54 [(0, Value.ref (ad 91)), (1, Value.int l1), (2, Value.int l2), (3, Value.int l3), (4, Value.int l4), (5, Value.int l5), (6, Value.int l6), (7, Value.int l7)] [] := by
  intro n
  induction n with
  | zero =>
    intro l7 σ h
    exact (wp_none h).elim
  | succ n ih =>
    intro l7 σ h
    rw [Mo_oddsNow_L54] at h
    refine V_iload X 7 d_Mo_oddsNow_54 rfl ?_
    refine V_bipush (v := 20) X d_Mo_oddsNow_56 (by decide) ?_
    refine V_icmp_gt X 75 d_Mo_oddsNow_58 (by decide) h (fun c6 h => ?_) (fun c6 h => ?_)
    · skip
      exact hk l7 σ h
    · skip
      refine V_aload_n X 0 d_Mo_oddsNow_61 rfl ?_
      refine V_getR X 10 29 107 rfl ji10 (by decide) (by decide) (by decide) fl_Mo_56 d_Mo_oddsNow_62 (by decide) (by decide) (by decide) (by decide) ?_
      refine V_iload X 7 d_Mo_oddsNow_65 rfl ?_
      refine V_iconst (v := 0) X d_Mo_oddsNow_67 (by decide) ?_
      refine V_iast X d_Mo_oddsNow_68 (by decide) (by decide) rfl h (fun h => ?_)
      refine V_iinc X 7 (l7 + (1 : Int32)) [(7, Value.int (l7 + (1 : Int32))), (0, Value.ref (ad 91)), (1, Value.int l1), (2, Value.int l2), (3, Value.int l3), (4, Value.int l4), (5, Value.int l5), (6, Value.int l6)] d_Mo_oddsNow_69 rfl (by first | rfl | decide) (by decide) rfl ?_
      refine V_goto X 54 d_Mo_oddsNow_72 (by decide) ?_
      refine V_sub (lv' := [(0, Value.ref (ad 91)), (1, Value.int l1), (2, Value.int l2), (3, Value.int l3), (4, Value.int l4), (5, Value.int l5), (6, Value.int l6), (7, Value.int (l7 + (1 : Int32)))]) [1, 2, 3, 4, 5, 6, 7, 0] rfl ?_
      exact ih (l7 + (1 : Int32)) (sA σ 107 (ix l7) (0 : Int32)) h
set_option maxHeartbeats 4000000 in
set_option maxRecDepth 100000 in
theorem Mo_oddsNow_L88_ok {p : Program} {l : Launch} {e : Env} {R : Room} {s : State} {m : MethodId} {args : Array Value} {below : List Frame} {meth : Method} {c : Code} {D : va_G} {ad : Nat → Nat} {cI cB : ClassId} {A : Nat → Prop} {cells slots : Nat} {Q : State → Prop} (X : Cx p R s m args meth c jR10 prog_13_method_45_code 9 3 D ad cI cB A cells slots) (fu : Nat) (l1 : Int32) (l2 : Int32) (l3 : Int32) (l4 : Int32) (l5 : Int32) (l6 : Int32) (l7 : Int32) (kont : (Int32 → Sg → Option (Int32 × Sg))) {K : (Int32 × Sg) → Prop} (hQ : RI p l e R s m args below meth c 9 D ad cI cB A cells slots Q prog_13_method_45_code false K) (hk : ∀ (l8 : Int32) (σ : Sg), wpO (kont l8 σ) K → V p l e R s m args below meth c 9 D A cells slots Q (wl ad cI cB σ) 140 [(0, Value.ref (ad 91)), (1, Value.int l1), (2, Value.int l2), (3, Value.int l3), (4, Value.int l4), (5, Value.int l5), (6, Value.int l6), (7, Value.int l7), (8, Value.int l8)] []) : ∀ (n : Nat) (l8 : Int32) (σ : Sg), wpO (Mo_oddsNow_L88 fu l1 l2 l3 l4 l5 l6 l7 kont n l8 σ) K → V p l e R s m args below meth c 9 D A cells slots Q (wl ad cI cB σ) 88 [(0, Value.ref (ad 91)), (1, Value.int l1), (2, Value.int l2), (3, Value.int l3), (4, Value.int l4), (5, Value.int l5), (6, Value.int l6), (7, Value.int l7), (8, Value.int l8)] [] := by
  intro n
  induction n with
  | zero =>
    intro l8 σ h
    exact (wp_none h).elim
  | succ n ih =>
    intro l8 σ h
    rw [Mo_oddsNow_L88] at h
    refine V_iload X 8 d_Mo_oddsNow_88 rfl ?_
    refine V_aload_n X 0 d_Mo_oddsNow_90 rfl ?_
    refine V_getR X 10 4 93 rfl ji10 (by decide) (by decide) (by decide) fl_Mo_13 d_Mo_oddsNow_91 (by decide) (by decide) (by decide) (by decide) ?_
    refine V_iload_n X 2 d_Mo_oddsNow_94 rfl ?_
    refine V_iald X d_Mo_oddsNow_95 (by decide) (by decide) rfl h (fun h => ?_)
    refine V_icmp_gt X 140 d_Mo_oddsNow_96 (by decide) h (fun c10 h => ?_) (fun c10 h => ?_)
    · skip
      exact hk l8 σ h
    · skip
      refine V_aload_n X 0 d_Mo_oddsNow_99 rfl ?_
      refine V_getR X 10 29 107 rfl ji10 (by decide) (by decide) (by decide) fl_Mo_56 d_Mo_oddsNow_100 (by decide) (by decide) (by decide) (by decide) ?_
      refine V_iload X 7 d_Mo_oddsNow_103 rfl ?_
      refine V_iload X 8 d_Mo_oddsNow_105 rfl ?_
      refine V_iadd X d_Mo_oddsNow_107 ?_
      refine V_bipush (v := 20) X d_Mo_oddsNow_108 (by decide) ?_
      refine V_icmp_le X 118 d_Mo_oddsNow_110 (by decide) h (fun c11 h => ?_) (fun c11 h => ?_)
      · skip
        refine V_iload X 7 d_Mo_oddsNow_118 rfl ?_
        refine V_iload X 8 d_Mo_oddsNow_120 rfl ?_
        refine V_iadd X d_Mo_oddsNow_122 ?_
        refine V_dup2 X d_Mo_oddsNow_123 rfl rfl ?_
        refine V_iald X d_Mo_oddsNow_124 (by decide) (by decide) rfl h (fun h => ?_)
        refine V_aload_n X 0 d_Mo_oddsNow_125 rfl ?_
        refine V_getR X 10 28 106 rfl ji10 (by decide) (by decide) (by decide) fl_Mo_53 d_Mo_oddsNow_126 (by decide) (by decide) (by decide) (by decide) ?_
        refine V_iload X 7 d_Mo_oddsNow_129 rfl ?_
        refine V_iald X d_Mo_oddsNow_131 (by decide) (by decide) rfl h (fun h => ?_)
        refine V_iadd X d_Mo_oddsNow_132 ?_
        refine V_iast X d_Mo_oddsNow_133 (by decide) (by decide) rfl h (fun h => ?_)
        refine V_iinc X 8 (l8 + (1 : Int32)) [(8, Value.int (l8 + (1 : Int32))), (0, Value.ref (ad 91)), (1, Value.int l1), (2, Value.int l2), (3, Value.int l3), (4, Value.int l4), (5, Value.int l5), (6, Value.int l6), (7, Value.int l7)] d_Mo_oddsNow_134 rfl (by first | rfl | decide) (by decide) rfl ?_
        refine V_goto X 88 d_Mo_oddsNow_137 (by decide) ?_
        refine V_sub (lv' := [(0, Value.ref (ad 91)), (1, Value.int l1), (2, Value.int l2), (3, Value.int l3), (4, Value.int l4), (5, Value.int l5), (6, Value.int l6), (7, Value.int l7), (8, Value.int (l8 + (1 : Int32)))]) [1, 2, 3, 4, 5, 6, 7, 8, 0] rfl ?_
        exact ih (l8 + (1 : Int32)) (sA σ 107 (ix (l7 + l8)) ((gA σ 107 (ix (l7 + l8))) + (gA σ 106 (ix l7)))) h
      · skip
        refine V_bipush (v := 20) X d_Mo_oddsNow_113 (by decide) ?_
        refine V_goto X 123 d_Mo_oddsNow_115 (by decide) ?_
        refine V_dup2 X d_Mo_oddsNow_123 rfl rfl ?_
        refine V_iald X d_Mo_oddsNow_124 (by decide) (by decide) rfl h (fun h => ?_)
        refine V_aload_n X 0 d_Mo_oddsNow_125 rfl ?_
        refine V_getR X 10 28 106 rfl ji10 (by decide) (by decide) (by decide) fl_Mo_53 d_Mo_oddsNow_126 (by decide) (by decide) (by decide) (by decide) ?_
        refine V_iload X 7 d_Mo_oddsNow_129 rfl ?_
        refine V_iald X d_Mo_oddsNow_131 (by decide) (by decide) rfl h (fun h => ?_)
        refine V_iadd X d_Mo_oddsNow_132 ?_
        refine V_iast X d_Mo_oddsNow_133 (by decide) (by decide) rfl h (fun h => ?_)
        refine V_iinc X 8 (l8 + (1 : Int32)) [(8, Value.int (l8 + (1 : Int32))), (0, Value.ref (ad 91)), (1, Value.int l1), (2, Value.int l2), (3, Value.int l3), (4, Value.int l4), (5, Value.int l5), (6, Value.int l6), (7, Value.int l7)] d_Mo_oddsNow_134 rfl (by first | rfl | decide) (by decide) rfl ?_
        refine V_goto X 88 d_Mo_oddsNow_137 (by decide) ?_
        refine V_sub (lv' := [(0, Value.ref (ad 91)), (1, Value.int l1), (2, Value.int l2), (3, Value.int l3), (4, Value.int l4), (5, Value.int l5), (6, Value.int l6), (7, Value.int l7), (8, Value.int (l8 + (1 : Int32)))]) [1, 2, 3, 4, 5, 6, 7, 8, 0] rfl ?_
        exact ih (l8 + (1 : Int32)) (sA σ 107 (ix (20 : Int32)) ((gA σ 107 (ix (20 : Int32))) + (gA σ 106 (ix l7)))) h
set_option maxHeartbeats 4000000 in
set_option maxRecDepth 100000 in
theorem Mo_oddsNow_L78_ok {p : Program} {l : Launch} {e : Env} {R : Room} {s : State} {m : MethodId} {args : Array Value} {below : List Frame} {meth : Method} {c : Code} {D : va_G} {ad : Nat → Nat} {cI cB : ClassId} {A : Nat → Prop} {cells slots : Nat} {Q : State → Prop} (X : Cx p R s m args meth c jR10 prog_13_method_45_code 9 3 D ad cI cB A cells slots) (fu : Nat) (l1 : Int32) (l2 : Int32) (l3 : Int32) (l4 : Int32) (l5 : Int32) (l6 : Int32) (kont : (Int32 → Sg → Option (Int32 × Sg))) {K : (Int32 × Sg) → Prop} (hQ : RI p l e R s m args below meth c 9 D ad cI cB A cells slots Q prog_13_method_45_code false K) (hk : ∀ (l7 : Int32) (σ : Sg), wpO (kont l7 σ) K → V p l e R s m args below meth c 9 D A cells slots Q (wl ad cI cB σ) 146 [(0, Value.ref (ad 91)), (1, Value.int l1), (2, Value.int l2), (3, Value.int l3), (4, Value.int l4), (5, Value.int l5), (6, Value.int l6), (7, Value.int l7)] []) : ∀ (n : Nat) (l7 : Int32) (σ : Sg), wpO (Mo_oddsNow_L78 fu l1 l2 l3 l4 l5 l6 kont n l7 σ) K → V p l e R s m args below meth c 9 D A cells slots Q (wl ad cI cB σ) 78 [(0, Value.ref (ad 91)), (1, Value.int l1), (2, Value.int l2), (3, Value.int l3), (4, Value.int l4), (5, Value.int l5), (6, Value.int l6), (7, Value.int l7)] [] := by
  intro n
  induction n with
  | zero =>
    intro l7 σ h
    exact (wp_none h).elim
  | succ n ih =>
    intro l7 σ h
    rw [Mo_oddsNow_L78] at h
    refine V_iload X 7 d_Mo_oddsNow_78 rfl ?_
    refine V_bipush (v := 20) X d_Mo_oddsNow_80 (by decide) ?_
    refine V_icmp_gt X 146 d_Mo_oddsNow_82 (by decide) h (fun c9 h => ?_) (fun c9 h => ?_)
    · skip
      exact hk l7 σ h
    · skip
      refine V_iconst (v := 0) X d_Mo_oddsNow_85 (by decide) ?_
      refine V_istore X [(8, Value.int (0 : Int32)), (0, Value.ref (ad 91)), (1, Value.int l1), (2, Value.int l2), (3, Value.int l3), (4, Value.int l4), (5, Value.int l5), (6, Value.int l6), (7, Value.int l7)] d_Mo_oddsNow_86 (by decide) rfl ?_
      refine V_sub (lv' := [(0, Value.ref (ad 91)), (1, Value.int l1), (2, Value.int l2), (3, Value.int l3), (4, Value.int l4), (5, Value.int l5), (6, Value.int l6), (7, Value.int l7), (8, Value.int (0 : Int32))]) [1, 2, 3, 4, 5, 6, 7, 8, 0] rfl ?_
      refine Mo_oddsNow_L88_ok X fu l1 l2 l3 l4 l5 l6 l7 _ hQ (fun l8_12 s13 h => ?_) fu (0 : Int32) σ h
      refine V_iinc X 7 (l7 + (1 : Int32)) [(7, Value.int (l7 + (1 : Int32))), (0, Value.ref (ad 91)), (1, Value.int l1), (2, Value.int l2), (3, Value.int l3), (4, Value.int l4), (5, Value.int l5), (6, Value.int l6), (8, Value.int l8_12)] d_Mo_oddsNow_140 rfl (by first | rfl | decide) (by decide) rfl ?_
      refine V_goto X 78 d_Mo_oddsNow_143 (by decide) ?_
      refine V_sub (lv' := [(0, Value.ref (ad 91)), (1, Value.int l1), (2, Value.int l2), (3, Value.int l3), (4, Value.int l4), (5, Value.int l5), (6, Value.int l6), (7, Value.int (l7 + (1 : Int32)))]) [1, 2, 3, 4, 5, 6, 7, 0] rfl ?_
      exact ih (l7 + (1 : Int32)) s13 h
set_option maxHeartbeats 4000000 in
set_option maxRecDepth 100000 in
theorem Mo_oddsNow_L149_ok {p : Program} {l : Launch} {e : Env} {R : Room} {s : State} {m : MethodId} {args : Array Value} {below : List Frame} {meth : Method} {c : Code} {D : va_G} {ad : Nat → Nat} {cI cB : ClassId} {A : Nat → Prop} {cells slots : Nat} {Q : State → Prop} (X : Cx p R s m args meth c jR10 prog_13_method_45_code 9 3 D ad cI cB A cells slots) (fu : Nat) (l1 : Int32) (l2 : Int32) (l3 : Int32) (l4 : Int32) (l5 : Int32) (l6 : Int32) (kont : (Int32 → Sg → Option (Int32 × Sg))) {K : (Int32 × Sg) → Prop} (hQ : RI p l e R s m args below meth c 9 D ad cI cB A cells slots Q prog_13_method_45_code false K) (hk : ∀ (l7 : Int32) (σ : Sg), wpO (kont l7 σ) K → V p l e R s m args below meth c 9 D A cells slots Q (wl ad cI cB σ) 176 [(0, Value.ref (ad 91)), (1, Value.int l1), (2, Value.int l2), (3, Value.int l3), (4, Value.int l4), (5, Value.int l5), (6, Value.int l6), (7, Value.int l7)] []) : ∀ (n : Nat) (l7 : Int32) (σ : Sg), wpO (Mo_oddsNow_L149 fu l1 l2 l3 l4 l5 l6 kont n l7 σ) K → V p l e R s m args below meth c 9 D A cells slots Q (wl ad cI cB σ) 149 [(0, Value.ref (ad 91)), (1, Value.int l1), (2, Value.int l2), (3, Value.int l3), (4, Value.int l4), (5, Value.int l5), (6, Value.int l6), (7, Value.int l7)] [] := by
  intro n
  induction n with
  | zero =>
    intro l7 σ h
    exact (wp_none h).elim
  | succ n ih =>
    intro l7 σ h
    rw [Mo_oddsNow_L149] at h
    refine V_iload X 7 d_Mo_oddsNow_149 rfl ?_
    refine V_bipush (v := 20) X d_Mo_oddsNow_151 (by decide) ?_
    refine V_icmp_gt X 176 d_Mo_oddsNow_153 (by decide) h (fun c16 h => ?_) (fun c16 h => ?_)
    · skip
      exact hk l7 σ h
    · skip
      refine V_aload_n X 0 d_Mo_oddsNow_156 rfl ?_
      refine V_getR X 10 28 106 rfl ji10 (by decide) (by decide) (by decide) fl_Mo_53 d_Mo_oddsNow_157 (by decide) (by decide) (by decide) (by decide) ?_
      refine V_iload X 7 d_Mo_oddsNow_160 rfl ?_
      refine V_aload_n X 0 d_Mo_oddsNow_162 rfl ?_
      refine V_getR X 10 29 107 rfl ji10 (by decide) (by decide) (by decide) fl_Mo_56 d_Mo_oddsNow_163 (by decide) (by decide) (by decide) (by decide) ?_
      refine V_iload X 7 d_Mo_oddsNow_166 rfl ?_
      refine V_iald X d_Mo_oddsNow_168 (by decide) (by decide) rfl h (fun h => ?_)
      refine V_iast X d_Mo_oddsNow_169 (by decide) (by decide) rfl h (fun h => ?_)
      refine V_iinc X 7 (l7 + (1 : Int32)) [(7, Value.int (l7 + (1 : Int32))), (0, Value.ref (ad 91)), (1, Value.int l1), (2, Value.int l2), (3, Value.int l3), (4, Value.int l4), (5, Value.int l5), (6, Value.int l6)] d_Mo_oddsNow_170 rfl (by first | rfl | decide) (by decide) rfl ?_
      refine V_goto X 149 d_Mo_oddsNow_173 (by decide) ?_
      refine V_sub (lv' := [(0, Value.ref (ad 91)), (1, Value.int l1), (2, Value.int l2), (3, Value.int l3), (4, Value.int l4), (5, Value.int l5), (6, Value.int l6), (7, Value.int (l7 + (1 : Int32)))]) [1, 2, 3, 4, 5, 6, 7, 0] rfl ?_
      exact ih (l7 + (1 : Int32)) (sA σ 106 (ix l7) (gA σ 107 (ix l7))) h
set_option maxHeartbeats 4000000 in
set_option maxRecDepth 100000 in
theorem Mo_oddsNow_L45_ok {p : Program} {l : Launch} {e : Env} {R : Room} {s : State} {m : MethodId} {args : Array Value} {below : List Frame} {meth : Method} {c : Code} {D : va_G} {ad : Nat → Nat} {cI cB : ClassId} {A : Nat → Prop} {cells slots : Nat} {Q : State → Prop} (X : Cx p R s m args meth c jR10 prog_13_method_45_code 9 3 D ad cI cB A cells slots) (fu : Nat) (l1 : Int32) (l2 : Int32) (l3 : Int32) (l4 : Int32) (kont : (Int32 → Int32 → Sg → Option (Int32 × Sg))) {K : (Int32 × Sg) → Prop} (hQ : RI p l e R s m args below meth c 9 D ad cI cB A cells slots Q prog_13_method_45_code false K) (hk : ∀ (l5 : Int32) (l6 : Int32) (σ : Sg), wpO (kont l5 l6 σ) K → V p l e R s m args below meth c 9 D A cells slots Q (wl ad cI cB σ) 195 [(0, Value.ref (ad 91)), (1, Value.int l1), (2, Value.int l2), (3, Value.int l3), (4, Value.int l4), (5, Value.int l5), (6, Value.int l6)] []) : ∀ (n : Nat) (l5 : Int32) (l6 : Int32) (σ : Sg), wpO (Mo_oddsNow_L45 fu l1 l2 l3 l4 kont n l5 l6 σ) K → V p l e R s m args below meth c 9 D A cells slots Q (wl ad cI cB σ) 45 [(0, Value.ref (ad 91)), (1, Value.int l1), (2, Value.int l2), (3, Value.int l3), (4, Value.int l4), (5, Value.int l5), (6, Value.int l6)] [] := by
  intro n
  induction n with
  | zero =>
    intro l5 l6 σ h
    exact (wp_none h).elim
  | succ n ih =>
    intro l5 l6 σ h
    rw [Mo_oddsNow_L45] at h
    refine V_iload X 6 d_Mo_oddsNow_45 rfl ?_
    refine V_iload_n X 3 d_Mo_oddsNow_47 rfl ?_
    refine V_icmp_ge X 195 d_Mo_oddsNow_48 (by decide) h (fun c5 h => ?_) (fun c5 h => ?_)
    · skip
      exact hk l5 l6 σ h
    · skip
      refine V_iconst (v := 0) X d_Mo_oddsNow_51 (by decide) ?_
      refine V_istore X [(7, Value.int (0 : Int32)), (0, Value.ref (ad 91)), (1, Value.int l1), (2, Value.int l2), (3, Value.int l3), (4, Value.int l4), (5, Value.int l5), (6, Value.int l6)] d_Mo_oddsNow_52 (by decide) rfl ?_
      refine V_sub (lv' := [(0, Value.ref (ad 91)), (1, Value.int l1), (2, Value.int l2), (3, Value.int l3), (4, Value.int l4), (5, Value.int l5), (6, Value.int l6), (7, Value.int (0 : Int32))]) [1, 2, 3, 4, 5, 6, 7, 0] rfl ?_
      refine Mo_oddsNow_L54_ok X fu l1 l2 l3 l4 l5 l6 _ hQ (fun l7_7 s8 h => ?_) fu (0 : Int32) σ h
      refine V_iconst (v := 0) X d_Mo_oddsNow_75 (by decide) ?_
      refine V_istore X [(7, Value.int (0 : Int32)), (0, Value.ref (ad 91)), (1, Value.int l1), (2, Value.int l2), (3, Value.int l3), (4, Value.int l4), (5, Value.int l5), (6, Value.int l6)] d_Mo_oddsNow_76 (by decide) rfl ?_
      refine V_sub (lv' := [(0, Value.ref (ad 91)), (1, Value.int l1), (2, Value.int l2), (3, Value.int l3), (4, Value.int l4), (5, Value.int l5), (6, Value.int l6), (7, Value.int (0 : Int32))]) [1, 2, 3, 4, 5, 6, 7, 0] rfl ?_
      refine Mo_oddsNow_L78_ok X fu l1 l2 l3 l4 l5 l6 _ hQ (fun l7_14 s15 h => ?_) fu (0 : Int32) s8 h
      refine V_iconst (v := 0) X d_Mo_oddsNow_146 (by decide) ?_
      refine V_istore X [(7, Value.int (0 : Int32)), (0, Value.ref (ad 91)), (1, Value.int l1), (2, Value.int l2), (3, Value.int l3), (4, Value.int l4), (5, Value.int l5), (6, Value.int l6)] d_Mo_oddsNow_147 (by decide) rfl ?_
      refine V_sub (lv' := [(0, Value.ref (ad 91)), (1, Value.int l1), (2, Value.int l2), (3, Value.int l3), (4, Value.int l4), (5, Value.int l5), (6, Value.int l6), (7, Value.int (0 : Int32))]) [1, 2, 3, 4, 5, 6, 7, 0] rfl ?_
      refine Mo_oddsNow_L149_ok X fu l1 l2 l3 l4 l5 l6 _ hQ (fun l7_17 s18 h => ?_) fu (0 : Int32) s15 h
      refine V_iload X 5 d_Mo_oddsNow_176 rfl ?_
      refine V_aload_n X 0 d_Mo_oddsNow_178 rfl ?_
      refine V_getR X 10 4 93 rfl ji10 (by decide) (by decide) (by decide) fl_Mo_13 d_Mo_oddsNow_179 (by decide) (by decide) (by decide) (by decide) ?_
      refine V_iload_n X 2 d_Mo_oddsNow_182 rfl ?_
      refine V_iald X d_Mo_oddsNow_183 (by decide) (by decide) rfl h (fun h => ?_)
      refine V_iconst (v := 1) X d_Mo_oddsNow_184 (by decide) ?_
      refine V_iadd X d_Mo_oddsNow_185 ?_
      refine V_imul X d_Mo_oddsNow_186 ?_
      refine V_istore X [(5, Value.int (l5 * ((gA s18 93 (ix l2)) + (1 : Int32)))), (0, Value.ref (ad 91)), (1, Value.int l1), (2, Value.int l2), (3, Value.int l3), (4, Value.int l4), (6, Value.int l6), (7, Value.int l7_17)] d_Mo_oddsNow_187 (by decide) rfl ?_
      refine V_iinc X 6 (l6 + (1 : Int32)) [(6, Value.int (l6 + (1 : Int32))), (5, Value.int (l5 * ((gA s18 93 (ix l2)) + (1 : Int32)))), (0, Value.ref (ad 91)), (1, Value.int l1), (2, Value.int l2), (3, Value.int l3), (4, Value.int l4), (7, Value.int l7_17)] d_Mo_oddsNow_189 rfl (by first | rfl | decide) (by decide) rfl ?_
      refine V_goto X 45 d_Mo_oddsNow_192 (by decide) ?_
      refine V_sub (lv' := [(0, Value.ref (ad 91)), (1, Value.int l1), (2, Value.int l2), (3, Value.int l3), (4, Value.int l4), (5, Value.int (l5 * ((gA s18 93 (ix l2)) + (1 : Int32)))), (6, Value.int (l6 + (1 : Int32)))]) [2, 3, 4, 5, 6, 1, 0] rfl ?_
      exact ih (l5 * ((gA s18 93 (ix l2)) + (1 : Int32))) (l6 + (1 : Int32)) s18 h
set_option maxHeartbeats 4000000 in
set_option maxRecDepth 100000 in
theorem Mo_oddsNow_L205_ok {p : Program} {l : Launch} {e : Env} {R : Room} {s : State} {m : MethodId} {args : Array Value} {below : List Frame} {meth : Method} {c : Code} {D : va_G} {ad : Nat → Nat} {cI cB : ClassId} {A : Nat → Prop} {cells slots : Nat} {Q : State → Prop} (X : Cx p R s m args meth c jR10 prog_13_method_45_code 9 3 D ad cI cB A cells slots) (fu : Nat) (l4 : Int32) (l5 : Int32) (σ : Sg) (kont : (Int32 → Int32 → Option (Int32 × Sg))) {K : (Int32 × Sg) → Prop} (hQ : RI p l e R s m args below meth c 9 D ad cI cB A cells slots Q prog_13_method_45_code false K) (hk : ∀ (l6 : Int32) (l7 : Int32), wpO (kont l6 l7) K → V p l e R s m args below meth c 9 D A cells slots Q (wl ad cI cB σ) 230 [(0, Value.ref (ad 91)), (4, Value.int l4), (5, Value.int l5), (6, Value.int l6), (7, Value.int l7)] []) : ∀ (n : Nat) (l6 : Int32) (l7 : Int32), wpO (Mo_oddsNow_L205 fu l4 l5 σ kont n l6 l7) K → V p l e R s m args below meth c 9 D A cells slots Q (wl ad cI cB σ) 205 [(0, Value.ref (ad 91)), (4, Value.int l4), (5, Value.int l5), (6, Value.int l6), (7, Value.int l7)] [] := by
  intro n
  induction n with
  | zero =>
    intro l6 l7 h
    exact (wp_none h).elim
  | succ n ih =>
    intro l6 l7 h
    rw [Mo_oddsNow_L205] at h
    refine V_iload X 4 d_Mo_oddsNow_205 rfl ?_
    refine V_bipush (v := 20) X d_Mo_oddsNow_207 (by decide) ?_
    refine V_icmp_gt X 230 d_Mo_oddsNow_209 (by decide) h (fun c23 h => ?_) (fun c23 h => ?_)
    · skip
      exact hk l6 l7 h
    · skip
      refine V_iload X 3 d_Mo_oddsNow_212 rfl ?_
      refine V_aload_n X 0 d_Mo_oddsNow_214 rfl ?_
      refine V_getR X 10 28 106 rfl ji10 (by decide) (by decide) (by decide) fl_Mo_53 d_Mo_oddsNow_215 (by decide) (by decide) (by decide) (by decide) ?_
      refine V_iload X 4 d_Mo_oddsNow_218 rfl ?_
      refine V_iald X d_Mo_oddsNow_220 (by decide) (by decide) rfl h (fun h => ?_)
      refine V_iadd X d_Mo_oddsNow_221 ?_
      refine V_istore X [(6, Value.int (l6 + (gA σ 106 (ix l7)))), (0, Value.ref (ad 91)), (4, Value.int l4), (5, Value.int l5), (7, Value.int l7)] d_Mo_oddsNow_222 (by decide) rfl ?_
      refine V_iinc X 4 (l7 + (1 : Int32)) [(7, Value.int (l7 + (1 : Int32))), (6, Value.int (l6 + (gA σ 106 (ix l7)))), (0, Value.ref (ad 91)), (4, Value.int l4), (5, Value.int l5)] d_Mo_oddsNow_224 rfl (by first | rfl | decide) (by decide) rfl ?_
      refine V_goto X 205 d_Mo_oddsNow_227 (by decide) ?_
      refine V_sub (lv' := [(0, Value.ref (ad 91)), (4, Value.int l4), (5, Value.int l5), (6, Value.int (l6 + (gA σ 106 (ix l7)))), (7, Value.int (l7 + (1 : Int32)))]) [2, 3, 4, 1, 0] rfl ?_
      exact ih (l6 + (gA σ 106 (ix l7))) (l7 + (1 : Int32)) h
set_option maxHeartbeats 4000000 in
set_option maxRecDepth 100000 in
theorem k_Mo_oddsNow (fu : Nat) (σ : Sg) (a0 : Int32) (a1 : Int32) (a2 : Int32) (a3 : Int32) (r : Int32) (σ' : Sg) (h : Mo_oddsNow fu σ a0 a1 a2 a3 = some (r, σ')) : Evc y_Mo_oddsNow prog_13_method_45_code 9 (some .int) 3 (fun ad => [Value.ref (ad 91), Value.int a0, Value.int a1, Value.int a2, Value.int a3]) σ σ' (fun _ => some (.int r)) := by
  refine Evc_ofI (by decide) (fun ad => Nat.le_of_ble_eq_true rfl) (fun p l e R s m args below meth c D ad cI cB A Q X hQ => ?_)
  have X : Cx p R s m args meth c jR10 prog_13_method_45_code 9 3 D ad cI cB A 0 0 := X
  have h : wpO (Mo_oddsNow fu σ a0 a1 a2 a3) (fun q => q = (r, σ')) := ⟨_, h, rfl⟩
  rw [Mo_oddsNow] at h
  refine V_sub (lv' := [(0, Value.ref (ad 91)), (1, Value.int a0), (2, Value.int a1), (3, Value.int a2), (4, Value.int a3)]) [0, 1, 2, 3, 4] rfl ?_
  refine V_iconst (v := 0) X d_Mo_oddsNow_0 (by decide) ?_
  refine V_istore X [(5, Value.int (0 : Int32)), (0, Value.ref (ad 91)), (1, Value.int a0), (2, Value.int a1), (3, Value.int a2), (4, Value.int a3)] d_Mo_oddsNow_1 (by decide) rfl ?_
  refine V_sub (lv' := [(0, Value.ref (ad 91)), (1, Value.int a0), (2, Value.int a1), (3, Value.int a2), (4, Value.int a3), (5, Value.int (0 : Int32))]) [1, 2, 3, 4, 5, 0] rfl ?_
  refine Mo_oddsNow_L3_ok X fu a0 a1 a2 a3 _ hQ (fun l5_3 s4 h => ?_) fu (0 : Int32) σ h
  refine V_iconst (v := 1) X d_Mo_oddsNow_39 (by decide) ?_
  refine V_istore X [(5, Value.int (1 : Int32)), (0, Value.ref (ad 91)), (1, Value.int a0), (2, Value.int a1), (3, Value.int a2), (4, Value.int a3)] d_Mo_oddsNow_40 (by decide) rfl ?_
  refine V_iconst (v := 0) X d_Mo_oddsNow_42 (by decide) ?_
  refine V_istore X [(6, Value.int (0 : Int32)), (5, Value.int (1 : Int32)), (0, Value.ref (ad 91)), (1, Value.int a0), (2, Value.int a1), (3, Value.int a2), (4, Value.int a3)] d_Mo_oddsNow_43 (by decide) rfl ?_
  refine V_sub (lv' := [(0, Value.ref (ad 91)), (1, Value.int a0), (2, Value.int a1), (3, Value.int a2), (4, Value.int a3), (5, Value.int (1 : Int32)), (6, Value.int (0 : Int32))]) [2, 3, 4, 5, 6, 1, 0] rfl ?_
  refine Mo_oddsNow_L45_ok X fu a0 a1 a2 a3 _ hQ (fun l5_19 l6_20 s21 h => ?_) fu (1 : Int32) (0 : Int32) s4 h
  refine V_iconst (v := 0) X d_Mo_oddsNow_195 (by decide) ?_
  refine V_istore X [(6, Value.int (0 : Int32)), (0, Value.ref (ad 91)), (1, Value.int a0), (2, Value.int a1), (3, Value.int a2), (4, Value.int a3), (5, Value.int l5_19)] d_Mo_oddsNow_196 (by decide) rfl ?_
  refine V_aload_n X 1 d_Mo_oddsNow_198 rfl ?_
  refine V_iload_n X 2 d_Mo_oddsNow_199 rfl ?_
  refine V_cI X h (fun r22 q => C_V (q := 10) X [Value.int a0] mt_Mo_cost ms_Mo_cost ml_Mo_152 (k_Mo_cost fu s21 a0 r22 q) rfl rfl (by omega) (Nat.le_of_ble_eq_true rfl) rfl (by decide) (by decide) (by decide) d_Mo_oddsNow_200) (fun r22 h => ?_)
  refine V_istore X [(7, Value.int r22), (6, Value.int (0 : Int32)), (0, Value.ref (ad 91)), (1, Value.int a0), (2, Value.int a1), (3, Value.int a2), (4, Value.int a3), (5, Value.int l5_19)] d_Mo_oddsNow_203 (by decide) rfl ?_
  refine V_sub (lv' := [(0, Value.ref (ad 91)), (4, Value.int a3), (5, Value.int l5_19), (6, Value.int (0 : Int32)), (7, Value.int r22)]) [2, 6, 7, 1, 0] rfl ?_
  refine Mo_oddsNow_L205_ok X fu a3 l5_19 s21 _ hQ (fun l6_24 l7_25 h => ?_) fu (0 : Int32) r22 h
  refine V_iload X 3 d_Mo_oddsNow_230 rfl ?_
  refine V_iload X 2 d_Mo_oddsNow_232 rfl ?_
  refine V_cI X h (fun r26 q => C_S X [Value.int l6_24, Value.int l5_19] mt_Mo_divisor ms_Mo_divisor ml_Mo_222 (k_Mo_divisor fu s21 l6_24 l5_19 r26 q) rfl rfl (by omega) (Nat.le_of_ble_eq_true rfl) d_Mo_oddsNow_234) (fun r26 h => ?_)
  refine V_istore X [(7, Value.int r26), (0, Value.ref (ad 91)), (4, Value.int a3), (5, Value.int l5_19), (6, Value.int l6_24)] d_Mo_oddsNow_237 (by decide) rfl ?_
  refine V_iload X 2 d_Mo_oddsNow_239 rfl ?_
  refine V_if_ne X 252 d_Mo_oddsNow_241 (by decide) h (fun c27 h => ?_) (fun c27 h => ?_)
  · skip
    refine V_iload X 3 d_Mo_oddsNow_252 rfl ?_
    refine V_iload X 0 d_Mo_oddsNow_254 rfl ?_
    obtain ⟨hz, h⟩ := wp_nz h
    refine V_idiv X d_Mo_oddsNow_256 hz ?_
    have h9 := wp_some h
    exact hQ _ _ h9 (fun h9 => absurd h9 (by decide)) _ _ d_Mo_oddsNow_257
  · skip
    refine V_iload X 4 d_Mo_oddsNow_244 rfl ?_
    refine V_iload X 0 d_Mo_oddsNow_246 rfl ?_
    obtain ⟨hz, h⟩ := wp_nz h
    refine V_idiv X d_Mo_oddsNow_248 hz ?_
    refine V_goto X 257 d_Mo_oddsNow_249 (by decide) ?_
    have h9 := wp_some h
    exact hQ _ _ h9 (fun h9 => absurd h9 (by decide)) _ _ d_Mo_oddsNow_257
set_option maxHeartbeats 4000000 in
set_option maxRecDepth 100000 in
theorem Mo_digest_L19_ok {p : Program} {l : Launch} {e : Env} {R : Room} {s : State} {m : MethodId} {args : Array Value} {below : List Frame} {meth : Method} {c : Code} {D : va_G} {ad : Nat → Nat} {cI cB : ClassId} {A : Nat → Prop} {cells slots : Nat} {Q : State → Prop} (X : Cx p R s m args meth c jR10 prog_13_method_61_code 3 7 D ad cI cB A cells slots) (fu : Nat) (l1 : Int32) (kont : (Int32 → Sg → Option (Int64 × Sg))) {K : (Int64 × Sg) → Prop} (hQ : RL p l e R s m args below meth c 3 D ad cI cB A cells slots Q prog_13_method_61_code K) (hk : ∀ (l2 : Int32) (σ : Sg), wpO (kont l2 σ) K → V p l e R s m args below meth c 3 D A cells slots Q (wl ad cI cB σ) 41 [(0, Value.ref (ad 91)), (1, Value.int l1), (2, Value.int l2)] []) : ∀ (n : Nat) (l2 : Int32) (σ : Sg), wpO (Mo_digest_L19 fu l1 kont n l2 σ) K → V p l e R s m args below meth c 3 D A cells slots Q (wl ad cI cB σ) 19 [(0, Value.ref (ad 91)), (1, Value.int l1), (2, Value.int l2)] [] := by
  intro n
  induction n with
  | zero =>
    intro l2 σ h
    exact (wp_none h).elim
  | succ n ih =>
    intro l2 σ h
    rw [Mo_digest_L19] at h
    refine V_iload_n X 2 d_Mo_digest_19 rfl ?_
    refine V_iconst (v := 3) X d_Mo_digest_20 (by decide) ?_
    refine V_icmp_ge X 41 d_Mo_digest_21 (by decide) h (fun c2 h => ?_) (fun c2 h => ?_)
    · skip
      exact hk l2 σ h
    · skip
      refine V_aload_n X 0 d_Mo_digest_24 rfl ?_
      refine V_aload_n X 0 d_Mo_digest_25 rfl ?_
      refine V_iload_n X 1 d_Mo_digest_26 rfl ?_
      refine V_iload_n X 2 d_Mo_digest_27 rfl ?_
      refine V_cI X h (fun r3 q => C_V (q := 10) X [Value.int l1, Value.int l2] mt_Mo_treeNow ms_Mo_treeNow ml_Mo_162 (k_Mo_treeNow fu σ l1 l2 r3 q) rfl rfl (by omega) (Nat.le_of_ble_eq_true rfl) rfl (by decide) (by decide) (by decide) d_Mo_digest_28) (fun r3 h => ?_)
      refine V_i2l X d_Mo_digest_31 ?_
      refine V_cV X h (fun s4 q => C_V (q := 10) X [Value.long r3.toInt64] mt_Mo_mix ms_Mo_mix ml_Mo_282 (k_Mo_mix σ r3.toInt64 s4 q) rfl rfl (by omega) (Nat.le_of_ble_eq_true rfl) rfl (by decide) (by decide) (by decide) d_Mo_digest_32) (fun s4 h => ?_)
      refine V_iinc X 2 (l2 + (1 : Int32)) [(2, Value.int (l2 + (1 : Int32))), (0, Value.ref (ad 91)), (1, Value.int l1)] d_Mo_digest_35 rfl (by first | rfl | decide) (by decide) rfl ?_
      refine V_goto X 19 d_Mo_digest_38 (by decide) ?_
      refine V_sub (lv' := [(0, Value.ref (ad 91)), (1, Value.int l1), (2, Value.int (l2 + (1 : Int32)))]) [1, 2, 0] rfl ?_
      exact ih (l2 + (1 : Int32)) s4 h
set_option maxHeartbeats 4000000 in
set_option maxRecDepth 100000 in
theorem Mo_digest_L9_ok {p : Program} {l : Launch} {e : Env} {R : Room} {s : State} {m : MethodId} {args : Array Value} {below : List Frame} {meth : Method} {c : Code} {D : va_G} {ad : Nat → Nat} {cI cB : ClassId} {A : Nat → Prop} {cells slots : Nat} {Q : State → Prop} (X : Cx p R s m args meth c jR10 prog_13_method_61_code 3 7 D ad cI cB A cells slots) (fu : Nat) (kont : (Int32 → Sg → Option (Int64 × Sg))) {K : (Int64 × Sg) → Prop} (hQ : RL p l e R s m args below meth c 3 D ad cI cB A cells slots Q prog_13_method_61_code K) (hk : ∀ (l1 : Int32) (σ : Sg), wpO (kont l1 σ) K → V p l e R s m args below meth c 3 D A cells slots Q (wl ad cI cB σ) 69 [(0, Value.ref (ad 91)), (1, Value.int l1)] []) : ∀ (n : Nat) (l1 : Int32) (σ : Sg), wpO (Mo_digest_L9 fu kont n l1 σ) K → V p l e R s m args below meth c 3 D A cells slots Q (wl ad cI cB σ) 9 [(0, Value.ref (ad 91)), (1, Value.int l1)] [] := by
  intro n
  induction n with
  | zero =>
    intro l1 σ h
    exact (wp_none h).elim
  | succ n ih =>
    intro l1 σ h
    rw [Mo_digest_L9] at h
    refine V_iload_n X 1 d_Mo_digest_9 rfl ?_
    refine V_aload_n X 0 d_Mo_digest_10 rfl ?_
    refine V_getI X 10 1 rfl ji10 (by decide) (by decide) (by decide) fl_Mo_121 d_Mo_digest_11 (by decide) (by decide) (by decide) ?_
    refine V_icmp_ge X 69 d_Mo_digest_14 (by decide) h (fun c1 h => ?_) (fun c1 h => ?_)
    · skip
      exact hk l1 σ h
    · skip
      refine V_iconst (v := 0) X d_Mo_digest_17 (by decide) ?_
      refine V_istore_n X [(2, Value.int (0 : Int32)), (0, Value.ref (ad 91)), (1, Value.int l1)] d_Mo_digest_18 (by decide) rfl ?_
      refine V_sub (lv' := [(0, Value.ref (ad 91)), (1, Value.int l1), (2, Value.int (0 : Int32))]) [1, 2, 0] rfl ?_
      refine Mo_digest_L19_ok X fu l1 _ hQ (fun l2_5 s6 h => ?_) fu (0 : Int32) σ h
      refine V_aload_n X 0 d_Mo_digest_41 rfl ?_
      refine V_aload_n X 0 d_Mo_digest_42 rfl ?_
      refine V_iload_n X 1 d_Mo_digest_43 rfl ?_
      refine V_iconst (v := 0) X d_Mo_digest_44 (by decide) ?_
      refine V_cP X h (fun r7 s8 q => C_V (q := 10) X [Value.int l1, Value.int (0 : Int32)] mt_Mo_gameNow ms_Mo_gameNow ml_Mo_219 (k_Mo_gameNow fu s6 l1 (0 : Int32) r7 s8 q) rfl rfl (by omega) (Nat.le_of_ble_eq_true rfl) rfl (by decide) (by decide) (by decide) d_Mo_digest_45) (fun r7 s8 h => ?_)
      refine V_i2l X d_Mo_digest_48 ?_
      refine V_cV X h (fun s9 q => C_V (q := 10) X [Value.long r7.toInt64] mt_Mo_mix ms_Mo_mix ml_Mo_282 (k_Mo_mix s8 r7.toInt64 s9 q) rfl rfl (by omega) (Nat.le_of_ble_eq_true rfl) rfl (by decide) (by decide) (by decide) d_Mo_digest_49) (fun s9 h => ?_)
      refine V_aload_n X 0 d_Mo_digest_52 rfl ?_
      refine V_aload_n X 0 d_Mo_digest_53 rfl ?_
      refine V_iload_n X 1 d_Mo_digest_54 rfl ?_
      refine V_iconst (v := 1) X d_Mo_digest_55 (by decide) ?_
      refine V_cP X h (fun r10 s11 q => C_V (q := 10) X [Value.int l1, Value.int (1 : Int32)] mt_Mo_gameNow ms_Mo_gameNow ml_Mo_219 (k_Mo_gameNow fu s9 l1 (1 : Int32) r10 s11 q) rfl rfl (by omega) (Nat.le_of_ble_eq_true rfl) rfl (by decide) (by decide) (by decide) d_Mo_digest_56) (fun r10 s11 h => ?_)
      refine V_i2l X d_Mo_digest_59 ?_
      refine V_cV X h (fun s12 q => C_V (q := 10) X [Value.long r10.toInt64] mt_Mo_mix ms_Mo_mix ml_Mo_282 (k_Mo_mix s11 r10.toInt64 s12 q) rfl rfl (by omega) (Nat.le_of_ble_eq_true rfl) rfl (by decide) (by decide) (by decide) d_Mo_digest_60) (fun s12 h => ?_)
      refine V_iinc X 1 (l1 + (1 : Int32)) [(1, Value.int (l1 + (1 : Int32))), (0, Value.ref (ad 91)), (2, Value.int l2_5)] d_Mo_digest_63 rfl (by first | rfl | decide) (by decide) rfl ?_
      refine V_goto X 9 d_Mo_digest_66 (by decide) ?_
      refine V_sub (lv' := [(0, Value.ref (ad 91)), (1, Value.int (l1 + (1 : Int32)))]) [1, 0] rfl ?_
      exact ih (l1 + (1 : Int32)) s12 h
set_option maxHeartbeats 4000000 in
set_option maxRecDepth 100000 in
theorem Mo_digest_L81_ok {p : Program} {l : Launch} {e : Env} {R : Room} {s : State} {m : MethodId} {args : Array Value} {below : List Frame} {meth : Method} {c : Code} {D : va_G} {ad : Nat → Nat} {cI cB : ClassId} {A : Nat → Prop} {cells slots : Nat} {Q : State → Prop} (X : Cx p R s m args meth c jR10 prog_13_method_61_code 3 7 D ad cI cB A cells slots) (fu : Nat) (l1 : Int32) (kont : (Int32 → Sg → Option (Int64 × Sg))) {K : (Int64 × Sg) → Prop} (hQ : RL p l e R s m args below meth c 3 D ad cI cB A cells slots Q prog_13_method_61_code K) (hk : ∀ (l2 : Int32) (σ : Sg), wpO (kont l2 σ) K → V p l e R s m args below meth c 3 D A cells slots Q (wl ad cI cB σ) 104 [(0, Value.ref (ad 91)), (1, Value.int l1), (2, Value.int l2)] []) : ∀ (n : Nat) (l2 : Int32) (σ : Sg), wpO (Mo_digest_L81 fu l1 kont n l2 σ) K → V p l e R s m args below meth c 3 D A cells slots Q (wl ad cI cB σ) 81 [(0, Value.ref (ad 91)), (1, Value.int l1), (2, Value.int l2)] [] := by
  intro n
  induction n with
  | zero =>
    intro l2 σ h
    exact (wp_none h).elim
  | succ n ih =>
    intro l2 σ h
    rw [Mo_digest_L81] at h
    refine V_iload_n X 2 d_Mo_digest_81 rfl ?_
    refine V_bipush (v := 10) X d_Mo_digest_82 (by decide) ?_
    refine V_icmp_ge X 104 d_Mo_digest_84 (by decide) h (fun c16 h => ?_) (fun c16 h => ?_)
    · skip
      exact hk l2 σ h
    · skip
      refine V_aload_n X 0 d_Mo_digest_87 rfl ?_
      refine V_aload_n X 0 d_Mo_digest_88 rfl ?_
      refine V_iload_n X 1 d_Mo_digest_89 rfl ?_
      refine V_iload_n X 2 d_Mo_digest_90 rfl ?_
      refine V_cP X h (fun r17 s18 q => C_V (q := 10) X [Value.int l1, Value.int l2] mt_Mo_suitNow ms_Mo_suitNow ml_Mo_181 (k_Mo_suitNow fu σ l1 l2 r17 s18 q) rfl rfl (by omega) (Nat.le_of_ble_eq_true rfl) rfl (by decide) (by decide) (by decide) d_Mo_digest_91) (fun r17 s18 h => ?_)
      refine V_i2l X d_Mo_digest_94 ?_
      refine V_cV X h (fun s19 q => C_V (q := 10) X [Value.long r17.toInt64] mt_Mo_mix ms_Mo_mix ml_Mo_282 (k_Mo_mix s18 r17.toInt64 s19 q) rfl rfl (by omega) (Nat.le_of_ble_eq_true rfl) rfl (by decide) (by decide) (by decide) d_Mo_digest_95) (fun s19 h => ?_)
      refine V_iinc X 2 (l2 + (1 : Int32)) [(2, Value.int (l2 + (1 : Int32))), (0, Value.ref (ad 91)), (1, Value.int l1)] d_Mo_digest_98 rfl (by first | rfl | decide) (by decide) rfl ?_
      refine V_goto X 81 d_Mo_digest_101 (by decide) ?_
      refine V_sub (lv' := [(0, Value.ref (ad 91)), (1, Value.int l1), (2, Value.int (l2 + (1 : Int32)))]) [1, 2, 0] rfl ?_
      exact ih (l2 + (1 : Int32)) s19 h
set_option maxHeartbeats 4000000 in
set_option maxRecDepth 100000 in
theorem Mo_digest_L71_ok {p : Program} {l : Launch} {e : Env} {R : Room} {s : State} {m : MethodId} {args : Array Value} {below : List Frame} {meth : Method} {c : Code} {D : va_G} {ad : Nat → Nat} {cI cB : ClassId} {A : Nat → Prop} {cells slots : Nat} {Q : State → Prop} (X : Cx p R s m args meth c jR10 prog_13_method_61_code 3 7 D ad cI cB A cells slots) (fu : Nat) (kont : (Int32 → Sg → Option (Int64 × Sg))) {K : (Int64 × Sg) → Prop} (hQ : RL p l e R s m args below meth c 3 D ad cI cB A cells slots Q prog_13_method_61_code K) (hk : ∀ (l1 : Int32) (σ : Sg), wpO (kont l1 σ) K → V p l e R s m args below meth c 3 D A cells slots Q (wl ad cI cB σ) 136 [(0, Value.ref (ad 91)), (1, Value.int l1)] []) : ∀ (n : Nat) (l1 : Int32) (σ : Sg), wpO (Mo_digest_L71 fu kont n l1 σ) K → V p l e R s m args below meth c 3 D A cells slots Q (wl ad cI cB σ) 71 [(0, Value.ref (ad 91)), (1, Value.int l1)] [] := by
  intro n
  induction n with
  | zero =>
    intro l1 σ h
    exact (wp_none h).elim
  | succ n ih =>
    intro l1 σ h
    rw [Mo_digest_L71] at h
    refine V_iload_n X 1 d_Mo_digest_71 rfl ?_
    refine V_aload_n X 0 d_Mo_digest_72 rfl ?_
    refine V_getI X 10 2 rfl ji10 (by decide) (by decide) (by decide) fl_Mo_124 d_Mo_digest_73 (by decide) (by decide) (by decide) ?_
    refine V_icmp_ge X 136 d_Mo_digest_76 (by decide) h (fun c15 h => ?_) (fun c15 h => ?_)
    · skip
      exact hk l1 σ h
    · skip
      refine V_iconst (v := 0) X d_Mo_digest_79 (by decide) ?_
      refine V_istore_n X [(2, Value.int (0 : Int32)), (0, Value.ref (ad 91)), (1, Value.int l1)] d_Mo_digest_80 (by decide) rfl ?_
      refine V_sub (lv' := [(0, Value.ref (ad 91)), (1, Value.int l1), (2, Value.int (0 : Int32))]) [1, 2, 0] rfl ?_
      refine Mo_digest_L81_ok X fu l1 _ hQ (fun l2_20 s21 h => ?_) fu (0 : Int32) σ h
      refine V_aload_n X 0 d_Mo_digest_104 rfl ?_
      refine V_aload_n X 0 d_Mo_digest_105 rfl ?_
      refine V_iload_n X 1 d_Mo_digest_106 rfl ?_
      refine V_iconst (v := 0) X d_Mo_digest_107 (by decide) ?_
      refine V_iconst (v := 2) X d_Mo_digest_108 (by decide) ?_
      refine V_iconst (v := 0) X d_Mo_digest_109 (by decide) ?_
      refine V_cP X h (fun r22 s23 q => C_V (q := 10) X [Value.int l1, Value.int (0 : Int32), Value.int (2 : Int32), Value.int (0 : Int32)] mt_Mo_oddsNow ms_Mo_oddsNow ml_Mo_225 (k_Mo_oddsNow fu s21 l1 (0 : Int32) (2 : Int32) (0 : Int32) r22 s23 q) rfl rfl (by omega) (Nat.le_of_ble_eq_true rfl) rfl (by decide) (by decide) (by decide) d_Mo_digest_110) (fun r22 s23 h => ?_)
      refine V_i2l X d_Mo_digest_113 ?_
      refine V_cV X h (fun s24 q => C_V (q := 10) X [Value.long r22.toInt64] mt_Mo_mix ms_Mo_mix ml_Mo_282 (k_Mo_mix s23 r22.toInt64 s24 q) rfl rfl (by omega) (Nat.le_of_ble_eq_true rfl) rfl (by decide) (by decide) (by decide) d_Mo_digest_114) (fun s24 h => ?_)
      refine V_aload_n X 0 d_Mo_digest_117 rfl ?_
      refine V_aload_n X 0 d_Mo_digest_118 rfl ?_
      refine V_iload_n X 1 d_Mo_digest_119 rfl ?_
      refine V_iconst (v := 0) X d_Mo_digest_120 (by decide) ?_
      refine V_iconst (v := 2) X d_Mo_digest_121 (by decide) ?_
      refine V_iconst (v := 1) X d_Mo_digest_122 (by decide) ?_
      refine V_cP X h (fun r25 s26 q => C_V (q := 10) X [Value.int l1, Value.int (0 : Int32), Value.int (2 : Int32), Value.int (1 : Int32)] mt_Mo_oddsNow ms_Mo_oddsNow ml_Mo_225 (k_Mo_oddsNow fu s24 l1 (0 : Int32) (2 : Int32) (1 : Int32) r25 s26 q) rfl rfl (by omega) (Nat.le_of_ble_eq_true rfl) rfl (by decide) (by decide) (by decide) d_Mo_digest_123) (fun r25 s26 h => ?_)
      refine V_i2l X d_Mo_digest_126 ?_
      refine V_cV X h (fun s27 q => C_V (q := 10) X [Value.long r25.toInt64] mt_Mo_mix ms_Mo_mix ml_Mo_282 (k_Mo_mix s26 r25.toInt64 s27 q) rfl rfl (by omega) (Nat.le_of_ble_eq_true rfl) rfl (by decide) (by decide) (by decide) d_Mo_digest_127) (fun s27 h => ?_)
      refine V_iinc X 1 (l1 + (1 : Int32)) [(1, Value.int (l1 + (1 : Int32))), (0, Value.ref (ad 91)), (2, Value.int l2_20)] d_Mo_digest_130 rfl (by first | rfl | decide) (by decide) rfl ?_
      refine V_goto X 71 d_Mo_digest_133 (by decide) ?_
      refine V_sub (lv' := [(0, Value.ref (ad 91)), (1, Value.int (l1 + (1 : Int32)))]) [1, 0] rfl ?_
      exact ih (l1 + (1 : Int32)) s27 h
set_option maxHeartbeats 4000000 in
set_option maxRecDepth 100000 in
theorem Mo_digest_L138_ok {p : Program} {l : Launch} {e : Env} {R : Room} {s : State} {m : MethodId} {args : Array Value} {below : List Frame} {meth : Method} {c : Code} {D : va_G} {ad : Nat → Nat} {cI cB : ClassId} {A : Nat → Prop} {cells slots : Nat} {Q : State → Prop} (X : Cx p R s m args meth c jR10 prog_13_method_61_code 3 7 D ad cI cB A cells slots) (fu : Nat) (kont : (Int32 → Sg → Option (Int64 × Sg))) {K : (Int64 × Sg) → Prop} (hQ : RL p l e R s m args below meth c 3 D ad cI cB A cells slots Q prog_13_method_61_code K) (hk : ∀ (l1 : Int32) (σ : Sg), wpO (kont l1 σ) K → V p l e R s m args below meth c 3 D A cells slots Q (wl ad cI cB σ) 163 [(0, Value.ref (ad 91)), (1, Value.int l1)] []) : ∀ (n : Nat) (l1 : Int32) (σ : Sg), wpO (Mo_digest_L138 fu kont n l1 σ) K → V p l e R s m args below meth c 3 D A cells slots Q (wl ad cI cB σ) 138 [(0, Value.ref (ad 91)), (1, Value.int l1)] [] := by
  intro n
  induction n with
  | zero =>
    intro l1 σ h
    exact (wp_none h).elim
  | succ n ih =>
    intro l1 σ h
    rw [Mo_digest_L138] at h
    refine V_iload_n X 1 d_Mo_digest_138 rfl ?_
    refine V_aload_n X 0 d_Mo_digest_139 rfl ?_
    refine V_getI X 10 17 rfl ji10 (by decide) (by decide) (by decide) fl_Mo_87 d_Mo_digest_140 (by decide) (by decide) (by decide) ?_
    refine V_icmp_ge X 163 d_Mo_digest_143 (by decide) h (fun c30 h => ?_) (fun c30 h => ?_)
    · skip
      exact hk l1 σ h
    · skip
      refine V_aload_n X 0 d_Mo_digest_146 rfl ?_
      refine V_aload_n X 0 d_Mo_digest_147 rfl ?_
      refine V_getR X 10 18 101 rfl ji10 (by decide) (by decide) (by decide) fl_Mo_37 d_Mo_digest_148 (by decide) (by decide) (by decide) (by decide) ?_
      refine V_iload_n X 1 d_Mo_digest_151 rfl ?_
      refine V_bald X d_Mo_digest_152 (by decide) (by decide) rfl h (fun h => ?_)
      refine V_i2l X d_Mo_digest_153 ?_
      refine V_cV X h (fun s31 q => C_V (q := 10) X [Value.long ((gA σ 101 (ix l1)).toInt64)] mt_Mo_mix ms_Mo_mix ml_Mo_282 (k_Mo_mix σ ((gA σ 101 (ix l1)).toInt64) s31 q) rfl rfl (by omega) (Nat.le_of_ble_eq_true rfl) rfl (by decide) (by decide) (by decide) d_Mo_digest_154) (fun s31 h => ?_)
      refine V_iinc X 1 (l1 + (1 : Int32)) [(1, Value.int (l1 + (1 : Int32))), (0, Value.ref (ad 91))] d_Mo_digest_157 rfl (by first | rfl | decide) (by decide) rfl ?_
      refine V_goto X 138 d_Mo_digest_160 (by decide) ?_
      refine V_sub (lv' := [(0, Value.ref (ad 91)), (1, Value.int (l1 + (1 : Int32)))]) [1, 0] rfl ?_
      exact ih (l1 + (1 : Int32)) s31 h
set_option maxHeartbeats 4000000 in
set_option maxRecDepth 100000 in
theorem Mo_digest_L165_ok {p : Program} {l : Launch} {e : Env} {R : Room} {s : State} {m : MethodId} {args : Array Value} {below : List Frame} {meth : Method} {c : Code} {D : va_G} {ad : Nat → Nat} {cI cB : ClassId} {A : Nat → Prop} {cells slots : Nat} {Q : State → Prop} (X : Cx p R s m args meth c jR10 prog_13_method_61_code 3 7 D ad cI cB A cells slots) (fu : Nat) (kont : (Int32 → Sg → Option (Int64 × Sg))) {K : (Int64 × Sg) → Prop} (hQ : RL p l e R s m args below meth c 3 D ad cI cB A cells slots Q prog_13_method_61_code K) (hk : ∀ (l1 : Int32) (σ : Sg), wpO (kont l1 σ) K → V p l e R s m args below meth c 3 D A cells slots Q (wl ad cI cB σ) 187 [(0, Value.ref (ad 91)), (1, Value.int l1)] []) : ∀ (n : Nat) (l1 : Int32) (σ : Sg), wpO (Mo_digest_L165 fu kont n l1 σ) K → V p l e R s m args below meth c 3 D A cells slots Q (wl ad cI cB σ) 165 [(0, Value.ref (ad 91)), (1, Value.int l1)] [] := by
  intro n
  induction n with
  | zero =>
    intro l1 σ h
    exact (wp_none h).elim
  | succ n ih =>
    intro l1 σ h
    rw [Mo_digest_L165] at h
    refine V_iload_n X 1 d_Mo_digest_165 rfl ?_
    refine V_bipush (v := 12) X d_Mo_digest_166 (by decide) ?_
    refine V_icmp_ge X 187 d_Mo_digest_168 (by decide) h (fun c34 h => ?_) (fun c34 h => ?_)
    · skip
      exact hk l1 σ h
    · skip
      refine V_aload_n X 0 d_Mo_digest_171 rfl ?_
      refine V_aload_n X 0 d_Mo_digest_172 rfl ?_
      refine V_iload_n X 1 d_Mo_digest_173 rfl ?_
      refine V_cI X h (fun r35 q => C_V (q := 10) X [Value.int l1] mt_Mo_howMany ms_Mo_howMany ml_Mo_272 (k_Mo_howMany fu σ l1 r35 q) rfl rfl (by omega) (Nat.le_of_ble_eq_true rfl) rfl (by decide) (by decide) (by decide) d_Mo_digest_174) (fun r35 h => ?_)
      refine V_i2l X d_Mo_digest_177 ?_
      refine V_cV X h (fun s36 q => C_V (q := 10) X [Value.long r35.toInt64] mt_Mo_mix ms_Mo_mix ml_Mo_282 (k_Mo_mix σ r35.toInt64 s36 q) rfl rfl (by omega) (Nat.le_of_ble_eq_true rfl) rfl (by decide) (by decide) (by decide) d_Mo_digest_178) (fun s36 h => ?_)
      refine V_iinc X 1 (l1 + (1 : Int32)) [(1, Value.int (l1 + (1 : Int32))), (0, Value.ref (ad 91))] d_Mo_digest_181 rfl (by first | rfl | decide) (by decide) rfl ?_
      refine V_goto X 165 d_Mo_digest_184 (by decide) ?_
      refine V_sub (lv' := [(0, Value.ref (ad 91)), (1, Value.int (l1 + (1 : Int32)))]) [1, 0] rfl ?_
      exact ih (l1 + (1 : Int32)) s36 h
set_option maxHeartbeats 4000000 in
set_option maxRecDepth 100000 in
theorem k_Mo_digest (fu : Nat) (σ : Sg) (r : Int64) (σ' : Sg) (h : Mo_digest fu σ = some (r, σ')) : Evc y_Mo_digest prog_13_method_61_code 3 (some .long) 7 (fun ad => [Value.ref (ad 91)]) σ σ' (fun _ => some (.long r)) := by
  refine Evc_ofL (by decide) (fun ad => Nat.le_of_ble_eq_true rfl) (fun p l e R s m args below meth c D ad cI cB A Q X hQ => ?_)
  have X : Cx p R s m args meth c jR10 prog_13_method_61_code 3 7 D ad cI cB A 0 0 := X
  have h : wpO (Mo_digest fu σ) (fun q => q = (r, σ')) := ⟨_, h, rfl⟩
  rw [Mo_digest] at h
  refine V_sub (lv' := [(0, Value.ref (ad 91))]) [0] rfl ?_
  refine V_aload_n X 0 d_Mo_digest_0 rfl ?_
  refine V_ldc2 X d_Mo_digest_1 kl_Mo_280 ?_
  refine V_putL X 10 45 rfl ji10 jk10 jn10 (by decide) (by decide) (by decide) rfl (by decide +kernel) fl_Mo_277 d_Mo_digest_4 (by decide) (by decide) (by decide) ?_
  refine V_iconst (v := 0) X d_Mo_digest_7 (by decide) ?_
  refine V_istore_n X [(1, Value.int (0 : Int32)), (0, Value.ref (ad 91))] d_Mo_digest_8 (by decide) rfl ?_
  refine V_sub (lv' := [(0, Value.ref (ad 91)), (1, Value.int (0 : Int32))]) [1, 0] rfl ?_
  refine Mo_digest_L9_ok X fu _ hQ (fun l1_13 s14 h => ?_) fu (0 : Int32) (sL σ 91 45 (1229 : Int64)) h
  refine V_iconst (v := 0) X d_Mo_digest_69 (by decide) ?_
  refine V_istore_n X [(1, Value.int (0 : Int32)), (0, Value.ref (ad 91))] d_Mo_digest_70 (by decide) rfl ?_
  refine V_sub (lv' := [(0, Value.ref (ad 91)), (1, Value.int (0 : Int32))]) [1, 0] rfl ?_
  refine Mo_digest_L71_ok X fu _ hQ (fun l1_28 s29 h => ?_) fu (0 : Int32) s14 h
  refine V_iconst (v := 0) X d_Mo_digest_136 (by decide) ?_
  refine V_istore_n X [(1, Value.int (0 : Int32)), (0, Value.ref (ad 91))] d_Mo_digest_137 (by decide) rfl ?_
  refine V_sub (lv' := [(0, Value.ref (ad 91)), (1, Value.int (0 : Int32))]) [1, 0] rfl ?_
  refine Mo_digest_L138_ok X fu _ hQ (fun l1_32 s33 h => ?_) fu (0 : Int32) s29 h
  refine V_iconst (v := 0) X d_Mo_digest_163 (by decide) ?_
  refine V_istore_n X [(1, Value.int (0 : Int32)), (0, Value.ref (ad 91))] d_Mo_digest_164 (by decide) rfl ?_
  refine V_sub (lv' := [(0, Value.ref (ad 91)), (1, Value.int (0 : Int32))]) [1, 0] rfl ?_
  refine Mo_digest_L165_ok X fu _ hQ (fun l1_37 s38 h => ?_) fu (0 : Int32) s33 h
  refine V_aload_n X 0 d_Mo_digest_187 rfl ?_
  refine V_getL X 10 45 rfl ji10 (by decide) (by decide) (by decide) fl_Mo_277 d_Mo_digest_188 (by decide) (by decide) (by decide) ?_
  have h9 := wp_some h
  exact hQ _ _ h9 _ _ d_Mo_digest_191
set_option maxHeartbeats 4000000 in
set_option maxRecDepth 100000 in
theorem k_Mo_isFigure (σ : Sg) (a0 : Int32) (a1 : Int32) (a2 : Int32) (r : Int32) (h : Mo_isFigure σ a0 a1 a2 = some r) : Evc y_Mo_isFigure prog_13_method_11_code 4 (some .boolean) 2 (fun ad => [Value.ref (ad 91), Value.int a0, Value.int a1, Value.int a2]) σ σ (fun _ => some (.int r)) := by
  refine Evc_ofZ (by decide) (fun ad => Nat.le_of_ble_eq_true rfl) (fun p l e R s m args below meth c D ad cI cB A Q X hQ => ?_)
  have X : Cx p R s m args meth c jR10 prog_13_method_11_code 4 2 D ad cI cB A 0 0 := X
  have hQ := hQ.pure
  have h : wpO (Mo_isFigure σ a0 a1 a2) (fun q => q = r) := ⟨_, h, rfl⟩
  rw [Mo_isFigure] at h
  refine V_sub (lv' := [(0, Value.ref (ad 91)), (1, Value.int a0), (2, Value.int a1), (3, Value.int a2)]) [0, 1, 2, 3] rfl ?_
  refine V_aload_n X 0 d_Mo_isFigure_0 rfl ?_
  refine V_iload_n X 1 d_Mo_isFigure_1 rfl ?_
  refine V_cI X h (fun r1 q => C_V (q := 10) X [Value.int a0] mt_Mo_at ms_Mo_at ml_Mo_91 (k_Mo_at σ a0 r1 q) rfl rfl (by omega) (Nat.le_of_ble_eq_true rfl) rfl (by decide) (by decide) (by decide) d_Mo_isFigure_2) (fun r1 h => ?_)
  refine V_bipush (v := 48) X d_Mo_isFigure_5 (by decide) ?_
  refine V_isub X d_Mo_isFigure_7 ?_
  refine V_iload_n X 2 d_Mo_isFigure_8 rfl ?_
  refine V_iload_n X 3 d_Mo_isFigure_9 rfl ?_
  refine V_cI X h (fun r2 q => C_S X [Value.int (r1 - (48 : Int32)), Value.int a1, Value.int a2] mt_Mo_within ms_Mo_within ml_Mo_83 (k_Mo_within σ (r1 - (48 : Int32)) a1 a2 r2 q) rfl rfl (by omega) (Nat.le_of_ble_eq_true rfl) d_Mo_isFigure_10) (fun r2 h => ?_)
  obtain ⟨hz, h⟩ := wp_if h
  have h9 := wp_some h
  exact hQ _ h9 (fun _ => hz) _ _ d_Mo_isFigure_13
set_option maxHeartbeats 4000000 in
set_option maxRecDepth 100000 in
theorem k_Mo_kindBy (σ : Sg) (a0 : Int32) (r : Int32) (h : Mo_kindBy a0 = some r) : Evc y_Mo_kindBy prog_13_method_9_code 1 (some .int) 1 (fun ad => [Value.int a0]) σ σ (fun _ => some (.int r)) := by
  refine Evc_ofI (by decide) (fun ad => Nat.le_of_ble_eq_true rfl) (fun p l e R s m args below meth c D ad cI cB A Q X hQ => ?_)
  have X : Cx p R s m args meth c jR10 prog_13_method_9_code 1 1 D ad cI cB A 0 0 := X
  have hQ := hQ.pure
  have h : wpO (Mo_kindBy a0) (fun q => q = r) := ⟨_, h, rfl⟩
  rw [Mo_kindBy] at h
  refine V_sub (lv' := [(0, Value.int a0)]) [0] rfl ?_
  refine V_iload_n X 0 d_Mo_kindBy_0 rfl ?_
  rcases wp_case h with ⟨c1, h⟩ | ⟨c1, h⟩
  · skip
    refine V_lookup X 59 60 d_Mo_kindBy_1 (by decide) (by rw [c1]; decide) (by decide) ?_
    refine V_iconst (v := 4) X d_Mo_kindBy_60 (by decide) ?_
    have h9 := wp_some h
    exact hQ _ h9 (fun h9 => absurd h9 (by decide)) _ _ d_Mo_kindBy_61
  · skip
    rcases wp_case h with ⟨c2, h⟩ | ⟨c2, h⟩
    · skip
      refine V_lookup X 51 52 d_Mo_kindBy_1 (by decide) (by rw [c2]; decide) (by decide) ?_
      refine V_iconst (v := 0) X d_Mo_kindBy_52 (by decide) ?_
      have h9 := wp_some h
      exact hQ _ h9 (fun h9 => absurd h9 (by decide)) _ _ d_Mo_kindBy_53
    · skip
      rcases wp_case h with ⟨c3, h⟩ | ⟨c3, h⟩
      · skip
        refine V_lookup X 53 54 d_Mo_kindBy_1 (by decide) (by rw [c3]; decide) (by decide) ?_
        refine V_iconst (v := 1) X d_Mo_kindBy_54 (by decide) ?_
        have h9 := wp_some h
        exact hQ _ h9 (fun h9 => absurd h9 (by decide)) _ _ d_Mo_kindBy_55
      · skip
        rcases wp_case h with ⟨c4, h⟩ | ⟨c4, h⟩
        · skip
          refine V_lookup X 57 58 d_Mo_kindBy_1 (by decide) (by rw [c4]; decide) (by decide) ?_
          refine V_iconst (v := 3) X d_Mo_kindBy_58 (by decide) ?_
          have h9 := wp_some h
          exact hQ _ h9 (fun h9 => absurd h9 (by decide)) _ _ d_Mo_kindBy_59
        · skip
          rcases wp_case h with ⟨c5, h⟩ | ⟨c5, h⟩
          · skip
            refine V_lookup X 55 56 d_Mo_kindBy_1 (by decide) (by rw [c5]; decide) (by decide) ?_
            refine V_iconst (v := 2) X d_Mo_kindBy_56 (by decide) ?_
            have h9 := wp_some h
            exact hQ _ h9 (fun h9 => absurd h9 (by decide)) _ _ d_Mo_kindBy_57
          · skip
            refine V_lookup X 61 62 d_Mo_kindBy_1 (by decide) (by show Op.lookupswitch.offset [(97, 59), (99, 51), (109, 53), (111, 57), (117, 55)] _ _ = _; rw [Op.lookupswitch.offset_cons, if_neg (Ne.symm (sw_ne c1 (97) (by decide))), Op.lookupswitch.offset_cons, if_neg (Ne.symm (sw_ne c2 (99) (by decide))), Op.lookupswitch.offset_cons, if_neg (Ne.symm (sw_ne c3 (109) (by decide))), Op.lookupswitch.offset_cons, if_neg (Ne.symm (sw_ne c4 (111) (by decide))), Op.lookupswitch.offset_cons, if_neg (Ne.symm (sw_ne c5 (117) (by decide))), Op.lookupswitch.offset_nil]) (by decide) ?_
            refine V_iconst (v := -1) X d_Mo_kindBy_62 (by decide) ?_
            have h9 := wp_some h
            exact hQ _ h9 (fun h9 => absurd h9 (by decide)) _ _ d_Mo_kindBy_63
set_option maxHeartbeats 4000000 in
set_option maxRecDepth 100000 in
theorem k_Mo_readCase (σ : Sg) (a0 : Int32) (r : Int32) (h : Mo_readCase σ a0 = some r) : Evc y_Mo_readCase prog_13_method_12_code 2 (some .int) 3 (fun ad => [Value.ref (ad 91), Value.int a0]) σ σ (fun _ => some (.int r)) := by
  refine Evc_ofI (by decide) (fun ad => Nat.le_of_ble_eq_true rfl) (fun p l e R s m args below meth c D ad cI cB A Q X hQ => ?_)
  have X : Cx p R s m args meth c jR10 prog_13_method_12_code 2 3 D ad cI cB A 0 0 := X
  have hQ := hQ.pure
  have h : wpO (Mo_readCase σ a0) (fun q => q = r) := ⟨_, h, rfl⟩
  rw [Mo_readCase] at h
  refine V_sub (lv' := [(0, Value.ref (ad 91)), (1, Value.int a0)]) [0, 1] rfl ?_
  refine V_aload_n X 0 d_Mo_readCase_0 rfl ?_
  refine V_iload_n X 1 d_Mo_readCase_1 rfl ?_
  refine V_cI X h (fun r1 q => C_V (q := 10) X [Value.int a0] mt_Mo_at ms_Mo_at ml_Mo_91 (k_Mo_at σ a0 r1 q) rfl rfl (by omega) (Nat.le_of_ble_eq_true rfl) rfl (by decide) (by decide) (by decide) d_Mo_readCase_2) (fun r1 h => ?_)
  refine V_cI X h (fun r2 q => C_S X [Value.int r1] mt_Mo_kindBy ms_Mo_kindBy ml_Mo_95 (k_Mo_kindBy σ r1 r2 q) rfl rfl (by omega) (Nat.le_of_ble_eq_true rfl) d_Mo_readCase_5) (fun r2 h => ?_)
  refine V_iconst (v := -1) X d_Mo_readCase_8 (by decide) ?_
  refine V_icmp_ne X 14 d_Mo_readCase_9 (by decide) h (fun c3 h => ?_) (fun c3 h => ?_)
  · skip
    refine V_aload_n X 0 d_Mo_readCase_14 rfl ?_
    refine V_iload_n X 1 d_Mo_readCase_15 rfl ?_
    refine V_iconst (v := 1) X d_Mo_readCase_16 (by decide) ?_
    refine V_iadd X d_Mo_readCase_17 ?_
    refine V_iconst (v := 1) X d_Mo_readCase_18 (by decide) ?_
    refine V_bipush (v := 9) X d_Mo_readCase_19 (by decide) ?_
    refine V_cI X h (fun r4 q => C_V (q := 10) X [Value.int (a0 + (1 : Int32)), Value.int (1 : Int32), Value.int (9 : Int32)] mt_Mo_isFigure ms_Mo_isFigure ml_Mo_98 (k_Mo_isFigure σ (a0 + (1 : Int32)) (1 : Int32) (9 : Int32) r4 q) rfl rfl (by omega) (Nat.le_of_ble_eq_true rfl) rfl (by decide) (by decide) (by decide) d_Mo_readCase_21) (fun r4 h => ?_)
    refine V_if_ne X 31 d_Mo_readCase_24 (by decide) h (fun c5 h => ?_) (fun c5 h => ?_)
    · skip
      refine V_aload_n X 0 d_Mo_readCase_31 rfl ?_
      refine V_iload_n X 1 d_Mo_readCase_32 rfl ?_
      refine V_iconst (v := 2) X d_Mo_readCase_33 (by decide) ?_
      refine V_iadd X d_Mo_readCase_34 ?_
      refine V_iconst (v := 1) X d_Mo_readCase_35 (by decide) ?_
      refine V_bipush (v := 9) X d_Mo_readCase_36 (by decide) ?_
      refine V_cI X h (fun r6 q => C_V (q := 10) X [Value.int (a0 + (2 : Int32)), Value.int (1 : Int32), Value.int (9 : Int32)] mt_Mo_isFigure ms_Mo_isFigure ml_Mo_98 (k_Mo_isFigure σ (a0 + (2 : Int32)) (1 : Int32) (9 : Int32) r6 q) rfl rfl (by omega) (Nat.le_of_ble_eq_true rfl) rfl (by decide) (by decide) (by decide) d_Mo_readCase_38) (fun r6 h => ?_)
      refine V_if_ne X 48 d_Mo_readCase_41 (by decide) h (fun c7 h => ?_) (fun c7 h => ?_)
      · skip
        refine V_aload_n X 0 d_Mo_readCase_48 rfl ?_
        refine V_iload_n X 1 d_Mo_readCase_49 rfl ?_
        refine V_iconst (v := 3) X d_Mo_readCase_50 (by decide) ?_
        refine V_iadd X d_Mo_readCase_51 ?_
        refine V_cI X h (fun r8 q => C_V (q := 10) X [Value.int (a0 + (3 : Int32))] mt_Mo_at ms_Mo_at ml_Mo_91 (k_Mo_at σ (a0 + (3 : Int32)) r8 q) rfl rfl (by omega) (Nat.le_of_ble_eq_true rfl) rfl (by decide) (by decide) (by decide) d_Mo_readCase_52) (fun r8 h => ?_)
        refine V_bipush (v := 45) X d_Mo_readCase_55 (by decide) ?_
        refine V_icmp_eq X 77 d_Mo_readCase_57 (by decide) h (fun c9 h => ?_) (fun c9 h => ?_)
        · skip
          refine V_iload_n X 1 d_Mo_readCase_77 rfl ?_
          refine V_iconst (v := 4) X d_Mo_readCase_78 (by decide) ?_
          refine V_iadd X d_Mo_readCase_79 ?_
          refine V_goto X 86 d_Mo_readCase_80 (by decide) ?_
          have h9 := wp_some h
          exact hQ _ h9 (fun h9 => absurd h9 (by decide)) _ _ d_Mo_readCase_86
        · skip
          refine V_aload_n X 0 d_Mo_readCase_60 rfl ?_
          refine V_iload_n X 1 d_Mo_readCase_61 rfl ?_
          refine V_iconst (v := 3) X d_Mo_readCase_62 (by decide) ?_
          refine V_iadd X d_Mo_readCase_63 ?_
          refine V_iconst (v := 0) X d_Mo_readCase_64 (by decide) ?_
          refine V_aload_n X 0 d_Mo_readCase_65 rfl ?_
          refine V_getI X 10 21 rfl ji10 (by decide) (by decide) (by decide) fl_Mo_101 d_Mo_readCase_66 (by decide) (by decide) (by decide) ?_
          refine V_iconst (v := 1) X d_Mo_readCase_69 (by decide) ?_
          refine V_isub X d_Mo_readCase_70 ?_
          refine V_cI X h (fun r10 q => C_V (q := 10) X [Value.int (a0 + (3 : Int32)), Value.int (0 : Int32), Value.int ((gF σ 91 21) - (1 : Int32))] mt_Mo_isFigure ms_Mo_isFigure ml_Mo_98 (k_Mo_isFigure σ (a0 + (3 : Int32)) (0 : Int32) ((gF σ 91 21) - (1 : Int32)) r10 q) rfl rfl (by omega) (Nat.le_of_ble_eq_true rfl) rfl (by decide) (by decide) (by decide) d_Mo_readCase_71) (fun r10 h => ?_)
          refine V_if_eq X 83 d_Mo_readCase_74 (by decide) h (fun c11 h => ?_) (fun c11 h => ?_)
          · skip
            refine V_iload_n X 1 d_Mo_readCase_83 rfl ?_
            refine V_iconst (v := 3) X d_Mo_readCase_84 (by decide) ?_
            refine V_iadd X d_Mo_readCase_85 ?_
            have h9 := wp_some h
            exact hQ _ h9 (fun h9 => absurd h9 (by decide)) _ _ d_Mo_readCase_86
          · skip
            refine V_iload_n X 1 d_Mo_readCase_77 rfl ?_
            refine V_iconst (v := 4) X d_Mo_readCase_78 (by decide) ?_
            refine V_iadd X d_Mo_readCase_79 ?_
            refine V_goto X 86 d_Mo_readCase_80 (by decide) ?_
            have h9 := wp_some h
            exact hQ _ h9 (fun h9 => absurd h9 (by decide)) _ _ d_Mo_readCase_86
      · skip
        refine V_iload_n X 1 d_Mo_readCase_44 rfl ?_
        refine V_iconst (v := 2) X d_Mo_readCase_45 (by decide) ?_
        refine V_iadd X d_Mo_readCase_46 ?_
        have h9 := wp_some h
        exact hQ _ h9 (fun h9 => absurd h9 (by decide)) _ _ d_Mo_readCase_47
    · skip
      refine V_iload_n X 1 d_Mo_readCase_27 rfl ?_
      refine V_iconst (v := 1) X d_Mo_readCase_28 (by decide) ?_
      refine V_iadd X d_Mo_readCase_29 ?_
      have h9 := wp_some h
      exact hQ _ h9 (fun h9 => absurd h9 (by decide)) _ _ d_Mo_readCase_30
  · skip
    refine V_iload_n X 1 d_Mo_readCase_12 rfl ?_
    have h9 := wp_some h
    exact hQ _ h9 (fun h9 => absurd h9 (by decide)) _ _ d_Mo_readCase_13
set_option maxHeartbeats 4000000 in
set_option maxRecDepth 100000 in
theorem Mo_readCases_L2_ok {p : Program} {l : Launch} {e : Env} {R : Room} {s : State} {m : MethodId} {args : Array Value} {below : List Frame} {meth : Method} {c : Code} {D : va_G} {ad : Nat → Nat} {cI cB : ClassId} {A : Nat → Prop} {cells slots : Nat} {Q : State → Prop} (X : Cx p R s m args meth c jR10 prog_13_method_13_code 4 4 D ad cI cB A cells slots) (fu : Nat) (kont : (Int32 → Sg → Option (Int32 × Sg))) {K : (Int32 × Sg) → Prop} (hQ : RI p l e R s m args below meth c 4 D ad cI cB A cells slots Q prog_13_method_13_code false K) (hk : ∀ (l2 : Int32) (σ : Sg), wpO (kont l2 σ) K → V p l e R s m args below meth c 4 D A cells slots Q (wl ad cI cB σ) 90 [(0, Value.ref (ad 91)), (2, Value.int l2)] []) : ∀ (n : Nat) (l2 : Int32) (σ : Sg), wpO (Mo_readCases_L2 fu kont n l2 σ) K → V p l e R s m args below meth c 4 D A cells slots Q (wl ad cI cB σ) 2 [(0, Value.ref (ad 91)), (2, Value.int l2)] [] := by
  intro n
  induction n with
  | zero =>
    intro l2 σ h
    exact (wp_none h).elim
  | succ n ih =>
    intro l2 σ h
    rw [Mo_readCases_L2] at h
    refine V_aload_n X 0 d_Mo_readCases_2 rfl ?_
    refine V_getI X 10 21 rfl ji10 (by decide) (by decide) (by decide) fl_Mo_101 d_Mo_readCases_3 (by decide) (by decide) (by decide) ?_
    refine V_bipush (v := 7) X d_Mo_readCases_6 (by decide) ?_
    refine V_icmp_ge X 90 d_Mo_readCases_8 (by decide) h (fun c1 h => ?_) (fun c1 h => ?_)
    · skip
      exact hk l2 σ h
    · skip
      refine V_aload_n X 0 d_Mo_readCases_11 rfl ?_
      refine V_iload_n X 1 d_Mo_readCases_12 rfl ?_
      refine V_cI X h (fun r2 q => C_V (q := 10) X [Value.int l2] mt_Mo_readCase ms_Mo_readCase ml_Mo_104 (k_Mo_readCase σ l2 r2 q) rfl rfl (by omega) (Nat.le_of_ble_eq_true rfl) rfl (by decide) (by decide) (by decide) d_Mo_readCases_13) (fun r2 h => ?_)
      refine V_istore_n X [(3, Value.int r2), (0, Value.ref (ad 91)), (2, Value.int l2)] d_Mo_readCases_16 (by decide) rfl ?_
      refine V_iload_n X 0 d_Mo_readCases_17 rfl ?_
      refine V_iload_n X 2 d_Mo_readCases_18 rfl ?_
      refine V_iconst (v := 4) X d_Mo_readCases_19 (by decide) ?_
      refine V_iadd X d_Mo_readCases_20 ?_
      refine V_icmp_eq X 26 d_Mo_readCases_21 (by decide) h (fun c3 h => ?_) (fun c3 h => ?_)
      · skip
        refine V_aload_n X 1 d_Mo_readCases_26 rfl ?_
        refine V_dup X d_Mo_readCases_27 rfl ?_
        refine V_getI X 10 21 rfl ji10 (by decide) (by decide) (by decide) fl_Mo_101 d_Mo_readCases_28 (by decide) (by decide) (by decide) ?_
        refine V_iconst (v := 1) X d_Mo_readCases_31 (by decide) ?_
        refine V_iadd X d_Mo_readCases_32 ?_
        refine V_putI X 10 21 rfl ji10 jk10 jn10 (by decide) (by decide) (by decide) rfl (by decide +kernel) fl_Mo_101 d_Mo_readCases_33 (by decide) (by decide) (by decide) ?_
        refine V_iload_n X 0 d_Mo_readCases_36 rfl ?_
        refine V_istore_n X [(2, Value.int r2), (3, Value.int r2), (0, Value.ref (ad 91))] d_Mo_readCases_37 (by decide) rfl ?_
        refine V_aload_n X 2 d_Mo_readCases_38 rfl ?_
        refine V_iload_n X 0 d_Mo_readCases_39 rfl ?_
        refine V_aload_n X 2 d_Mo_readCases_40 rfl ?_
        refine V_getI X 10 17 rfl ji10 (by decide) (by decide) (by decide) fl_Mo_87 d_Mo_readCases_41 (by decide) (by decide) (by decide) ?_
        refine V_icmp_ne X 59 d_Mo_readCases_44 (by decide) h (fun c4 h => ?_) (fun c4 h => ?_)
        · skip
          refine V_iconst (v := 0) X d_Mo_readCases_59 (by decide) ?_
          refine V_putZ X 10 19 (by decide) rfl ji10 jk10 jn10 (by decide) (by decide) (by decide) rfl (by decide +kernel) fl_Mo_107 d_Mo_readCases_60 (by decide) (by decide) (by decide) ?_
          refine V_aload_n X 2 d_Mo_readCases_63 rfl ?_
          refine V_getI X 10 21 rfl ji10 (by decide) (by decide) (by decide) fl_Mo_101 d_Mo_readCases_64 (by decide) (by decide) (by decide) ?_
          refine V_bipush (v := 7) X d_Mo_readCases_67 (by decide) ?_
          refine V_icmp_eq X 82 d_Mo_readCases_69 (by decide) h (fun c5 h => ?_) (fun c5 h => ?_)
          · skip
            refine V_iload_n X 0 d_Mo_readCases_82 rfl ?_
            have h9 := wp_some h
            exact hQ _ _ h9 (fun h9 => absurd h9 (by decide)) _ _ d_Mo_readCases_83
          · skip
            refine V_aload_n X 2 d_Mo_readCases_72 rfl ?_
            refine V_iload_n X 0 d_Mo_readCases_73 rfl ?_
            refine V_cI X h (fun r6 q => C_V (q := 10) X [Value.int r2] mt_Mo_at ms_Mo_at ml_Mo_91 (k_Mo_at (sF (sF σ 91 21 ((gF σ 91 21) + (1 : Int32))) 91 19 (0 : Int32)) r2 r6 q) rfl rfl (by omega) (Nat.le_of_ble_eq_true rfl) rfl (by decide) (by decide) (by decide) d_Mo_readCases_74) (fun r6 h => ?_)
            refine V_bipush (v := 44) X d_Mo_readCases_77 (by decide) ?_
            refine V_icmp_eq X 84 d_Mo_readCases_79 (by decide) h (fun c7 h => ?_) (fun c7 h => ?_)
            · skip
              refine V_iinc X 0 (r2 + (1 : Int32)) [(2, Value.int (r2 + (1 : Int32))), (3, Value.int r2), (0, Value.ref (ad 91))] d_Mo_readCases_84 rfl (by first | rfl | decide) (by decide) rfl ?_
              refine V_goto X 2 d_Mo_readCases_87 (by decide) ?_
              refine V_sub (lv' := [(0, Value.ref (ad 91)), (2, Value.int (r2 + (1 : Int32)))]) [2, 0] rfl ?_
              exact ih (r2 + (1 : Int32)) (sF (sF σ 91 21 ((gF σ 91 21) + (1 : Int32))) 91 19 (0 : Int32)) h
            · skip
              refine V_iload_n X 0 d_Mo_readCases_82 rfl ?_
              have h9 := wp_some h
              exact hQ _ _ h9 (fun h9 => absurd h9 (by decide)) _ _ d_Mo_readCases_83
        · skip
          refine V_aload_n X 2 d_Mo_readCases_47 rfl ?_
          refine V_getI X 10 21 rfl ji10 (by decide) (by decide) (by decide) fl_Mo_101 d_Mo_readCases_48 (by decide) (by decide) (by decide) ?_
          refine V_iconst (v := 1) X d_Mo_readCases_51 (by decide) ?_
          refine V_icmp_le X 59 d_Mo_readCases_52 (by decide) h (fun c8 h => ?_) (fun c8 h => ?_)
          · skip
            refine V_iconst (v := 0) X d_Mo_readCases_59 (by decide) ?_
            refine V_putZ X 10 19 (by decide) rfl ji10 jk10 jn10 (by decide) (by decide) (by decide) rfl (by decide +kernel) fl_Mo_107 d_Mo_readCases_60 (by decide) (by decide) (by decide) ?_
            refine V_aload_n X 2 d_Mo_readCases_63 rfl ?_
            refine V_getI X 10 21 rfl ji10 (by decide) (by decide) (by decide) fl_Mo_101 d_Mo_readCases_64 (by decide) (by decide) (by decide) ?_
            refine V_bipush (v := 7) X d_Mo_readCases_67 (by decide) ?_
            refine V_icmp_eq X 82 d_Mo_readCases_69 (by decide) h (fun c9 h => ?_) (fun c9 h => ?_)
            · skip
              refine V_iload_n X 0 d_Mo_readCases_82 rfl ?_
              have h9 := wp_some h
              exact hQ _ _ h9 (fun h9 => absurd h9 (by decide)) _ _ d_Mo_readCases_83
            · skip
              refine V_aload_n X 2 d_Mo_readCases_72 rfl ?_
              refine V_iload_n X 0 d_Mo_readCases_73 rfl ?_
              refine V_cI X h (fun r10 q => C_V (q := 10) X [Value.int r2] mt_Mo_at ms_Mo_at ml_Mo_91 (k_Mo_at (sF (sF σ 91 21 ((gF σ 91 21) + (1 : Int32))) 91 19 (0 : Int32)) r2 r10 q) rfl rfl (by omega) (Nat.le_of_ble_eq_true rfl) rfl (by decide) (by decide) (by decide) d_Mo_readCases_74) (fun r10 h => ?_)
              refine V_bipush (v := 44) X d_Mo_readCases_77 (by decide) ?_
              refine V_icmp_eq X 84 d_Mo_readCases_79 (by decide) h (fun c11 h => ?_) (fun c11 h => ?_)
              · skip
                refine V_iinc X 0 (r2 + (1 : Int32)) [(2, Value.int (r2 + (1 : Int32))), (3, Value.int r2), (0, Value.ref (ad 91))] d_Mo_readCases_84 rfl (by first | rfl | decide) (by decide) rfl ?_
                refine V_goto X 2 d_Mo_readCases_87 (by decide) ?_
                refine V_sub (lv' := [(0, Value.ref (ad 91)), (2, Value.int (r2 + (1 : Int32)))]) [2, 0] rfl ?_
                exact ih (r2 + (1 : Int32)) (sF (sF σ 91 21 ((gF σ 91 21) + (1 : Int32))) 91 19 (0 : Int32)) h
              · skip
                refine V_iload_n X 0 d_Mo_readCases_82 rfl ?_
                have h9 := wp_some h
                exact hQ _ _ h9 (fun h9 => absurd h9 (by decide)) _ _ d_Mo_readCases_83
          · skip
            refine V_iconst (v := 1) X d_Mo_readCases_55 (by decide) ?_
            refine V_goto X 60 d_Mo_readCases_56 (by decide) ?_
            refine V_putZ X 10 19 (by decide) rfl ji10 jk10 jn10 (by decide) (by decide) (by decide) rfl (by decide +kernel) fl_Mo_107 d_Mo_readCases_60 (by decide) (by decide) (by decide) ?_
            refine V_aload_n X 2 d_Mo_readCases_63 rfl ?_
            refine V_getI X 10 21 rfl ji10 (by decide) (by decide) (by decide) fl_Mo_101 d_Mo_readCases_64 (by decide) (by decide) (by decide) ?_
            refine V_bipush (v := 7) X d_Mo_readCases_67 (by decide) ?_
            refine V_icmp_eq X 82 d_Mo_readCases_69 (by decide) h (fun c12 h => ?_) (fun c12 h => ?_)
            · skip
              refine V_iload_n X 0 d_Mo_readCases_82 rfl ?_
              have h9 := wp_some h
              exact hQ _ _ h9 (fun h9 => absurd h9 (by decide)) _ _ d_Mo_readCases_83
            · skip
              refine V_aload_n X 2 d_Mo_readCases_72 rfl ?_
              refine V_iload_n X 0 d_Mo_readCases_73 rfl ?_
              refine V_cI X h (fun r13 q => C_V (q := 10) X [Value.int r2] mt_Mo_at ms_Mo_at ml_Mo_91 (k_Mo_at (sF (sF σ 91 21 ((gF σ 91 21) + (1 : Int32))) 91 19 (1 : Int32)) r2 r13 q) rfl rfl (by omega) (Nat.le_of_ble_eq_true rfl) rfl (by decide) (by decide) (by decide) d_Mo_readCases_74) (fun r13 h => ?_)
              refine V_bipush (v := 44) X d_Mo_readCases_77 (by decide) ?_
              refine V_icmp_eq X 84 d_Mo_readCases_79 (by decide) h (fun c14 h => ?_) (fun c14 h => ?_)
              · skip
                refine V_iinc X 0 (r2 + (1 : Int32)) [(2, Value.int (r2 + (1 : Int32))), (3, Value.int r2), (0, Value.ref (ad 91))] d_Mo_readCases_84 rfl (by first | rfl | decide) (by decide) rfl ?_
                refine V_goto X 2 d_Mo_readCases_87 (by decide) ?_
                refine V_sub (lv' := [(0, Value.ref (ad 91)), (2, Value.int (r2 + (1 : Int32)))]) [2, 0] rfl ?_
                exact ih (r2 + (1 : Int32)) (sF (sF σ 91 21 ((gF σ 91 21) + (1 : Int32))) 91 19 (1 : Int32)) h
              · skip
                refine V_iload_n X 0 d_Mo_readCases_82 rfl ?_
                have h9 := wp_some h
                exact hQ _ _ h9 (fun h9 => absurd h9 (by decide)) _ _ d_Mo_readCases_83
      · skip
        refine V_iload_n X 0 d_Mo_readCases_24 rfl ?_
        have h9 := wp_some h
        exact hQ _ _ h9 (fun h9 => absurd h9 (by decide)) _ _ d_Mo_readCases_25
set_option maxHeartbeats 4000000 in
set_option maxRecDepth 100000 in
theorem k_Mo_readCases (fu : Nat) (σ : Sg) (a0 : Int32) (r : Int32) (σ' : Sg) (h : Mo_readCases fu σ a0 = some (r, σ')) : Evc y_Mo_readCases prog_13_method_13_code 4 (some .int) 4 (fun ad => [Value.ref (ad 91), Value.int a0]) σ σ' (fun _ => some (.int r)) := by
  refine Evc_ofI (by decide) (fun ad => Nat.le_of_ble_eq_true rfl) (fun p l e R s m args below meth c D ad cI cB A Q X hQ => ?_)
  have X : Cx p R s m args meth c jR10 prog_13_method_13_code 4 4 D ad cI cB A 0 0 := X
  have h : wpO (Mo_readCases fu σ a0) (fun q => q = (r, σ')) := ⟨_, h, rfl⟩
  rw [Mo_readCases] at h
  refine V_sub (lv' := [(0, Value.ref (ad 91)), (1, Value.int a0)]) [0, 1] rfl ?_
  refine V_iload_n X 1 d_Mo_readCases_0 rfl ?_
  refine V_istore_n X [(2, Value.int a0), (0, Value.ref (ad 91)), (1, Value.int a0)] d_Mo_readCases_1 (by decide) rfl ?_
  refine V_sub (lv' := [(0, Value.ref (ad 91)), (2, Value.int a0)]) [1, 0] rfl ?_
  refine Mo_readCases_L2_ok X fu _ hQ (fun l2_15 s16 h => ?_) fu a0 σ h
  refine V_iload_n X 1 d_Mo_readCases_90 rfl ?_
  have h9 := wp_some h
  exact hQ _ _ h9 (fun h9 => absurd h9 (by decide)) _ _ d_Mo_readCases_91
