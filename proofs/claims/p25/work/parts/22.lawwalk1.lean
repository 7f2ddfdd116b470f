set_option maxHeartbeats 4000000 in
set_option maxRecDepth 100000 in
theorem La_costs_L5_ok {p : Program} {l : Launch} {e : Env} {R : Room} {s : State} {m : MethodId} {args : Array Value} {below : List Frame} {meth : Method} {c : Code} {D : va_G} {ad : Nat → Nat} {cI cB : ClassId} {A : Nat → Prop} {cells slots : Nat} {Q : State → Prop} (X : Cx p R s m args meth c R_law method_7_code 6 1 D ad cI cB A cells slots) (fu : Nat) (q0 : Nat) (hl_q0 : q0 < 93) (hc_q0 : jv_cls q0 = 100) (l1 : Int32) (l2 : Int32) (σ : Sg) (kont : (Int32 → Int32 → Option Int32)) {K : Int32 → Prop} (hQ : RP p l e R s m args below meth c 6 D ad cI cB A cells slots Q method_7_code false σ K) (hk : ∀ (l3 : Int32) (l4 : Int32), wpO (kont l3 l4) K → V p l e R s m args below meth c 6 D A cells slots Q (wl ad cI cB σ) 40 [(0, Value.ref (ad q0)), (1, Value.int l1), (2, Value.int l2), (3, Value.int l3), (4, Value.int l4)] []) : ∀ (n : Nat) (l3 : Int32) (l4 : Int32), wpO (La_costs_L5 fu q0 l1 l2 σ kont n l3 l4) K → V p l e R s m args below meth c 6 D A cells slots Q (wl ad cI cB σ) 5 [(0, Value.ref (ad q0)), (1, Value.int l1), (2, Value.int l2), (3, Value.int l3), (4, Value.int l4)] [] := by
  intro n
  induction n with
  | zero =>
    intro l3 l4 h
    exact (wp_none h).elim
  | succ n ih =>
    intro l3 l4 h
    rw [La_costs_L5] at h
    refine V_iload X 4 d_La_costs_5 rfl ?_
    refine V_aload_n X 0 d_La_costs_7 rfl ?_
    refine V_iconst (v := 1) X d_La_costs_8 (by decide) ?_
    refine V_iald X d_La_costs_9 hl_q0 hc_q0 rfl h (fun h => ?_)
    refine V_icmp_ge X 40 d_La_costs_10 (by decide) h (fun c1 h => ?_) (fun c1 h => ?_)
    · skip
      exact hk l3 l4 h
    · skip
      refine V_iload_n X 3 d_La_costs_13 rfl ?_
      refine V_aload_n X 0 d_La_costs_14 rfl ?_
      refine V_bipush (v := 13) X d_La_costs_15 (by decide) ?_
      refine V_iconst (v := 5) X d_La_costs_17 (by decide) ?_
      refine V_iload X 4 d_La_costs_18 rfl ?_
      refine V_imul X d_La_costs_20 ?_
      refine V_iadd X d_La_costs_21 ?_
      refine V_iald X d_La_costs_22 hl_q0 hc_q0 rfl h (fun h => ?_)
      refine V_iload_n X 1 d_La_costs_23 rfl ?_
      refine V_icmp_ne X 31 d_La_costs_24 (by decide) h (fun c2 h => ?_) (fun c2 h => ?_)
      · skip
        refine V_iconst (v := 0) X d_La_costs_31 (by decide) ?_
        refine V_iadd X d_La_costs_32 ?_
        refine V_istore_n X [(3, Value.int (l3 + (0 : Int32))), (0, Value.ref (ad q0)), (1, Value.int l1), (2, Value.int l2), (4, Value.int l4)] d_La_costs_33 (by decide) rfl ?_
        refine V_iinc X 4 (l4 + (1 : Int32)) [(4, Value.int (l4 + (1 : Int32))), (3, Value.int (l3 + (0 : Int32))), (0, Value.ref (ad q0)), (1, Value.int l1), (2, Value.int l2)] d_La_costs_34 rfl (by first | rfl | decide) (by decide) rfl ?_
        refine V_goto X 5 d_La_costs_37 (by decide) ?_
        refine V_sub (lv' := [(0, Value.ref (ad q0)), (1, Value.int l1), (2, Value.int l2), (3, Value.int (l3 + (0 : Int32))), (4, Value.int (l4 + (1 : Int32)))]) [2, 3, 4, 1, 0] rfl ?_
        exact ih (l3 + (0 : Int32)) (l4 + (1 : Int32)) h
      · skip
        refine V_iconst (v := 1) X d_La_costs_27 (by decide) ?_
        refine V_goto X 32 d_La_costs_28 (by decide) ?_
        refine V_iadd X d_La_costs_32 ?_
        refine V_istore_n X [(3, Value.int (l3 + (1 : Int32))), (0, Value.ref (ad q0)), (1, Value.int l1), (2, Value.int l2), (4, Value.int l4)] d_La_costs_33 (by decide) rfl ?_
        refine V_iinc X 4 (l4 + (1 : Int32)) [(4, Value.int (l4 + (1 : Int32))), (3, Value.int (l3 + (1 : Int32))), (0, Value.ref (ad q0)), (1, Value.int l1), (2, Value.int l2)] d_La_costs_34 rfl (by first | rfl | decide) (by decide) rfl ?_
        refine V_goto X 5 d_La_costs_37 (by decide) ?_
        refine V_sub (lv' := [(0, Value.ref (ad q0)), (1, Value.int l1), (2, Value.int l2), (3, Value.int (l3 + (1 : Int32))), (4, Value.int (l4 + (1 : Int32)))]) [2, 3, 4, 1, 0] rfl ?_
        exact ih (l3 + (1 : Int32)) (l4 + (1 : Int32)) h
set_option maxHeartbeats 4000000 in
set_option maxRecDepth 100000 in
theorem k_La_costs (fu : Nat) (σ : Sg) (q0 : Nat) (hl_q0 : q0 < 93) (hc_q0 : jv_cls q0 = 100) (a1 : Int32) (a2 : Int32) (r : Int32) (h : La_costs fu σ q0 a1 a2 = some r) : Evc y_La_costs method_7_code 6 (some .int) 1 (fun ad => [Value.ref (ad q0), Value.int a1, Value.int a2]) σ σ (fun _ => some (.int r)) := by
  refine Evc_ofI (by decide) (fun ad => Nat.le_of_ble_eq_true rfl) (fun p l e R s m args below meth c D ad cI cB A Q X hQ => ?_)
  have X : Cx p R s m args meth c R_law method_7_code 6 1 D ad cI cB A 0 0 := X
  have hQ := hQ.pure
  have h : wpO (La_costs fu σ q0 a1 a2) (fun q => q = r) := ⟨_, h, rfl⟩
  rw [La_costs] at h
  refine V_sub (lv' := [(0, Value.ref (ad q0)), (1, Value.int a1), (2, Value.int a2)]) [0, 1, 2] rfl ?_
  refine V_iconst (v := 0) X d_La_costs_0 (by decide) ?_
  refine V_istore_n X [(3, Value.int (0 : Int32)), (0, Value.ref (ad q0)), (1, Value.int a1), (2, Value.int a2)] d_La_costs_1 (by decide) rfl ?_
  refine V_iconst (v := 0) X d_La_costs_2 (by decide) ?_
  refine V_istore X [(4, Value.int (0 : Int32)), (3, Value.int (0 : Int32)), (0, Value.ref (ad q0)), (1, Value.int a1), (2, Value.int a2)] d_La_costs_3 (by decide) rfl ?_
  refine V_sub (lv' := [(0, Value.ref (ad q0)), (1, Value.int a1), (2, Value.int a2), (3, Value.int (0 : Int32)), (4, Value.int (0 : Int32))]) [2, 3, 4, 1, 0] rfl ?_
  refine La_costs_L5_ok X fu q0 hl_q0 hc_q0 a1 a2 σ _ hQ (fun l3_3 l4_4 h => ?_) fu (0 : Int32) (0 : Int32) h
  refine V_aload_n X 0 d_La_costs_40 rfl ?_
  refine V_bipush (v := 10) X d_La_costs_41 (by decide) ?_
  refine V_iconst (v := 5) X d_La_costs_43 (by decide) ?_
  refine V_iload_n X 1 d_La_costs_44 rfl ?_
  refine V_imul X d_La_costs_45 ?_
  refine V_iadd X d_La_costs_46 ?_
  refine V_iald X d_La_costs_47 hl_q0 hc_q0 rfl h (fun h => ?_)
  obtain ⟨x5, hx5, h⟩ := wp_N h
  rw [hx5]
  refine V_istore X [(4, Value.int x5), (0, Value.ref (ad q0)), (1, Value.int a1), (2, Value.int a2), (3, Value.int l3_3)] d_La_costs_48 (by decide) rfl ?_
  refine V_iload_n X 3 d_La_costs_50 rfl ?_
  refine V_iload_n X 4 d_La_costs_51 rfl ?_
  refine V_isub X d_La_costs_52 ?_
  refine V_iconst (v := 1) X d_La_costs_53 (by decide) ?_
  refine V_joinV (T1 := fun v6 => V p l e R s m args below meth c 6 D A 0 0 Q (wl ad cI cB σ) 64 [(4, Value.int x5), (0, Value.ref (ad q0)), (1, Value.int a1), (2, Value.int a2), (3, Value.int l3_3)] [Value.int v6]) h (fun v6 h => ?_) (fun hJ6 h => ?_)
  · skip
    refine V_istore X [(5, Value.int v6), (4, Value.int x5), (0, Value.ref (ad q0)), (1, Value.int a1), (2, Value.int a2), (3, Value.int l3_3)] d_La_costs_64 (by decide) rfl ?_
    refine V_iload X 1 d_La_costs_66 rfl ?_
    refine V_iconst (v := 1) X d_La_costs_68 (by decide) ?_
    refine V_icmp_ne X 77 d_La_costs_69 (by decide) h (fun c7 h => ?_) (fun c7 h => ?_)
    · skip
      refine V_iload X 1 d_La_costs_77 rfl ?_
      refine V_iconst (v := 2) X d_La_costs_79 (by decide) ?_
      refine V_icmp_ne X 89 d_La_costs_80 (by decide) h (fun c8 h => ?_) (fun c8 h => ?_)
      · skip
        refine V_iload X 1 d_La_costs_89 rfl ?_
        refine V_iconst (v := 4) X d_La_costs_91 (by decide) ?_
        refine V_icmp_ne X 107 d_La_costs_92 (by decide) h (fun c9 h => ?_) (fun c9 h => ?_)
        · skip
          refine V_iload_n X 4 d_La_costs_107 rfl ?_
          have h9 := wp_some h
          exact hQ _ h9 (fun h9 => absurd h9 (by decide)) _ _ d_La_costs_108
        · skip
          refine V_iload X 0 d_La_costs_95 rfl ?_
          refine V_iconst (v := 2) X d_La_costs_97 (by decide) ?_
          refine V_idiv X d_La_costs_98 (by decide) ?_
          refine V_iload X 0 d_La_costs_99 rfl ?_
          refine V_iconst (v := 2) X d_La_costs_101 (by decide) ?_
          refine V_irem X d_La_costs_102 (by decide) ?_
          refine V_iadd X d_La_costs_103 ?_
          refine V_goto X 108 d_La_costs_104 (by decide) ?_
          have h9 := wp_some h
          exact hQ _ h9 (fun h9 => absurd h9 (by decide)) _ _ d_La_costs_108
      · skip
        refine V_iload_n X 4 d_La_costs_83 rfl ?_
        refine V_iload_n X 4 d_La_costs_84 rfl ?_
        refine V_iadd X d_La_costs_85 ?_
        refine V_goto X 108 d_La_costs_86 (by decide) ?_
        have h9 := wp_some h
        exact hQ _ h9 (fun h9 => absurd h9 (by decide)) _ _ d_La_costs_108
    · skip
      refine V_iload X 0 d_La_costs_72 rfl ?_
      refine V_goto X 108 d_La_costs_74 (by decide) ?_
      have h9 := wp_some h
      exact hQ _ h9 (fun h9 => absurd h9 (by decide)) _ _ d_La_costs_108
  · skip
    refine V_icmp_ge X 61 d_La_costs_54 (by decide) h (fun c10 h => ?_) (fun c10 h => ?_)
    · skip
      refine V_iload_n X 3 d_La_costs_61 rfl ?_
      refine V_iload_n X 4 d_La_costs_62 rfl ?_
      refine V_isub X d_La_costs_63 ?_
      obtain ⟨q9, hq9, h⟩ := h
      cases hq9
      exact hJ6 _ h
    · skip
      refine V_iconst (v := 1) X d_La_costs_57 (by decide) ?_
      refine V_goto X 64 d_La_costs_58 (by decide) ?_
      obtain ⟨q9, hq9, h⟩ := h
      cases hq9
      exact hJ6 _ h
set_option maxHeartbeats 4000000 in
set_option maxRecDepth 100000 in
theorem La_righted_L4_ok {p : Program} {l : Launch} {e : Env} {R : Room} {s : State} {m : MethodId} {args : Array Value} {below : List Frame} {meth : Method} {c : Code} {D : va_G} {ad : Nat → Nat} {cI cB : ClassId} {A : Nat → Prop} {cells slots : Nat} {Q : State → Prop} (X : Cx p R s m args meth c R_law method_8_code 3 1 D ad cI cB A cells slots) (fu : Nat) (q0 : Nat) (hl_q0 : q0 < 93) (hc_q0 : jv_cls q0 = 100) (σ : Sg) (kont : (Int32 → Int32 → Option Int32)) {K : Int32 → Prop} (hQ : RP p l e R s m args below meth c 3 D ad cI cB A cells slots Q method_8_code false σ K) (hk : ∀ (l1 : Int32) (l2 : Int32), wpO (kont l1 l2) K → V p l e R s m args below meth c 3 D A cells slots Q (wl ad cI cB σ) 30 [(0, Value.ref (ad q0)), (1, Value.int l1), (2, Value.int l2)] []) : ∀ (n : Nat) (l1 : Int32) (l2 : Int32), wpO (La_righted_L4 fu q0 σ kont n l1 l2) K → V p l e R s m args below meth c 3 D A cells slots Q (wl ad cI cB σ) 4 [(0, Value.ref (ad q0)), (1, Value.int l1), (2, Value.int l2)] [] := by
  intro n
  induction n with
  | zero =>
    intro l1 l2 h
    exact (wp_none h).elim
  | succ n ih =>
    intro l1 l2 h
    rw [La_righted_L4] at h
    refine V_iload_n X 2 d_La_righted_4 rfl ?_
    refine V_aload_n X 0 d_La_righted_5 rfl ?_
    refine V_iconst (v := 1) X d_La_righted_6 (by decide) ?_
    refine V_iald X d_La_righted_7 hl_q0 hc_q0 rfl h (fun h => ?_)
    refine V_icmp_ge X 30 d_La_righted_8 (by decide) h (fun c1 h => ?_) (fun c1 h => ?_)
    · skip
      exact hk l1 l2 h
    · skip
      refine V_iload_n X 1 d_La_righted_11 rfl ?_
      refine V_aload_n X 0 d_La_righted_12 rfl ?_
      refine V_bipush (v := 14) X d_La_righted_13 (by decide) ?_
      refine V_iconst (v := 5) X d_La_righted_15 (by decide) ?_
      refine V_iload_n X 2 d_La_righted_16 rfl ?_
      refine V_imul X d_La_righted_17 ?_
      refine V_iadd X d_La_righted_18 ?_
      refine V_iald X d_La_righted_19 hl_q0 hc_q0 rfl h (fun h => ?_)
      refine V_iload_n X 2 d_La_righted_20 rfl ?_
      refine V_ishl X d_La_righted_21 ?_
      refine V_ior X d_La_righted_22 ?_
      obtain ⟨x2, hx2, h⟩ := wp_N h
      rw [hx2]
      refine V_istore_n X [(1, Value.int x2), (0, Value.ref (ad q0)), (2, Value.int l2)] d_La_righted_23 (by decide) rfl ?_
      refine V_iinc X 2 (l2 + (1 : Int32)) [(2, Value.int (l2 + (1 : Int32))), (1, Value.int x2), (0, Value.ref (ad q0))] d_La_righted_24 rfl (by first | rfl | decide) (by decide) rfl ?_
      refine V_goto X 4 d_La_righted_27 (by decide) ?_
      refine V_sub (lv' := [(0, Value.ref (ad q0)), (1, Value.int x2), (2, Value.int (l2 + (1 : Int32)))]) [2, 1, 0] rfl ?_
      exact ih x2 (l2 + (1 : Int32)) h
set_option maxHeartbeats 4000000 in
set_option maxRecDepth 100000 in
theorem k_La_righted (fu : Nat) (σ : Sg) (q0 : Nat) (hl_q0 : q0 < 93) (hc_q0 : jv_cls q0 = 100) (r : Int32) (h : La_righted fu σ q0 = some r) : Evc y_La_righted method_8_code 3 (some .int) 1 (fun ad => [Value.ref (ad q0)]) σ σ (fun _ => some (.int r)) := by
  refine Evc_ofI (by decide) (fun ad => Nat.le_of_ble_eq_true rfl) (fun p l e R s m args below meth c D ad cI cB A Q X hQ => ?_)
  have X : Cx p R s m args meth c R_law method_8_code 3 1 D ad cI cB A 0 0 := X
  have hQ := hQ.pure
  have h : wpO (La_righted fu σ q0) (fun q => q = r) := ⟨_, h, rfl⟩
  rw [La_righted] at h
  refine V_sub (lv' := [(0, Value.ref (ad q0))]) [0] rfl ?_
  refine V_iconst (v := 0) X d_La_righted_0 (by decide) ?_
  refine V_istore_n X [(1, Value.int (0 : Int32)), (0, Value.ref (ad q0))] d_La_righted_1 (by decide) rfl ?_
  refine V_iconst (v := 0) X d_La_righted_2 (by decide) ?_
  refine V_istore_n X [(2, Value.int (0 : Int32)), (1, Value.int (0 : Int32)), (0, Value.ref (ad q0))] d_La_righted_3 (by decide) rfl ?_
  refine V_sub (lv' := [(0, Value.ref (ad q0)), (1, Value.int (0 : Int32)), (2, Value.int (0 : Int32))]) [2, 1, 0] rfl ?_
  refine La_righted_L4_ok X fu q0 hl_q0 hc_q0 σ _ hQ (fun l1_3 l2_4 h => ?_) fu (0 : Int32) (0 : Int32) h
  refine V_iload_n X 1 d_La_righted_30 rfl ?_
  have h9 := wp_some h
  exact hQ _ h9 (fun h9 => absurd h9 (by decide)) _ _ d_La_righted_31
set_option maxHeartbeats 4000000 in
set_option maxRecDepth 100000 in
theorem k_La_stands (σ : Sg) (q0 : Nat) (hl_q0 : q0 < 93) (hc_q0 : jv_cls q0 = 100) (a1 : Int32) (a2 : Int32) (r : Int32) (h : La_stands σ q0 a1 a2 = some r) : Evc y_La_stands method_10_code 4 (some .boolean) 1 (fun ad => [Value.ref (ad q0), Value.int a1, Value.int a2]) σ σ (fun _ => some (.int r)) := by
  refine Evc_ofZ (by decide) (fun ad => Nat.le_of_ble_eq_true rfl) (fun p l e R s m args below meth c D ad cI cB A Q X hQ => ?_)
  have X : Cx p R s m args meth c R_law method_10_code 4 1 D ad cI cB A 0 0 := X
  have hQ := hQ.pure
  have h : wpO (La_stands σ q0 a1 a2) (fun q => q = r) := ⟨_, h, rfl⟩
  rw [La_stands] at h
  refine V_sub (lv' := [(0, Value.ref (ad q0)), (1, Value.int a1), (2, Value.int a2)]) [0, 1, 2] rfl ?_
  refine V_aload_n X 0 d_La_stands_0 rfl ?_
  refine V_bipush (v := 13) X d_La_stands_1 (by decide) ?_
  refine V_iconst (v := 5) X d_La_stands_3 (by decide) ?_
  refine V_iload_n X 1 d_La_stands_4 rfl ?_
  refine V_imul X d_La_stands_5 ?_
  refine V_iadd X d_La_stands_6 ?_
  refine V_iald X d_La_stands_7 hl_q0 hc_q0 rfl h (fun h => ?_)
  obtain ⟨x1, hx1, h⟩ := wp_N h
  rw [hx1]
  refine V_istore_n X [(3, Value.int x1), (0, Value.ref (ad q0)), (1, Value.int a1), (2, Value.int a2)] d_La_stands_8 (by decide) rfl ?_
  refine V_aload_n X 1 d_La_stands_9 rfl ?_
  refine V_bipush (v := 10) X d_La_stands_10 (by decide) ?_
  refine V_iconst (v := 5) X d_La_stands_12 (by decide) ?_
  refine V_iload_n X 2 d_La_stands_13 rfl ?_
  refine V_imul X d_La_stands_14 ?_
  refine V_iadd X d_La_stands_15 ?_
  refine V_iald X d_La_stands_16 hl_q0 hc_q0 rfl h (fun h => ?_)
  refine V_iconst (v := 3) X d_La_stands_17 (by decide) ?_
  refine V_icmp_ne X 34 d_La_stands_18 (by decide) h (fun c2 h => ?_) (fun c2 h => ?_)
  · skip
    refine V_iconst (v := 1) X d_La_stands_34 (by decide) ?_
    refine V_goto X 39 d_La_stands_35 (by decide) ?_
    have h9 := wp_some h
    exact hQ _ h9 (fun _ => by decide) _ _ d_La_stands_39
  · skip
    refine V_iload_n X 0 d_La_stands_21 rfl ?_
    refine V_if_lt X 34 d_La_stands_22 (by decide) h (fun c3 h => ?_) (fun c3 h => ?_)
    · skip
      refine V_iconst (v := 1) X d_La_stands_34 (by decide) ?_
      refine V_goto X 39 d_La_stands_35 (by decide) ?_
      have h9 := wp_some h
      exact hQ _ h9 (fun _ => by decide) _ _ d_La_stands_39
    · skip
      refine V_iload_n X 3 d_La_stands_25 rfl ?_
      refine V_iload_n X 0 d_La_stands_26 rfl ?_
      refine V_ishr X d_La_stands_27 ?_
      refine V_iconst (v := 1) X d_La_stands_28 (by decide) ?_
      refine V_iand X d_La_stands_29 ?_
      refine V_iconst (v := 1) X d_La_stands_30 (by decide) ?_
      refine V_icmp_ne X 38 d_La_stands_31 (by decide) h (fun c4 h => ?_) (fun c4 h => ?_)
      · skip
        refine V_iconst (v := 0) X d_La_stands_38 (by decide) ?_
        have h9 := wp_some h
        exact hQ _ h9 (fun _ => by decide) _ _ d_La_stands_39
      · skip
        refine V_iconst (v := 1) X d_La_stands_34 (by decide) ?_
        refine V_goto X 39 d_La_stands_35 (by decide) ?_
        have h9 := wp_some h
        exact hQ _ h9 (fun _ => by decide) _ _ d_La_stands_39
set_option maxHeartbeats 4000000 in
set_option maxRecDepth 100000 in
theorem k_La_may (fu : Nat) (σ : Sg) (q0 : Nat) (hl_q0 : q0 < 93) (hc_q0 : jv_cls q0 = 100) (a1 : Int32) (a2 : Int32) (r : Int32) (h : La_may fu σ q0 a1 a2 = some r) : Evc y_La_may method_11_code 3 (some .boolean) 2 (fun ad => [Value.ref (ad q0), Value.int a1, Value.int a2]) σ σ (fun _ => some (.int r)) := by
  refine Evc_ofZ (by decide) (fun ad => Nat.le_of_ble_eq_true rfl) (fun p l e R s m args below meth c D ad cI cB A Q X hQ => ?_)
  have X : Cx p R s m args meth c R_law method_11_code 3 2 D ad cI cB A 0 0 := X
  have hQ := hQ.pure
  have h : wpO (La_may fu σ q0 a1 a2) (fun q => q = r) := ⟨_, h, rfl⟩
  rw [La_may] at h
  refine V_sub (lv' := [(0, Value.ref (ad q0)), (1, Value.int a1), (2, Value.int a2)]) [0, 1, 2] rfl ?_
  refine V_aload_n X 0 d_La_may_0 rfl ?_
  refine V_bipush (v := 14) X d_La_may_1 (by decide) ?_
  refine V_iconst (v := 5) X d_La_may_3 (by decide) ?_
  refine V_iload_n X 1 d_La_may_4 rfl ?_
  refine V_imul X d_La_may_5 ?_
  refine V_iadd X d_La_may_6 ?_
  refine V_iald X d_La_may_7 hl_q0 hc_q0 rfl h (fun h => ?_)
  refine V_if_ne X 48 d_La_may_8 (by decide) h (fun c1 h => ?_) (fun c1 h => ?_)
  · skip
    refine V_iconst (v := 0) X d_La_may_48 (by decide) ?_
    have h9 := wp_some h
    exact hQ _ h9 (fun _ => by decide) _ _ d_La_may_49
  · skip
    refine V_aload_n X 0 d_La_may_11 rfl ?_
    refine V_iload_n X 1 d_La_may_12 rfl ?_
    refine V_aload_n X 0 d_La_may_13 rfl ?_
    refine V_bipush (v := 11) X d_La_may_14 (by decide) ?_
    refine V_iconst (v := 5) X d_La_may_16 (by decide) ?_
    refine V_iload_n X 1 d_La_may_17 rfl ?_
    refine V_imul X d_La_may_18 ?_
    refine V_iadd X d_La_may_19 ?_
    refine V_iald X d_La_may_20 hl_q0 hc_q0 rfl h (fun h => ?_)
    refine V_cI X h (fun r2 q => C_S X [Value.ref (ad q0), Value.int a1, Value.int (gA σ q0 (ix ((11 : Int32) + ((5 : Int32) * a1))))] mt_La_costs ms_La_costs ml_La_31 (k_La_costs fu σ q0 hl_q0 hc_q0 a1 (gA σ q0 (ix ((11 : Int32) + ((5 : Int32) * a1)))) r2 q) rfl rfl (by omega) (Nat.le_of_ble_eq_true rfl) d_La_may_21) (fun r2 h => ?_)
    refine V_aload_n X 0 d_La_may_24 rfl ?_
    refine V_iconst (v := 4) X d_La_may_25 (by decide) ?_
    refine V_iload_n X 2 d_La_may_26 rfl ?_
    refine V_iadd X d_La_may_27 ?_
    refine V_iald X d_La_may_28 hl_q0 hc_q0 rfl h (fun h => ?_)
    refine V_icmp_gt X 48 d_La_may_29 (by decide) h (fun c3 h => ?_) (fun c3 h => ?_)
    · skip
      refine V_iconst (v := 0) X d_La_may_48 (by decide) ?_
      have h9 := wp_some h
      exact hQ _ h9 (fun _ => by decide) _ _ d_La_may_49
    · skip
      refine V_aload_n X 0 d_La_may_32 rfl ?_
      refine V_iload_n X 1 d_La_may_33 rfl ?_
      refine V_aload_n X 0 d_La_may_34 rfl ?_
      refine V_cI X h (fun r4 q => C_S X [Value.ref (ad q0)] mt_La_righted ms_La_righted ml_La_35 (k_La_righted fu σ q0 hl_q0 hc_q0 r4 q) rfl rfl (by omega) (Nat.le_of_ble_eq_true rfl) d_La_may_35) (fun r4 h => ?_)
      refine V_cI X h (fun r5 q => C_S X [Value.ref (ad q0), Value.int a1, Value.int r4] mt_La_stands ms_La_stands ml_La_39 (k_La_stands σ q0 hl_q0 hc_q0 a1 r4 r5 q) rfl rfl (by omega) (Nat.le_of_ble_eq_true rfl) d_La_may_38) (fun r5 h => ?_)
      refine V_if_eq X 48 d_La_may_41 (by decide) h (fun c6 h => ?_) (fun c6 h => ?_)
      · skip
        refine V_iconst (v := 0) X d_La_may_48 (by decide) ?_
        have h9 := wp_some h
        exact hQ _ h9 (fun _ => by decide) _ _ d_La_may_49
      · skip
        refine V_iconst (v := 1) X d_La_may_44 (by decide) ?_
        refine V_goto X 49 d_La_may_45 (by decide) ?_
        have h9 := wp_some h
        exact hQ _ h9 (fun _ => by decide) _ _ d_La_may_49
set_option maxHeartbeats 4000000 in
set_option maxRecDepth 100000 in
theorem La_hangs_L9_ok {p : Program} {l : Launch} {e : Env} {R : Room} {s : State} {m : MethodId} {args : Array Value} {below : List Frame} {meth : Method} {c : Code} {D : va_G} {ad : Nat → Nat} {cI cB : ClassId} {A : Nat → Prop} {cells slots : Nat} {Q : State → Prop} (X : Cx p R s m args meth c R_law method_5_code 4 1 D ad cI cB A cells slots) (fu : Nat) (q0 : Nat) (hl_q0 : q0 < 93) (hc_q0 : jv_cls q0 = 100) (l2 : Int32) (σ : Sg) (kont : (Int32 → Option Int32)) {K : Int32 → Prop} (hQ : RP p l e R s m args below meth c 4 D ad cI cB A cells slots Q method_5_code true σ K) (hk : ∀ (l3 : Int32), wpO (kont l3) K → V p l e R s m args below meth c 4 D A cells slots Q (wl ad cI cB σ) 26 [(0, Value.ref (ad q0)), (2, Value.int l2), (3, Value.int l3)] []) : ∀ (n : Nat) (l3 : Int32), wpO (La_hangs_L9 fu q0 l2 σ kont n l3) K → V p l e R s m args below meth c 4 D A cells slots Q (wl ad cI cB σ) 9 [(0, Value.ref (ad q0)), (2, Value.int l2), (3, Value.int l3)] [] := by
  intro n
  induction n with
  | zero =>
    intro l3 h
    exact (wp_none h).elim
  | succ n ih =>
    intro l3 h
    rw [La_hangs_L9] at h
    refine V_iload_n X 2 d_La_hangs_9 rfl ?_
    refine V_iload_n X 1 d_La_hangs_10 rfl ?_
    refine V_icmp_le X 26 d_La_hangs_11 (by decide) h (fun c2 h => ?_) (fun c2 h => ?_)
    · skip
      exact hk l3 h
    · skip
      refine V_aload_n X 0 d_La_hangs_14 rfl ?_
      refine V_bipush (v := 13) X d_La_hangs_15 (by decide) ?_
      refine V_iconst (v := 5) X d_La_hangs_17 (by decide) ?_
      refine V_iload_n X 2 d_La_hangs_18 rfl ?_
      refine V_imul X d_La_hangs_19 ?_
      refine V_iadd X d_La_hangs_20 ?_
      refine V_iald X d_La_hangs_21 hl_q0 hc_q0 rfl h (fun h => ?_)
      obtain ⟨x3, hx3, h⟩ := wp_N h
      rw [hx3]
      refine V_istore_n X [(3, Value.int x3), (0, Value.ref (ad q0)), (2, Value.int l2)] d_La_hangs_22 (by decide) rfl ?_
      refine V_goto X 9 d_La_hangs_23 (by decide) ?_
      refine V_sub (lv' := [(0, Value.ref (ad q0)), (2, Value.int l2), (3, Value.int x3)]) [1, 2, 0] rfl ?_
      exact ih x3 h
set_option maxHeartbeats 4000000 in
set_option maxRecDepth 100000 in
theorem k_La_hangs (fu : Nat) (σ : Sg) (q0 : Nat) (hl_q0 : q0 < 93) (hc_q0 : jv_cls q0 = 100) (a1 : Int32) (a2 : Int32) (r : Int32) (h : La_hangs fu σ q0 a1 a2 = some r) : Evc y_La_hangs method_5_code 4 (some .boolean) 1 (fun ad => [Value.ref (ad q0), Value.int a1, Value.int a2]) σ σ (fun _ => some (.int r)) := by
  refine Evc_ofZ (by decide) (fun ad => Nat.le_of_ble_eq_true rfl) (fun p l e R s m args below meth c D ad cI cB A Q X hQ => ?_)
  have X : Cx p R s m args meth c R_law method_5_code 4 1 D ad cI cB A 0 0 := X
  have hQ := hQ.pure
  have h : wpO (La_hangs fu σ q0 a1 a2) (fun q => q = r) := ⟨_, h, rfl⟩
  rw [La_hangs] at h
  refine V_sub (lv' := [(0, Value.ref (ad q0)), (1, Value.int a1), (2, Value.int a2)]) [0, 1, 2] rfl ?_
  refine V_aload_n X 0 d_La_hangs_0 rfl ?_
  refine V_bipush (v := 13) X d_La_hangs_1 (by decide) ?_
  refine V_iconst (v := 5) X d_La_hangs_3 (by decide) ?_
  refine V_iload_n X 1 d_La_hangs_4 rfl ?_
  refine V_imul X d_La_hangs_5 ?_
  refine V_iadd X d_La_hangs_6 ?_
  refine V_iald X d_La_hangs_7 hl_q0 hc_q0 rfl h (fun h => ?_)
  obtain ⟨x1, hx1, h⟩ := wp_N h
  rw [hx1]
  refine V_istore_n X [(3, Value.int x1), (0, Value.ref (ad q0)), (1, Value.int a1), (2, Value.int a2)] d_La_hangs_8 (by decide) rfl ?_
  refine V_sub (lv' := [(0, Value.ref (ad q0)), (2, Value.int a2), (3, Value.int x1)]) [1, 3, 0] rfl ?_
  refine La_hangs_L9_ok X fu q0 hl_q0 hc_q0 a2 σ _ hQ (fun l3_4 h => ?_) fu x1 h
  refine V_iload_n X 2 d_La_hangs_26 rfl ?_
  refine V_iload_n X 1 d_La_hangs_27 rfl ?_
  refine V_icmp_ne X 35 d_La_hangs_28 (by decide) h (fun c5 h => ?_) (fun c5 h => ?_)
  · skip
    refine V_iconst (v := 0) X d_La_hangs_35 (by decide) ?_
    have h9 := wp_some h
    exact hQ _ h9 (fun _ => by decide) _ _ d_La_hangs_36
  · skip
    refine V_iconst (v := 1) X d_La_hangs_31 (by decide) ?_
    refine V_goto X 36 d_La_hangs_32 (by decide) ?_
    have h9 := wp_some h
    exact hQ _ h9 (fun _ => by decide) _ _ d_La_hangs_36
set_option maxHeartbeats 4000000 in
set_option maxRecDepth 100000 in
theorem La_under_L6_ok {p : Program} {l : Launch} {e : Env} {R : Room} {s : State} {m : MethodId} {args : Array Value} {below : List Frame} {meth : Method} {c : Code} {D : va_G} {ad : Nat → Nat} {cI cB : ClassId} {A : Nat → Prop} {cells slots : Nat} {Q : State → Prop} (X : Cx p R s m args meth c R_law method_6_code 4 2 D ad cI cB A cells slots) (fu : Nat) (q0 : Nat) (hl_q0 : q0 < 93) (hc_q0 : jv_cls q0 = 100) (l1 : Int32) (σ : Sg) (kont : (Int32 → Int32 → Option Int32)) {K : Int32 → Prop} (hQ : RP p l e R s m args below meth c 4 D ad cI cB A cells slots Q method_6_code false σ K) (hk : ∀ (l2 : Int32) (l3 : Int32), wpO (kont l2 l3) K → V p l e R s m args below meth c 4 D A cells slots Q (wl ad cI cB σ) 38 [(0, Value.ref (ad q0)), (1, Value.int l1), (2, Value.int l2), (3, Value.int l3)] []) : ∀ (n : Nat) (l2 : Int32) (l3 : Int32), wpO (La_under_L6 fu q0 l1 σ kont n l2 l3) K → V p l e R s m args below meth c 4 D A cells slots Q (wl ad cI cB σ) 6 [(0, Value.ref (ad q0)), (1, Value.int l1), (2, Value.int l2), (3, Value.int l3)] [] := by
  intro n
  induction n with
  | zero =>
    intro l2 l3 h
    exact (wp_none h).elim
  | succ n ih =>
    intro l2 l3 h
    rw [La_under_L6] at h
    refine V_iload_n X 3 d_La_under_6 rfl ?_
    refine V_aload_n X 0 d_La_under_7 rfl ?_
    refine V_iconst (v := 1) X d_La_under_8 (by decide) ?_
    refine V_iald X d_La_under_9 hl_q0 hc_q0 rfl h (fun h => ?_)
    refine V_icmp_ge X 38 d_La_under_10 (by decide) h (fun c1 h => ?_) (fun c1 h => ?_)
    · skip
      exact hk l2 l3 h
    · skip
      refine V_iload_n X 2 d_La_under_13 rfl ?_
      refine V_aload_n X 0 d_La_under_14 rfl ?_
      refine V_iload_n X 3 d_La_under_15 rfl ?_
      refine V_iload_n X 1 d_La_under_16 rfl ?_
      refine V_cI X h (fun r2 q => C_S X [Value.ref (ad q0), Value.int l3, Value.int l1] mt_La_hangs ms_La_hangs ml_La_27 (k_La_hangs fu σ q0 hl_q0 hc_q0 l3 l1 r2 q) rfl rfl (by omega) (Nat.le_of_ble_eq_true rfl) d_La_under_17) (fun r2 h => ?_)
      refine V_if_eq X 29 d_La_under_20 (by decide) h (fun c3 h => ?_) (fun c3 h => ?_)
      · skip
        refine V_iconst (v := 0) X d_La_under_29 (by decide) ?_
        refine V_ior X d_La_under_30 ?_
        refine V_istore_n X [(2, Value.int (l2 ||| (0 : Int32))), (0, Value.ref (ad q0)), (1, Value.int l1), (3, Value.int l3)] d_La_under_31 (by decide) rfl ?_
        refine V_iinc X 3 (l3 + (1 : Int32)) [(3, Value.int (l3 + (1 : Int32))), (2, Value.int (l2 ||| (0 : Int32))), (0, Value.ref (ad q0)), (1, Value.int l1)] d_La_under_32 rfl (by first | rfl | decide) (by decide) rfl ?_
        refine V_goto X 6 d_La_under_35 (by decide) ?_
        refine V_sub (lv' := [(0, Value.ref (ad q0)), (1, Value.int l1), (2, Value.int (l2 ||| (0 : Int32))), (3, Value.int (l3 + (1 : Int32)))]) [2, 3, 1, 0] rfl ?_
        exact ih (l2 ||| (0 : Int32)) (l3 + (1 : Int32)) h
      · skip
        refine V_iconst (v := 1) X d_La_under_23 (by decide) ?_
        refine V_iload_n X 3 d_La_under_24 rfl ?_
        refine V_ishl X d_La_under_25 ?_
        refine V_goto X 30 d_La_under_26 (by decide) ?_
        refine V_ior X d_La_under_30 ?_
        obtain ⟨x4, hx4, h⟩ := wp_N h
        rw [hx4]
        refine V_istore_n X [(2, Value.int x4), (0, Value.ref (ad q0)), (1, Value.int l1), (3, Value.int l3)] d_La_under_31 (by decide) rfl ?_
        refine V_iinc X 3 (l3 + (1 : Int32)) [(3, Value.int (l3 + (1 : Int32))), (2, Value.int x4), (0, Value.ref (ad q0)), (1, Value.int l1)] d_La_under_32 rfl (by first | rfl | decide) (by decide) rfl ?_
        refine V_goto X 6 d_La_under_35 (by decide) ?_
        refine V_sub (lv' := [(0, Value.ref (ad q0)), (1, Value.int l1), (2, Value.int x4), (3, Value.int (l3 + (1 : Int32)))]) [2, 3, 1, 0] rfl ?_
        exact ih x4 (l3 + (1 : Int32)) h
set_option maxHeartbeats 4000000 in
set_option maxRecDepth 100000 in
theorem k_La_under (fu : Nat) (σ : Sg) (q0 : Nat) (hl_q0 : q0 < 93) (hc_q0 : jv_cls q0 = 100) (a1 : Int32) (r : Int32) (h : La_under fu σ q0 a1 = some r) : Evc y_La_under method_6_code 4 (some .int) 2 (fun ad => [Value.ref (ad q0), Value.int a1]) σ σ (fun _ => some (.int r)) := by
  refine Evc_ofI (by decide) (fun ad => Nat.le_of_ble_eq_true rfl) (fun p l e R s m args below meth c D ad cI cB A Q X hQ => ?_)
  have X : Cx p R s m args meth c R_law method_6_code 4 2 D ad cI cB A 0 0 := X
  have hQ := hQ.pure
  have h : wpO (La_under fu σ q0 a1) (fun q => q = r) := ⟨_, h, rfl⟩
  rw [La_under] at h
  refine V_sub (lv' := [(0, Value.ref (ad q0)), (1, Value.int a1)]) [0, 1] rfl ?_
  refine V_iconst (v := 0) X d_La_under_0 (by decide) ?_
  refine V_istore_n X [(2, Value.int (0 : Int32)), (0, Value.ref (ad q0)), (1, Value.int a1)] d_La_under_1 (by decide) rfl ?_
  refine V_iload_n X 2 d_La_under_2 rfl ?_
  refine V_iconst (v := 1) X d_La_under_3 (by decide) ?_
  refine V_iadd X d_La_under_4 ?_
  refine V_istore_n X [(3, Value.int (a1 + (1 : Int32))), (2, Value.int (0 : Int32)), (0, Value.ref (ad q0)), (1, Value.int a1)] d_La_under_5 (by decide) rfl ?_
  refine V_sub (lv' := [(0, Value.ref (ad q0)), (1, Value.int a1), (2, Value.int (0 : Int32)), (3, Value.int (a1 + (1 : Int32)))]) [2, 3, 1, 0] rfl ?_
  refine La_under_L6_ok X fu q0 hl_q0 hc_q0 a1 σ _ hQ (fun l2_5 l3_6 h => ?_) fu (0 : Int32) (a1 + (1 : Int32)) h
  refine V_iload_n X 2 d_La_under_38 rfl ?_
  have h9 := wp_some h
  exact hQ _ h9 (fun h9 => absurd h9 (by decide)) _ _ d_La_under_39
set_option maxHeartbeats 4000000 in
set_option maxRecDepth 100000 in
theorem La_ones_L4_ok {p : Program} {l : Launch} {e : Env} {R : Room} {s : State} {m : MethodId} {args : Array Value} {below : List Frame} {meth : Method} {c : Code} {D : va_G} {ad : Nat → Nat} {cI cB : ClassId} {A : Nat → Prop} {cells slots : Nat} {Q : State → Prop} (X : Cx p R s m args meth c R_law method_12_code 3 1 D ad cI cB A cells slots) (fu : Nat) (l0 : Int32) (σ : Sg) (kont : (Int32 → Int32 → Option Int32)) {K : Int32 → Prop} (hQ : RP p l e R s m args below meth c 3 D ad cI cB A cells slots Q method_12_code false σ K) (hk : ∀ (l1 : Int32) (l2 : Int32), wpO (kont l1 l2) K → V p l e R s m args below meth c 3 D A cells slots Q (wl ad cI cB σ) 24 [(0, Value.int l0), (1, Value.int l1), (2, Value.int l2)] []) : ∀ (n : Nat) (l1 : Int32) (l2 : Int32), wpO (La_ones_L4 fu l0 kont n l1 l2) K → V p l e R s m args below meth c 3 D A cells slots Q (wl ad cI cB σ) 4 [(0, Value.int l0), (1, Value.int l1), (2, Value.int l2)] [] := by
  intro n
  induction n with
  | zero =>
    intro l1 l2 h
    exact (wp_none h).elim
  | succ n ih =>
    intro l1 l2 h
    rw [La_ones_L4] at h
    refine V_iload_n X 2 d_La_ones_4 rfl ?_
    refine V_bipush (v := 10) X d_La_ones_5 (by decide) ?_
    refine V_icmp_ge X 24 d_La_ones_7 (by decide) h (fun c1 h => ?_) (fun c1 h => ?_)
    · skip
      exact hk l1 l2 h
    · skip
      refine V_iload_n X 1 d_La_ones_10 rfl ?_
      refine V_iload_n X 0 d_La_ones_11 rfl ?_
      refine V_iload_n X 2 d_La_ones_12 rfl ?_
      refine V_ishr X d_La_ones_13 ?_
      refine V_iconst (v := 1) X d_La_ones_14 (by decide) ?_
      refine V_iand X d_La_ones_15 ?_
      refine V_iadd X d_La_ones_16 ?_
      obtain ⟨x2, hx2, h⟩ := wp_N h
      rw [hx2]
      refine V_istore_n X [(1, Value.int x2), (0, Value.int l0), (2, Value.int l2)] d_La_ones_17 (by decide) rfl ?_
      refine V_iinc X 2 (l2 + (1 : Int32)) [(2, Value.int (l2 + (1 : Int32))), (1, Value.int x2), (0, Value.int l0)] d_La_ones_18 rfl (by first | rfl | decide) (by decide) rfl ?_
      refine V_goto X 4 d_La_ones_21 (by decide) ?_
      refine V_sub (lv' := [(0, Value.int l0), (1, Value.int x2), (2, Value.int (l2 + (1 : Int32)))]) [2, 1, 0] rfl ?_
      exact ih x2 (l2 + (1 : Int32)) h
set_option maxHeartbeats 4000000 in
set_option maxRecDepth 100000 in
theorem k_La_ones (fu : Nat) (σ : Sg) (a0 : Int32) (r : Int32) (h : La_ones fu a0 = some r) : Evc y_La_ones method_12_code 3 (some .int) 1 (fun ad => [Value.int a0]) σ σ (fun _ => some (.int r)) := by
  refine Evc_ofI (by decide) (fun ad => Nat.le_of_ble_eq_true rfl) (fun p l e R s m args below meth c D ad cI cB A Q X hQ => ?_)
  have X : Cx p R s m args meth c R_law method_12_code 3 1 D ad cI cB A 0 0 := X
  have hQ := hQ.pure
  have h : wpO (La_ones fu a0) (fun q => q = r) := ⟨_, h, rfl⟩
  rw [La_ones] at h
  refine V_sub (lv' := [(0, Value.int a0)]) [0] rfl ?_
  refine V_iconst (v := 0) X d_La_ones_0 (by decide) ?_
  refine V_istore_n X [(1, Value.int (0 : Int32)), (0, Value.int a0)] d_La_ones_1 (by decide) rfl ?_
  refine V_iconst (v := 0) X d_La_ones_2 (by decide) ?_
  refine V_istore_n X [(2, Value.int (0 : Int32)), (1, Value.int (0 : Int32)), (0, Value.int a0)] d_La_ones_3 (by decide) rfl ?_
  refine V_sub (lv' := [(0, Value.int a0), (1, Value.int (0 : Int32)), (2, Value.int (0 : Int32))]) [2, 1, 0] rfl ?_
  refine La_ones_L4_ok X fu a0 σ _ hQ (fun l1_3 l2_4 h => ?_) fu (0 : Int32) (0 : Int32) h
  refine V_iload_n X 1 d_La_ones_24 rfl ?_
  have h9 := wp_some h
  exact hQ _ h9 (fun h9 => absurd h9 (by decide)) _ _ d_La_ones_25
set_option maxHeartbeats 4000000 in
set_option maxRecDepth 100000 in
theorem La_right_L40_ok {p : Program} {l : Launch} {e : Env} {R : Room} {s : State} {m : MethodId} {args : Array Value} {below : List Frame} {meth : Method} {c : Code} {D : va_G} {ad : Nat → Nat} {cI cB : ClassId} {A : Nat → Prop} {cells slots : Nat} {Q : State → Prop} (X : Cx p R s m args meth c R_law method_13_code 5 3 D ad cI cB A cells slots) (fu : Nat) (q0 : Nat) (hl_q0 : q0 < 93) (hc_q0 : jv_cls q0 = 100) (l1 : Int32) (l3 : Int32) (kont : (Int32 → Sg → Option (Int32 × Sg))) {K : (Int32 × Sg) → Prop} (hQ : RI p l e R s m args below meth c 5 D ad cI cB A cells slots Q method_13_code false K) (hk : ∀ (l4 : Int32) (σ : Sg), wpO (kont l4 σ) K → V p l e R s m args below meth c 5 D A cells slots Q (wl ad cI cB σ) 86 [(0, Value.ref (ad q0)), (1, Value.int l1), (3, Value.int l3), (4, Value.int l4)] []) : ∀ (n : Nat) (l4 : Int32) (σ : Sg), wpO (La_right_L40 fu q0 l1 l3 kont n l4 σ) K → V p l e R s m args below meth c 5 D A cells slots Q (wl ad cI cB σ) 40 [(0, Value.ref (ad q0)), (1, Value.int l1), (3, Value.int l3), (4, Value.int l4)] [] := by
  intro n
  induction n with
  | zero =>
    intro l4 σ h
    exact (wp_none h).elim
  | succ n ih =>
    intro l4 σ h
    rw [La_right_L40] at h
    refine V_iload X 3 d_La_right_40 rfl ?_
    refine V_aload_n X 0 d_La_right_42 rfl ?_
    refine V_iconst (v := 1) X d_La_right_43 (by decide) ?_
    refine V_iald X d_La_right_44 hl_q0 hc_q0 rfl h (fun h => ?_)
    refine V_icmp_ge X 86 d_La_right_45 (by decide) h (fun c6 h => ?_) (fun c6 h => ?_)
    · skip
      exact hk l4 σ h
    · skip
      refine V_aload_n X 0 d_La_right_48 rfl ?_
      refine V_bipush (v := 14) X d_La_right_49 (by decide) ?_
      refine V_iconst (v := 5) X d_La_right_51 (by decide) ?_
      refine V_iload X 3 d_La_right_52 rfl ?_
      refine V_imul X d_La_right_54 ?_
      refine V_iadd X d_La_right_55 ?_
      refine V_aload_n X 0 d_La_right_56 rfl ?_
      refine V_iload X 3 d_La_right_57 rfl ?_
      refine V_iload_n X 1 d_La_right_59 rfl ?_
      refine V_cI X h (fun r7 q => C_S X [Value.ref (ad q0), Value.int l4, Value.int l1] mt_La_hangs ms_La_hangs ml_La_27 (k_La_hangs fu σ q0 hl_q0 hc_q0 l4 l1 r7 q) rfl rfl (by omega) (Nat.le_of_ble_eq_true rfl) d_La_right_60) (fun r7 h => ?_)
      refine V_if_eq X 70 d_La_right_63 (by decide) h (fun c8 h => ?_) (fun c8 h => ?_)
      · skip
        refine V_aload_n X 0 d_La_right_70 rfl ?_
        refine V_bipush (v := 14) X d_La_right_71 (by decide) ?_
        refine V_iconst (v := 5) X d_La_right_73 (by decide) ?_
        refine V_iload X 3 d_La_right_74 rfl ?_
        refine V_imul X d_La_right_76 ?_
        refine V_iadd X d_La_right_77 ?_
        refine V_iald X d_La_right_78 hl_q0 hc_q0 rfl h (fun h => ?_)
        refine V_iast X d_La_right_79 hl_q0 hc_q0 rfl h (fun h => ?_)
        obtain ⟨s9, hs9, h⟩ := wp_N h
        rw [hs9]
        refine V_iinc X 3 (l4 + (1 : Int32)) [(4, Value.int (l4 + (1 : Int32))), (0, Value.ref (ad q0)), (1, Value.int l1), (3, Value.int l3)] d_La_right_80 rfl (by first | rfl | decide) (by decide) rfl ?_
        refine V_goto X 40 d_La_right_83 (by decide) ?_
        refine V_sub (lv' := [(0, Value.ref (ad q0)), (1, Value.int l1), (3, Value.int l3), (4, Value.int (l4 + (1 : Int32)))]) [1, 2, 3, 0] rfl ?_
        exact ih (l4 + (1 : Int32)) s9 h
      · skip
        refine V_iconst (v := 0) X d_La_right_66 (by decide) ?_
        refine V_goto X 79 d_La_right_67 (by decide) ?_
        refine V_iast X d_La_right_79 hl_q0 hc_q0 rfl h (fun h => ?_)
        obtain ⟨s10, hs10, h⟩ := wp_N h
        rw [hs10]
        refine V_iinc X 3 (l4 + (1 : Int32)) [(4, Value.int (l4 + (1 : Int32))), (0, Value.ref (ad q0)), (1, Value.int l1), (3, Value.int l3)] d_La_right_80 rfl (by first | rfl | decide) (by decide) rfl ?_
        refine V_goto X 40 d_La_right_83 (by decide) ?_
        refine V_sub (lv' := [(0, Value.ref (ad q0)), (1, Value.int l1), (3, Value.int l3), (4, Value.int (l4 + (1 : Int32)))]) [1, 2, 3, 0] rfl ?_
        exact ih (l4 + (1 : Int32)) s10 h
set_option maxHeartbeats 4000000 in
set_option maxRecDepth 100000 in
theorem k_La_right (fu : Nat) (σ : Sg) (q0 : Nat) (hl_q0 : q0 < 93) (hc_q0 : jv_cls q0 = 100) (a1 : Int32) (a2 : Int32) (r : Int32) (σ' : Sg) (h : La_right fu σ q0 a1 a2 = some (r, σ')) : Evc y_La_right method_13_code 5 (some .int) 3 (fun ad => [Value.ref (ad q0), Value.int a1, Value.int a2]) σ σ' (fun _ => some (.int r)) := by
  refine Evc_ofI (by decide) (fun ad => Nat.le_of_ble_eq_true rfl) (fun p l e R s m args below meth c D ad cI cB A Q X hQ => ?_)
  have X : Cx p R s m args meth c R_law method_13_code 5 3 D ad cI cB A 0 0 := X
  have h : wpO (La_right fu σ q0 a1 a2) (fun q => q = (r, σ')) := ⟨_, h, rfl⟩
  rw [La_right] at h
  refine V_sub (lv' := [(0, Value.ref (ad q0)), (1, Value.int a1), (2, Value.int a2)]) [0, 1, 2] rfl ?_
  refine V_aload_n X 0 d_La_right_0 rfl ?_
  refine V_iload_n X 1 d_La_right_1 rfl ?_
  refine V_cI X h (fun r1 q => C_S X [Value.ref (ad q0), Value.int a1] mt_La_under ms_La_under ml_La_42 (k_La_under fu σ q0 hl_q0 hc_q0 a1 r1 q) rfl rfl (by omega) (Nat.le_of_ble_eq_true rfl) d_La_right_2) (fun r1 h => ?_)
  refine V_aload_n X 0 d_La_right_5 rfl ?_
  refine V_cI X h (fun r2 q => C_S X [Value.ref (ad q0)] mt_La_righted ms_La_righted ml_La_35 (k_La_righted fu σ q0 hl_q0 hc_q0 r2 q) rfl rfl (by omega) (Nat.le_of_ble_eq_true rfl) d_La_right_6) (fun r2 h => ?_)
  refine V_iand X d_La_right_9 ?_
  refine V_cI X h (fun r3 q => C_S X [Value.int (r1 &&& r2)] mt_La_ones ms_La_ones ml_La_46 (k_La_ones fu σ (r1 &&& r2) r3 q) rfl rfl (by omega) (Nat.le_of_ble_eq_true rfl) d_La_right_10) (fun r3 h => ?_)
  refine V_istore_n X [(3, Value.int r3), (0, Value.ref (ad q0)), (1, Value.int a1), (2, Value.int a2)] d_La_right_13 (by decide) rfl ?_
  refine V_aload_n X 1 d_La_right_14 rfl ?_
  refine V_iconst (v := 4) X d_La_right_15 (by decide) ?_
  refine V_iload_n X 3 d_La_right_16 rfl ?_
  refine V_iadd X d_La_right_17 ?_
  refine V_dup2 X d_La_right_18 rfl rfl ?_
  refine V_iald X d_La_right_19 hl_q0 hc_q0 rfl h (fun h => ?_)
  refine V_aload_n X 1 d_La_right_20 rfl ?_
  refine V_iload_n X 2 d_La_right_21 rfl ?_
  refine V_aload_n X 1 d_La_right_22 rfl ?_
  refine V_bipush (v := 11) X d_La_right_23 (by decide) ?_
  refine V_iconst (v := 5) X d_La_right_25 (by decide) ?_
  refine V_iload_n X 2 d_La_right_26 rfl ?_
  refine V_imul X d_La_right_27 ?_
  refine V_iadd X d_La_right_28 ?_
  refine V_iald X d_La_right_29 hl_q0 hc_q0 rfl h (fun h => ?_)
  refine V_cI X h (fun r4 q => C_S X [Value.ref (ad q0), Value.int a1, Value.int (gA σ q0 (ix ((11 : Int32) + ((5 : Int32) * a1))))] mt_La_costs ms_La_costs ml_La_31 (k_La_costs fu σ q0 hl_q0 hc_q0 a1 (gA σ q0 (ix ((11 : Int32) + ((5 : Int32) * a1)))) r4 q) rfl rfl (by omega) (Nat.le_of_ble_eq_true rfl) d_La_right_30) (fun r4 h => ?_)
  refine V_isub X d_La_right_33 ?_
  refine V_iast X d_La_right_34 hl_q0 hc_q0 rfl h (fun h => ?_)
  obtain ⟨s5, hs5, h⟩ := wp_N h
  rw [hs5]
  refine V_iload_n X 2 d_La_right_35 rfl ?_
  refine V_iconst (v := 1) X d_La_right_36 (by decide) ?_
  refine V_iadd X d_La_right_37 ?_
  refine V_istore X [(4, Value.int (a1 + (1 : Int32))), (3, Value.int r3), (0, Value.ref (ad q0)), (1, Value.int a1), (2, Value.int a2)] d_La_right_38 (by decide) rfl ?_
  refine V_sub (lv' := [(0, Value.ref (ad q0)), (1, Value.int a1), (3, Value.int r3), (4, Value.int (a1 + (1 : Int32)))]) [2, 3, 1, 0] rfl ?_
  refine La_right_L40_ok X fu q0 hl_q0 hc_q0 a1 r3 _ hQ (fun l4_11 s12 h => ?_) fu (a1 + (1 : Int32)) s5 h
  refine V_aload_n X 0 d_La_right_86 rfl ?_
  refine V_bipush (v := 14) X d_La_right_87 (by decide) ?_
  refine V_iconst (v := 5) X d_La_right_89 (by decide) ?_
  refine V_iload_n X 1 d_La_right_90 rfl ?_
  refine V_imul X d_La_right_91 ?_
  refine V_iadd X d_La_right_92 ?_
  refine V_iconst (v := 1) X d_La_right_93 (by decide) ?_
  refine V_iast X d_La_right_94 hl_q0 hc_q0 rfl h (fun h => ?_)
  obtain ⟨s13, hs13, h⟩ := wp_N h
  rw [hs13]
  refine V_iload_n X 2 d_La_right_95 rfl ?_
  have h9 := wp_some h
  exact hQ _ _ h9 (fun h9 => absurd h9 (by decide)) _ _ d_La_right_96
set_option maxHeartbeats 4000000 in
set_option maxRecDepth 100000 in
theorem La_year_L2_ok {p : Program} {l : Launch} {e : Env} {R : Room} {s : State} {m : MethodId} {args : Array Value} {below : List Frame} {meth : Method} {c : Code} {D : va_G} {ad : Nat → Nat} {cI cB : ClassId} {A : Nat → Prop} {cells slots : Nat} {Q : State → Prop} (X : Cx p R s m args meth c R_law method_14_code 2 1 D ad cI cB A cells slots) (fu : Nat) (q0 : Nat) (hl_q0 : q0 < 93) (hc_q0 : jv_cls q0 = 100) (kont : (Int32 → Sg → Option Sg)) {K : Sg → Prop} (hQ : RV p l e R s m args below meth c 2 D ad cI cB A cells slots Q method_14_code K) (hk : ∀ (l1 : Int32) (σ : Sg), wpO (kont l1 σ) K → V p l e R s m args below meth c 2 D A cells slots Q (wl ad cI cB σ) 54 [(0, Value.ref (ad q0)), (1, Value.int l1)] []) : ∀ (n : Nat) (l1 : Int32) (σ : Sg), wpO (La_year_L2 fu q0 kont n l1 σ) K → V p l e R s m args below meth c 2 D A cells slots Q (wl ad cI cB σ) 2 [(0, Value.ref (ad q0)), (1, Value.int l1)] [] := by
  intro n
  induction n with
  | zero =>
    intro l1 σ h
    exact (wp_none h).elim
  | succ n ih =>
    intro l1 σ h
    rw [La_year_L2] at h
    refine V_iload_n X 1 d_La_year_2 rfl ?_
    refine V_aload_n X 0 d_La_year_3 rfl ?_
    refine V_iconst (v := 0) X d_La_year_4 (by decide) ?_
    refine V_iald X d_La_year_5 hl_q0 hc_q0 rfl h (fun h => ?_)
    refine V_icmp_ge X 54 d_La_year_6 (by decide) h (fun c1 h => ?_) (fun c1 h => ?_)
    · skip
      exact hk l1 σ h
    · skip
      refine V_aload_n X 0 d_La_year_9 rfl ?_
      refine V_iconst (v := 4) X d_La_year_10 (by decide) ?_
      refine V_iload_n X 1 d_La_year_11 rfl ?_
      refine V_iadd X d_La_year_12 ?_
      refine V_aload_n X 0 d_La_year_13 rfl ?_
      refine V_iconst (v := 4) X d_La_year_14 (by decide) ?_
      refine V_iload_n X 1 d_La_year_15 rfl ?_
      refine V_iadd X d_La_year_16 ?_
      refine V_iald X d_La_year_17 hl_q0 hc_q0 rfl h (fun h => ?_)
      refine V_aload_n X 0 d_La_year_18 rfl ?_
      refine V_bipush (v := 7) X d_La_year_19 (by decide) ?_
      refine V_iload_n X 1 d_La_year_21 rfl ?_
      refine V_iadd X d_La_year_22 ?_
      refine V_iald X d_La_year_23 hl_q0 hc_q0 rfl h (fun h => ?_)
      refine V_iadd X d_La_year_24 ?_
      refine V_bipush (v := 20) X d_La_year_25 (by decide) ?_
      refine V_icmp_le X 35 d_La_year_27 (by decide) h (fun c2 h => ?_) (fun c2 h => ?_)
      · skip
        refine V_aload_n X 0 d_La_year_35 rfl ?_
        refine V_iconst (v := 4) X d_La_year_36 (by decide) ?_
        refine V_iload_n X 1 d_La_year_37 rfl ?_
        refine V_iadd X d_La_year_38 ?_
        refine V_iald X d_La_year_39 hl_q0 hc_q0 rfl h (fun h => ?_)
        refine V_aload_n X 0 d_La_year_40 rfl ?_
        refine V_bipush (v := 7) X d_La_year_41 (by decide) ?_
        refine V_iload_n X 1 d_La_year_43 rfl ?_
        refine V_iadd X d_La_year_44 ?_
        refine V_iald X d_La_year_45 hl_q0 hc_q0 rfl h (fun h => ?_)
        refine V_iadd X d_La_year_46 ?_
        refine V_iast X d_La_year_47 hl_q0 hc_q0 rfl h (fun h => ?_)
        obtain ⟨s3, hs3, h⟩ := wp_N h
        rw [hs3]
        refine V_iinc X 1 (l1 + (1 : Int32)) [(1, Value.int (l1 + (1 : Int32))), (0, Value.ref (ad q0))] d_La_year_48 rfl (by first | rfl | decide) (by decide) rfl ?_
        refine V_goto X 2 d_La_year_51 (by decide) ?_
        refine V_sub (lv' := [(0, Value.ref (ad q0)), (1, Value.int (l1 + (1 : Int32)))]) [1, 0] rfl ?_
        exact ih (l1 + (1 : Int32)) s3 h
      · skip
        refine V_bipush (v := 20) X d_La_year_30 (by decide) ?_
        refine V_goto X 47 d_La_year_32 (by decide) ?_
        refine V_iast X d_La_year_47 hl_q0 hc_q0 rfl h (fun h => ?_)
        obtain ⟨s4, hs4, h⟩ := wp_N h
        rw [hs4]
        refine V_iinc X 1 (l1 + (1 : Int32)) [(1, Value.int (l1 + (1 : Int32))), (0, Value.ref (ad q0))] d_La_year_48 rfl (by first | rfl | decide) (by decide) rfl ?_
        refine V_goto X 2 d_La_year_51 (by decide) ?_
        refine V_sub (lv' := [(0, Value.ref (ad q0)), (1, Value.int (l1 + (1 : Int32)))]) [1, 0] rfl ?_
        exact ih (l1 + (1 : Int32)) s4 h
set_option maxHeartbeats 4000000 in
set_option maxRecDepth 100000 in
theorem k_La_year (fu : Nat) (σ : Sg) (q0 : Nat) (hl_q0 : q0 < 93) (hc_q0 : jv_cls q0 = 100) (σ' : Sg) (h : La_year fu σ q0 = some σ') : Evc y_La_year method_14_code 2 (none) 1 (fun ad => [Value.ref (ad q0)]) σ σ' (fun _ => none) := by
  refine Evc_ofV (by decide) (fun ad => Nat.le_of_ble_eq_true rfl) (fun p l e R s m args below meth c D ad cI cB A Q X hQ => ?_)
  have X : Cx p R s m args meth c R_law method_14_code 2 1 D ad cI cB A 0 0 := X
  have h : wpO (La_year fu σ q0) (fun q => q = σ') := ⟨_, h, rfl⟩
  rw [La_year] at h
  refine V_sub (lv' := [(0, Value.ref (ad q0))]) [0] rfl ?_
  refine V_iconst (v := 0) X d_La_year_0 (by decide) ?_
  refine V_istore_n X [(1, Value.int (0 : Int32)), (0, Value.ref (ad q0))] d_La_year_1 (by decide) rfl ?_
  refine V_sub (lv' := [(0, Value.ref (ad q0)), (1, Value.int (0 : Int32))]) [1, 0] rfl ?_
  refine La_year_L2_ok X fu q0 hl_q0 hc_q0 _ hQ (fun l1_5 s6 h => ?_) fu (0 : Int32) σ h
  have h9 := wp_some h
  exact hQ _ h9 _ _ d_La_year_54
set_option maxHeartbeats 4000000 in
set_option maxRecDepth 100000 in
theorem La_worth_L4_ok {p : Program} {l : Launch} {e : Env} {R : Room} {s : State} {m : MethodId} {args : Array Value} {below : List Frame} {meth : Method} {c : Code} {D : va_G} {ad : Nat → Nat} {cI cB : ClassId} {A : Nat → Prop} {cells slots : Nat} {Q : State → Prop} (X : Cx p R s m args meth c R_law method_9_code 4 1 D ad cI cB A cells slots) (fu : Nat) (q0 : Nat) (hl_q0 : q0 < 93) (hc_q0 : jv_cls q0 = 100) (l1 : Int32) (σ : Sg) (kont : (Int32 → Int32 → Option Int32)) {K : Int32 → Prop} (hQ : RP p l e R s m args below meth c 4 D ad cI cB A cells slots Q method_9_code false σ K) (hk : ∀ (l2 : Int32) (l3 : Int32), wpO (kont l2 l3) K → V p l e R s m args below meth c 4 D A cells slots Q (wl ad cI cB σ) 34 [(0, Value.ref (ad q0)), (1, Value.int l1), (2, Value.int l2), (3, Value.int l3)] []) : ∀ (n : Nat) (l2 : Int32) (l3 : Int32), wpO (La_worth_L4 fu q0 l1 σ kont n l2 l3) K → V p l e R s m args below meth c 4 D A cells slots Q (wl ad cI cB σ) 4 [(0, Value.ref (ad q0)), (1, Value.int l1), (2, Value.int l2), (3, Value.int l3)] [] := by
  intro n
  induction n with
  | zero =>
    intro l2 l3 h
    exact (wp_none h).elim
  | succ n ih =>
    intro l2 l3 h
    rw [La_worth_L4] at h
    refine V_iload_n X 3 d_La_worth_4 rfl ?_
    refine V_aload_n X 0 d_La_worth_5 rfl ?_
    refine V_iconst (v := 1) X d_La_worth_6 (by decide) ?_
    refine V_iald X d_La_worth_7 hl_q0 hc_q0 rfl h (fun h => ?_)
    refine V_icmp_ge X 34 d_La_worth_8 (by decide) h (fun c1 h => ?_) (fun c1 h => ?_)
    · skip
      exact hk l2 l3 h
    · skip
      refine V_iload_n X 2 d_La_worth_11 rfl ?_
      refine V_iload_n X 1 d_La_worth_12 rfl ?_
      refine V_iload_n X 3 d_La_worth_13 rfl ?_
      refine V_ishr X d_La_worth_14 ?_
      refine V_iconst (v := 1) X d_La_worth_15 (by decide) ?_
      refine V_iand X d_La_worth_16 ?_
      refine V_aload_n X 0 d_La_worth_17 rfl ?_
      refine V_bipush (v := 12) X d_La_worth_18 (by decide) ?_
      refine V_iconst (v := 5) X d_La_worth_20 (by decide) ?_
      refine V_iload_n X 3 d_La_worth_21 rfl ?_
      refine V_imul X d_La_worth_22 ?_
      refine V_iadd X d_La_worth_23 ?_
      refine V_iald X d_La_worth_24 hl_q0 hc_q0 rfl h (fun h => ?_)
      refine V_imul X d_La_worth_25 ?_
      refine V_iadd X d_La_worth_26 ?_
      obtain ⟨x2, hx2, h⟩ := wp_N h
      rw [hx2]
      refine V_istore_n X [(2, Value.int x2), (0, Value.ref (ad q0)), (1, Value.int l1), (3, Value.int l3)] d_La_worth_27 (by decide) rfl ?_
      refine V_iinc X 3 (l3 + (1 : Int32)) [(3, Value.int (l3 + (1 : Int32))), (2, Value.int x2), (0, Value.ref (ad q0)), (1, Value.int l1)] d_La_worth_28 rfl (by first | rfl | decide) (by decide) rfl ?_
      refine V_goto X 4 d_La_worth_31 (by decide) ?_
      refine V_sub (lv' := [(0, Value.ref (ad q0)), (1, Value.int l1), (2, Value.int x2), (3, Value.int (l3 + (1 : Int32)))]) [2, 3, 1, 0] rfl ?_
      exact ih x2 (l3 + (1 : Int32)) h
set_option maxHeartbeats 4000000 in
set_option maxRecDepth 100000 in
theorem k_La_worth (fu : Nat) (σ : Sg) (q0 : Nat) (hl_q0 : q0 < 93) (hc_q0 : jv_cls q0 = 100) (a1 : Int32) (r : Int32) (h : La_worth fu σ q0 a1 = some r) : Evc y_La_worth method_9_code 4 (some .int) 1 (fun ad => [Value.ref (ad q0), Value.int a1]) σ σ (fun _ => some (.int r)) := by
  refine Evc_ofI (by decide) (fun ad => Nat.le_of_ble_eq_true rfl) (fun p l e R s m args below meth c D ad cI cB A Q X hQ => ?_)
  have X : Cx p R s m args meth c R_law method_9_code 4 1 D ad cI cB A 0 0 := X
  have hQ := hQ.pure
  have h : wpO (La_worth fu σ q0 a1) (fun q => q = r) := ⟨_, h, rfl⟩
  rw [La_worth] at h
  refine V_sub (lv' := [(0, Value.ref (ad q0)), (1, Value.int a1)]) [0, 1] rfl ?_
  refine V_iconst (v := 0) X d_La_worth_0 (by decide) ?_
  refine V_istore_n X [(2, Value.int (0 : Int32)), (0, Value.ref (ad q0)), (1, Value.int a1)] d_La_worth_1 (by decide) rfl ?_
  refine V_iconst (v := 0) X d_La_worth_2 (by decide) ?_
  refine V_istore_n X [(3, Value.int (0 : Int32)), (2, Value.int (0 : Int32)), (0, Value.ref (ad q0)), (1, Value.int a1)] d_La_worth_3 (by decide) rfl ?_
  refine V_sub (lv' := [(0, Value.ref (ad q0)), (1, Value.int a1), (2, Value.int (0 : Int32)), (3, Value.int (0 : Int32))]) [2, 3, 1, 0] rfl ?_
  refine La_worth_L4_ok X fu q0 hl_q0 hc_q0 a1 σ _ hQ (fun l2_3 l3_4 h => ?_) fu (0 : Int32) (0 : Int32) h
  refine V_iload_n X 2 d_La_worth_34 rfl ?_
  have h9 := wp_some h
  exact hQ _ h9 (fun h9 => absurd h9 (by decide)) _ _ d_La_worth_35
set_option maxHeartbeats 4000000 in
set_option maxRecDepth 100000 in
theorem La_copy_L2_ok {p : Program} {l : Launch} {e : Env} {R : Room} {s : State} {m : MethodId} {args : Array Value} {below : List Frame} {meth : Method} {c : Code} {D : va_G} {ad : Nat → Nat} {cI cB : ClassId} {A : Nat → Prop} {cells slots : Nat} {Q : State → Prop} (X : Cx p R s m args meth c R_law method_15_code 3 1 D ad cI cB A cells slots) (fu : Nat) (q0 : Nat) (hl_q0 : q0 < 93) (hc_q0 : jv_cls q0 = 100) (q1 : Nat) (hl_q1 : q1 < 93) (hc_q1 : jv_cls q1 = 100) (kont : (Int32 → Sg → Option Sg)) {K : Sg → Prop} (hQ : RV p l e R s m args below meth c 3 D ad cI cB A cells slots Q method_15_code K) (hk : ∀ (l2 : Int32) (σ : Sg), wpO (kont l2 σ) K → V p l e R s m args below meth c 3 D A cells slots Q (wl ad cI cB σ) 20 [(0, Value.ref (ad q0)), (1, Value.ref (ad q1)), (2, Value.int l2)] []) : ∀ (n : Nat) (l2 : Int32) (σ : Sg), wpO (La_copy_L2 fu q0 q1 kont n l2 σ) K → V p l e R s m args below meth c 3 D A cells slots Q (wl ad cI cB σ) 2 [(0, Value.ref (ad q0)), (1, Value.ref (ad q1)), (2, Value.int l2)] [] := by
  intro n
  induction n with
  | zero =>
    intro l2 σ h
    exact (wp_none h).elim
  | succ n ih =>
    intro l2 σ h
    rw [La_copy_L2] at h
    refine V_iload_n X 2 d_La_copy_2 rfl ?_
    refine V_bipush (v := 45) X d_La_copy_3 (by decide) ?_
    refine V_icmp_ge X 20 d_La_copy_5 (by decide) h (fun c1 h => ?_) (fun c1 h => ?_)
    · skip
      exact hk l2 σ h
    · skip
      refine V_aload_n X 1 d_La_copy_8 rfl ?_
      refine V_iload_n X 2 d_La_copy_9 rfl ?_
      refine V_aload_n X 0 d_La_copy_10 rfl ?_
      refine V_iload_n X 2 d_La_copy_11 rfl ?_
      refine V_iald X d_La_copy_12 hl_q0 hc_q0 rfl h (fun h => ?_)
      refine V_iast X d_La_copy_13 hl_q1 hc_q1 rfl h (fun h => ?_)
      obtain ⟨s2, hs2, h⟩ := wp_N h
      rw [hs2]
      refine V_iinc X 2 (l2 + (1 : Int32)) [(2, Value.int (l2 + (1 : Int32))), (0, Value.ref (ad q0)), (1, Value.ref (ad q1))] d_La_copy_14 rfl (by first | rfl | decide) (by decide) rfl ?_
      refine V_goto X 2 d_La_copy_17 (by decide) ?_
      refine V_sub (lv' := [(0, Value.ref (ad q0)), (1, Value.ref (ad q1)), (2, Value.int (l2 + (1 : Int32)))]) [1, 2, 0] rfl ?_
      exact ih (l2 + (1 : Int32)) s2 h
set_option maxHeartbeats 4000000 in
set_option maxRecDepth 100000 in
theorem k_La_copy (fu : Nat) (σ : Sg) (q0 : Nat) (hl_q0 : q0 < 93) (hc_q0 : jv_cls q0 = 100) (q1 : Nat) (hl_q1 : q1 < 93) (hc_q1 : jv_cls q1 = 100) (σ' : Sg) (h : La_copy fu σ q0 q1 = some σ') : Evc y_La_copy method_15_code 3 (none) 1 (fun ad => [Value.ref (ad q0), Value.ref (ad q1)]) σ σ' (fun _ => none) := by
  refine Evc_ofV (by decide) (fun ad => Nat.le_of_ble_eq_true rfl) (fun p l e R s m args below meth c D ad cI cB A Q X hQ => ?_)
  have X : Cx p R s m args meth c R_law method_15_code 3 1 D ad cI cB A 0 0 := X
  have h : wpO (La_copy fu σ q0 q1) (fun q => q = σ') := ⟨_, h, rfl⟩
  rw [La_copy] at h
  refine V_sub (lv' := [(0, Value.ref (ad q0)), (1, Value.ref (ad q1))]) [0, 1] rfl ?_
  refine V_iconst (v := 0) X d_La_copy_0 (by decide) ?_
  refine V_istore_n X [(2, Value.int (0 : Int32)), (0, Value.ref (ad q0)), (1, Value.ref (ad q1))] d_La_copy_1 (by decide) rfl ?_
  refine V_sub (lv' := [(0, Value.ref (ad q0)), (1, Value.ref (ad q1)), (2, Value.int (0 : Int32))]) [1, 2, 0] rfl ?_
  refine La_copy_L2_ok X fu q0 hl_q0 hc_q0 q1 hl_q1 hc_q1 _ hQ (fun l2_3 s4 h => ?_) fu (0 : Int32) σ h
  have h9 := wp_some h
  exact hQ _ h9 _ _ d_La_copy_20
set_option maxHeartbeats 4000000 in
set_option maxRecDepth 100000 in
theorem k_La_put (σ : Sg) (a1 : Int32) (r : Int32) (σ' : Sg) (h : La_put σ a1 = some (r, σ')) : Evc y_La_put method_3_code 2 (some .boolean) 4 (fun ad => [Value.ref (ad 0), Value.int a1]) σ σ' (fun _ => some (.int r)) := by
  refine Evc_ofZ (by decide) (fun ad => Nat.le_of_ble_eq_true rfl) (fun p l e R s m args below meth c D ad cI cB A Q X hQ => ?_)
  have X : Cx p R s m args meth c R_law method_3_code 2 4 D ad cI cB A 0 0 := X
  have h : wpO (La_put σ a1) (fun q => q = (r, σ')) := ⟨_, h, rfl⟩
  rw [La_put] at h
  refine V_sub (lv' := [(0, Value.ref (ad 0)), (1, Value.int a1)]) [0, 1] rfl ?_
  refine V_aload_n X 0 d_La_put_0 rfl ?_
  refine V_iload_n X 1 d_La_put_1 rfl ?_
  refine V_cP X h (fun r1 s2 q => C_V (q := 0) X [Value.int a1] mt_Co_letter ms_Co_letter ml_La_8 (k_Co_letter σ a1 r1 s2 q) rfl rfl (by omega) (Nat.le_of_ble_eq_true rfl) rfl (by decide) (by decide) (by decide) d_La_put_2) (fun r1 s2 h => ?_)
  refine V_if_le X 12 d_La_put_5 (by decide) h (fun c3 h => ?_) (fun c3 h => ?_)
  · skip
    refine V_iconst (v := 0) X d_La_put_12 (by decide) ?_
    have h9 := wp_some h
    exact hQ _ _ h9 (fun _ => by decide) _ _ d_La_put_13
  · skip
    refine V_iconst (v := 1) X d_La_put_8 (by decide) ?_
    refine V_goto X 13 d_La_put_9 (by decide) ?_
    have h9 := wp_some h
    exact hQ _ _ h9 (fun _ => by decide) _ _ d_La_put_13
set_option maxHeartbeats 4000000 in
set_option maxRecDepth 100000 in
theorem k_La_cell (σ : Sg) (b L : Nat) (xs : Nat → Int32) (a1 : Int32) (r : Int32) (h : La_cell xs L a1 = some r) : EvX y_La_cell method_2_code 2 (some .int) 1 (fun _ => [Value.ref b, Value.int a1]) σ (fun _ => some (.int r)) b L xs := by
  refine EvX_ofI (by decide) (fun ad => Nat.le_of_ble_eq_true rfl) (fun p l e R s m args below meth c D ad cI cB A Q X HX hQ => ?_)
  have X : Cx p R s m args meth c R_law method_2_code 2 1 D ad cI cB A 0 0 := X
  have hQ := hQ.pure
  have h : wpO (La_cell xs L a1) (fun q => q = r) := ⟨_, h, rfl⟩
  rw [La_cell] at h
  refine V_sub (lv' := [(0, Value.ref b), (1, Value.int a1)]) [0, 1] rfl ?_
  refine V_iload_n X 1 d_La_cell_0 rfl ?_
  refine V_aload_n X 0 d_La_cell_1 rfl ?_
  refine V_slen X HX d_La_cell_2 ?_
  refine V_icmp_ge X 12 d_La_cell_3 (by decide) h (fun c1 h => ?_) (fun c1 h => ?_)
  · skip
    refine V_sipush (v := 7919) X d_La_cell_12 (by decide) ?_
    refine V_iload_n X 1 d_La_cell_15 rfl ?_
    refine V_imul X d_La_cell_16 ?_
    refine V_bipush (v := 13) X d_La_cell_17 (by decide) ?_
    refine V_iadd X d_La_cell_19 ?_
    refine V_ldc X d_La_cell_20 kc_La_7 ?_
    refine V_iand X d_La_cell_22 ?_
    have h9 := wp_some h
    exact hQ _ h9 (fun h9 => absurd h9 (by decide)) _ _ d_La_cell_23
  · skip
    refine V_aload_n X 0 d_La_cell_6 rfl ?_
    refine V_iload_n X 1 d_La_cell_7 rfl ?_
    refine V_sld X HX d_La_cell_8 h (fun h => ?_)
    refine V_goto X 20 d_La_cell_9 (by decide) ?_
    refine V_ldc X d_La_cell_20 kc_La_7 ?_
    refine V_iand X d_La_cell_22 ?_
    have h9 := wp_some h
    exact hQ _ h9 (fun h9 => absurd h9 (by decide)) _ _ d_La_cell_23
