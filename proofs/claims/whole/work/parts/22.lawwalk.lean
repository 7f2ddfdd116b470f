def La_law_L18 (fu : Nat) (xs : Nat → Int32) (L : Nat) (kont : (Int32 → Sg → Option (Int32 × Sg))) : Nat → Int32 → Sg → Option (Int32 × Sg)
  | 0, _, _ => none
  | n + 1, l3, σ => if ((Int32.ofNat L) - (5 : Int32)) < l3 then (kont l3 σ) else (if inb l3 L = true then (if ((xs (ix l3)) &&& (31 : Int32)) = (0 : Int32) then (if inb (l3 + (1 : Int32)) L = true then (bindP (Co_letter σ (xs (ix (l3 + (1 : Int32))))) fun r3 s4 => if inb (l3 + (1 : Int32)) L = true then (bindP (Mo_letter s4 (xs (ix (l3 + (1 : Int32))))) fun r5 s6 => if r3 = r5 then (La_law_L18 fu xs L kont n (l3 + (5 : Int32)) s6) else (some ((0 : Int32), s6))) else none) else none) else (if ((xs (ix l3)) &&& (31 : Int32)) = (1 : Int32) then (bindP (Co_blank σ) fun r9 s10 => bindP (Mo_blank s10) fun r11 s12 => if r9 = r11 then (La_law_L18 fu xs L kont n (l3 + (5 : Int32)) s12) else (some ((0 : Int32), s12))) else (if ((xs (ix l3)) &&& (31 : Int32)) = (2 : Int32) then (bindP (Co_fault fu σ) fun r15 s16 => bindP (Mo_fault fu s16) fun r17 s18 => if r15 = r17 then (La_law_L18 fu xs L kont n (l3 + (5 : Int32)) s18) else (some ((0 : Int32), s18))) else (if ((xs (ix l3)) &&& (31 : Int32)) = (3 : Int32) then (bindP (Co_shire fu σ) fun r21 s22 => bindP (Mo_shire fu s22) fun r23 s24 => if r21 = r23 then (La_law_L18 fu xs L kont n (l3 + (5 : Int32)) s24) else (some ((0 : Int32), s24))) else (if ((xs (ix l3)) &&& (31 : Int32)) = (4 : Int32) then (if inb (l3 + (1 : Int32)) L = true then (if inb (l3 + (2 : Int32)) L = true then (bindV (Co_tree fu σ (xs (ix (l3 + (1 : Int32)))) (xs (ix (l3 + (2 : Int32))))) fun r27 => if inb (l3 + (1 : Int32)) L = true then (if inb (l3 + (2 : Int32)) L = true then (bindV (Mo_tree fu σ (xs (ix (l3 + (1 : Int32)))) (xs (ix (l3 + (2 : Int32))))) fun r28 => if r27 = r28 then (La_law_L18 fu xs L kont n (l3 + (5 : Int32)) σ) else (some ((0 : Int32), σ))) else none) else none) else none) else none) else (if ((xs (ix l3)) &&& (31 : Int32)) = (5 : Int32) then (if inb (l3 + (1 : Int32)) L = true then (if inb (l3 + (2 : Int32)) L = true then (bindV (Co_suit fu σ (xs (ix (l3 + (1 : Int32)))) (xs (ix (l3 + (2 : Int32))))) fun r31 => if inb (l3 + (1 : Int32)) L = true then (if inb (l3 + (2 : Int32)) L = true then (bindP (Mo_suit fu σ (xs (ix (l3 + (1 : Int32)))) (xs (ix (l3 + (2 : Int32))))) fun r32 s33 => if r31 = r32 then (La_law_L18 fu xs L kont n (l3 + (5 : Int32)) s33) else (some ((0 : Int32), s33))) else none) else none) else none) else none) else (if ((xs (ix l3)) &&& (31 : Int32)) = (6 : Int32) then (if inb (l3 + (1 : Int32)) L = true then (if inb (l3 + (2 : Int32)) L = true then (bindV (Co_as σ (xs (ix (l3 + (1 : Int32)))) (xs (ix (l3 + (2 : Int32))))) fun r36 => if inb (l3 + (1 : Int32)) L = true then (if inb (l3 + (2 : Int32)) L = true then (bindV (Mo_as σ (xs (ix (l3 + (1 : Int32)))) (xs (ix (l3 + (2 : Int32))))) fun r37 => if r36 = r37 then (La_law_L18 fu xs L kont n (l3 + (5 : Int32)) σ) else (some ((0 : Int32), σ))) else none) else none) else none) else none) else (if ((xs (ix l3)) &&& (31 : Int32)) = (7 : Int32) then (if inb (l3 + (1 : Int32)) L = true then (if inb (l3 + (2 : Int32)) L = true then (bindP (Co_right σ (xs (ix (l3 + (1 : Int32)))) (xs (ix (l3 + (2 : Int32))))) fun r40 s41 => if inb (l3 + (1 : Int32)) L = true then (if inb (l3 + (2 : Int32)) L = true then (bindP (Mo_right fu s41 (xs (ix (l3 + (1 : Int32)))) (xs (ix (l3 + (2 : Int32))))) fun r42 s43 => if r40 = r42 then (La_law_L18 fu xs L kont n (l3 + (5 : Int32)) s43) else (some ((0 : Int32), s43))) else none) else none) else none) else none) else (if ((xs (ix l3)) &&& (31 : Int32)) = (8 : Int32) then (bindP (Co_year fu σ) fun r46 s47 => bindP (Mo_year fu s47) fun r48 s49 => if r46 = r48 then (La_law_L18 fu xs L kont n (l3 + (5 : Int32)) s49) else (some ((0 : Int32), s49))) else (if ((xs (ix l3)) &&& (31 : Int32)) = (9 : Int32) then (if inb (l3 + (1 : Int32)) L = true then (if inb (l3 + (2 : Int32)) L = true then (bindP (Co_birds σ (xs (ix (l3 + (1 : Int32)))) (xs (ix (l3 + (2 : Int32))))) fun r52 s53 => if inb (l3 + (1 : Int32)) L = true then (if inb (l3 + (2 : Int32)) L = true then (bindP (Mo_birds s53 (xs (ix (l3 + (1 : Int32)))) (xs (ix (l3 + (2 : Int32))))) fun r54 s55 => if r52 = r54 then (La_law_L18 fu xs L kont n (l3 + (5 : Int32)) s55) else (some ((0 : Int32), s55))) else none) else none) else none) else none) else (if ((xs (ix l3)) &&& (31 : Int32)) = (10 : Int32) then (if inb (l3 + (1 : Int32)) L = true then (if inb (l3 + (2 : Int32)) L = true then (if inb (l3 + (3 : Int32)) L = true then (bindP (Co_plead σ (xs (ix (l3 + (1 : Int32)))) (xs (ix (l3 + (2 : Int32)))) (xs (ix (l3 + (3 : Int32))))) fun r58 s59 => if inb (l3 + (1 : Int32)) L = true then (if inb (l3 + (2 : Int32)) L = true then (if inb (l3 + (3 : Int32)) L = true then (bindP (Mo_plead s59 (xs (ix (l3 + (1 : Int32)))) (xs (ix (l3 + (2 : Int32)))) (xs (ix (l3 + (3 : Int32))))) fun r60 s61 => if r58 = r60 then (La_law_L18 fu xs L kont n (l3 + (5 : Int32)) s61) else (some ((0 : Int32), s61))) else none) else none) else none) else none) else none) else none) else (if ((xs (ix l3)) &&& (31 : Int32)) = (11 : Int32) then (if inb (l3 + (1 : Int32)) L = true then (bindP (Co_walk fu σ (xs (ix (l3 + (1 : Int32))))) fun r64 s65 => if inb (l3 + (1 : Int32)) L = true then (bindP (Mo_walk fu s65 (xs (ix (l3 + (1 : Int32))))) fun r66 s67 => if r64 = r66 then (La_law_L18 fu xs L kont n (l3 + (5 : Int32)) s67) else (some ((0 : Int32), s67))) else none) else none) else (if ((xs (ix l3)) &&& (31 : Int32)) = (12 : Int32) then (if inb (l3 + (1 : Int32)) L = true then (bindP (Co_plan fu σ (xs (ix (l3 + (1 : Int32))))) fun r70 s71 => if inb (l3 + (1 : Int32)) L = true then (bindP (Mo_plan fu s71 (xs (ix (l3 + (1 : Int32))))) fun r72 s73 => if r70 = r72 then (La_law_L18 fu xs L kont n (l3 + (5 : Int32)) s73) else (some ((0 : Int32), s73))) else none) else none) else (if ((xs (ix l3)) &&& (31 : Int32)) = (13 : Int32) then (if inb (l3 + (1 : Int32)) L = true then (if inb (l3 + (2 : Int32)) L = true then (bindP (Co_game fu σ (xs (ix (l3 + (1 : Int32)))) (xs (ix (l3 + (2 : Int32))))) fun r76 s77 => if inb (l3 + (1 : Int32)) L = true then (if inb (l3 + (2 : Int32)) L = true then (bindP (Mo_game fu s77 (xs (ix (l3 + (1 : Int32)))) (xs (ix (l3 + (2 : Int32))))) fun r78 s79 => if r76 = r78 then (La_law_L18 fu xs L kont n (l3 + (5 : Int32)) s79) else (some ((0 : Int32), s79))) else none) else none) else none) else none) else (if ((xs (ix l3)) &&& (31 : Int32)) = (14 : Int32) then (if inb (l3 + (1 : Int32)) L = true then (if inb (l3 + (2 : Int32)) L = true then (if inb (l3 + (3 : Int32)) L = true then (if inb (l3 + (4 : Int32)) L = true then (bindV (Co_odds fu σ (xs (ix (l3 + (1 : Int32)))) (xs (ix (l3 + (2 : Int32)))) (xs (ix (l3 + (3 : Int32)))) (xs (ix (l3 + (4 : Int32))))) fun r82 => if inb (l3 + (1 : Int32)) L = true then (if inb (l3 + (2 : Int32)) L = true then (if inb (l3 + (3 : Int32)) L = true then (if inb (l3 + (4 : Int32)) L = true then (bindP (Mo_odds fu σ (xs (ix (l3 + (1 : Int32)))) (xs (ix (l3 + (2 : Int32)))) (xs (ix (l3 + (3 : Int32)))) (xs (ix (l3 + (4 : Int32))))) fun r83 s84 => if r82 = r83 then (La_law_L18 fu xs L kont n (l3 + (5 : Int32)) s84) else (some ((0 : Int32), s84))) else none) else none) else none) else none) else none) else none) else none) else none) else (if ((xs (ix l3)) &&& (31 : Int32)) = (15 : Int32) then (if inb (l3 + (1 : Int32)) L = true then (if inb (l3 + (2 : Int32)) L = true then (if inb (l3 + (3 : Int32)) L = true then (if (xs (ix (l3 + (3 : Int32)))) = 0 then (bindP (Co_see σ (xs (ix (l3 + (1 : Int32)))) (xs (ix (l3 + (2 : Int32)))) (0 : Int32)) fun r88 s89 => if inb (l3 + (1 : Int32)) L = true then (if inb (l3 + (2 : Int32)) L = true then (if inb (l3 + (3 : Int32)) L = true then (if (xs (ix (l3 + (3 : Int32)))) = 0 then (bindP (Mo_see s89 (xs (ix (l3 + (1 : Int32)))) (xs (ix (l3 + (2 : Int32)))) (0 : Int32)) fun r91 s92 => if r88 = r91 then (La_law_L18 fu xs L kont n (l3 + (5 : Int32)) s92) else (some ((0 : Int32), s92))) else (bindP (Mo_see s89 (xs (ix (l3 + (1 : Int32)))) (xs (ix (l3 + (2 : Int32)))) (1 : Int32)) fun r94 s95 => if r88 = r94 then (La_law_L18 fu xs L kont n (l3 + (5 : Int32)) s95) else (some ((0 : Int32), s95)))) else none) else none) else none) else (bindP (Co_see σ (xs (ix (l3 + (1 : Int32)))) (xs (ix (l3 + (2 : Int32)))) (1 : Int32)) fun r97 s98 => if inb (l3 + (1 : Int32)) L = true then (if inb (l3 + (2 : Int32)) L = true then (if inb (l3 + (3 : Int32)) L = true then (if (xs (ix (l3 + (3 : Int32)))) = 0 then (bindP (Mo_see s98 (xs (ix (l3 + (1 : Int32)))) (xs (ix (l3 + (2 : Int32)))) (0 : Int32)) fun r100 s101 => if r97 = r100 then (La_law_L18 fu xs L kont n (l3 + (5 : Int32)) s101) else (some ((0 : Int32), s101))) else (bindP (Mo_see s98 (xs (ix (l3 + (1 : Int32)))) (xs (ix (l3 + (2 : Int32)))) (1 : Int32)) fun r103 s104 => if r97 = r103 then (La_law_L18 fu xs L kont n (l3 + (5 : Int32)) s104) else (some ((0 : Int32), s104)))) else none) else none) else none)) else none) else none) else none) else (if ((xs (ix l3)) &&& (31 : Int32)) = (16 : Int32) then (bindP (Co_forget σ) fun r107 s108 => bindP (Mo_forget s108) fun r109 s110 => if r107 = r109 then (La_law_L18 fu xs L kont n (l3 + (5 : Int32)) s110) else (some ((0 : Int32), s110))) else (if ((xs (ix l3)) &&& (31 : Int32)) = (17 : Int32) then (if inb (l3 + (1 : Int32)) L = true then (if inb (l3 + (2 : Int32)) L = true then (if inb (l3 + (3 : Int32)) L = true then (bindP (Co_centuries fu σ (xs (ix (l3 + (1 : Int32)))) (xs (ix (l3 + (2 : Int32)))) (xs (ix (l3 + (3 : Int32))))) fun r113 s114 => if inb (l3 + (1 : Int32)) L = true then (if inb (l3 + (2 : Int32)) L = true then (if inb (l3 + (3 : Int32)) L = true then (bindP (Mo_centuries fu s114 (xs (ix (l3 + (1 : Int32)))) (xs (ix (l3 + (2 : Int32)))) (xs (ix (l3 + (3 : Int32))))) fun r115 s116 => if r113 = r115 then (La_law_L18 fu xs L kont n (l3 + (5 : Int32)) s116) else (some ((0 : Int32), s116))) else none) else none) else none) else none) else none) else none) else (if ((xs (ix l3)) &&& (31 : Int32)) = (18 : Int32) then (bindP (Co_image fu σ) fun r119 s120 => bindP (Mo_image fu s120) fun r121 s122 => if r119 = r121 then (La_law_L18 fu xs L kont n (l3 + (5 : Int32)) s122) else (some ((0 : Int32), s122))) else (if ((xs (ix l3)) &&& (31 : Int32)) = (19 : Int32) then (bindP (Co_restore fu σ) fun r125 s126 => bindP (Mo_restore fu s126) fun r127 s128 => if r125 = r127 then (La_law_L18 fu xs L kont n (l3 + (5 : Int32)) s128) else (some ((0 : Int32), s128))) else (if ((xs (ix l3)) &&& (31 : Int32)) = (20 : Int32) then (if inb (l3 + (1 : Int32)) L = true then (bindV (Co_count fu σ (xs (ix (l3 + (1 : Int32))))) fun r131 => if inb (l3 + (1 : Int32)) L = true then (bindV (Mo_count fu σ (xs (ix (l3 + (1 : Int32))))) fun r132 => if r131 = r132 then (La_law_L18 fu xs L kont n (l3 + (5 : Int32)) σ) else (some ((0 : Int32), σ))) else none) else none) else (if ((xs (ix l3)) &&& (31 : Int32)) = (21 : Int32) then (bindP (Co_digest fu σ) fun r135 s136 => bindP (Mo_digest fu s136) fun r137 s138 => if (lg_cmp r135 r137) = 0 then (La_law_L18 fu xs L kont n (l3 + (5 : Int32)) s138) else (some ((0 : Int32), s138))) else (La_law_L18 fu xs L kont n (l3 + (5 : Int32)) σ))))))))))))))))))))))) else none)
def La_law (fu : Nat) (xs : Nat → Int32) (L : Nat) (σ : Sg) : Option (Int32 × Sg) := La_law_L18 fu xs L (fun l3_140 s141 => some ((1 : Int32), s141)) fu (0 : Int32) σ
set_option maxHeartbeats 4000000 in
set_option maxRecDepth 100000 in
theorem La_law_L18_ok {p : Program} {l : Launch} {e : Env} {R : Room} {s : State} {m : MethodId} {args : Array Value} {below : List Frame} {meth : Method} {c : Code} {D : va_G} {ad : Nat → Nat} {cI cB : ClassId} {A : Nat → Prop} {cells slots : Nat} {Q : State → Prop} (X : Cx p R s m args meth c R_law code 4 1000 D ad cI cB A cells slots) {b L : Nat} {xs : Nat → Int32} (HX : va_X b L xs s s.heap ∧ b < s.heap.size ∧ ¬ A b) (fu : Nat) (kont : (Int32 → Sg → Option (Int32 × Sg))) {K : (Int32 × Sg) → Prop} (hQ : RI p l e R s m args below meth c 4 D ad cI cB A cells slots Q code true K) (hk : ∀ (l3 : Int32) (σ : Sg), wpO (kont l3 σ) K → V p l e R s m args below meth c 4 D A cells slots Q (wl ad cI cB σ) 735 [(0, Value.ref b), (1, Value.ref (ad 0)), (2, Value.ref (ad 91)), (3, Value.int l3)] []) : ∀ (n : Nat) (l3 : Int32) (σ : Sg), wpO (La_law_L18 fu xs L kont n l3 σ) K → V p l e R s m args below meth c 4 D A cells slots Q (wl ad cI cB σ) 18 [(0, Value.ref b), (1, Value.ref (ad 0)), (2, Value.ref (ad 91)), (3, Value.int l3)] [] := by
  intro n
  induction n with
  | zero =>
    intro l3 σ h
    exact (wp_none h).elim
  | succ n ih =>
    intro l3 σ h
    rw [La_law_L18] at h
    refine V_iload_n X 3 d_La_law_18 rfl ?_
    refine V_aload_n X 0 d_La_law_19 rfl ?_
    refine V_slen X HX d_La_law_20 ?_
    refine V_iconst (v := 5) X d_La_law_21 (by decide) ?_
    refine V_isub X d_La_law_22 ?_
    refine V_icmp_gt X 735 d_La_law_23 (by decide) h (fun c1 h => ?_) (fun c1 h => ?_)
    · skip
      exact hk l3 σ h
    · skip
      refine V_aload_n X 0 d_La_law_26 rfl ?_
      refine V_iload_n X 3 d_La_law_27 rfl ?_
      refine V_sld X HX d_La_law_28 h (fun h => ?_)
      refine V_bipush (v := 31) X d_La_law_29 (by decide) ?_
      refine V_iand X d_La_law_31 ?_
      rcases wp_case h with ⟨c2, h⟩ | ⟨c2, h⟩
      · skip
        refine V_tableIn X 104 136 d_La_law_32 (0) (by rw [c2]; decide) (by decide) (by decide) rfl (by decide) ?_
        refine V_aload_n X 1 d_La_law_136 rfl ?_
        refine V_aload_n X 0 d_La_law_137 rfl ?_
        refine V_iload_n X 3 d_La_law_138 rfl ?_
        refine V_iconst (v := 1) X d_La_law_139 (by decide) ?_
        refine V_iadd X d_La_law_140 ?_
        refine V_sld X HX d_La_law_141 h (fun h => ?_)
        refine V_cP X h (fun r3 s4 q => C_V (q := 0) X [Value.int (xs (ix (l3 + (1 : Int32))))] mt_Co_letter ms_Co_letter ml_La_13 (k_Co_letter σ (xs (ix (l3 + (1 : Int32)))) r3 s4 q) rfl rfl (by omega) (Nat.le_of_ble_eq_true rfl) rfl (by decide) (by decide) (by decide) d_La_law_142) (fun r3 s4 h => ?_)
        refine V_aload_n X 2 d_La_law_145 rfl ?_
        refine V_aload_n X 0 d_La_law_146 rfl ?_
        refine V_iload_n X 3 d_La_law_147 rfl ?_
        refine V_iconst (v := 1) X d_La_law_148 (by decide) ?_
        refine V_iadd X d_La_law_149 ?_
        refine V_sld X HX d_La_law_150 h (fun h => ?_)
        refine V_cP X h (fun r5 s6 q => C_V (q := 10) X [Value.int (xs (ix (l3 + (1 : Int32))))] mt_Mo_letter ms_Mo_letter ml_La_17 (k_Mo_letter s4 (xs (ix (l3 + (1 : Int32)))) r5 s6 q) rfl rfl (by omega) (Nat.le_of_ble_eq_true rfl) rfl (by decide) (by decide) (by decide) d_La_law_151) (fun r5 s6 h => ?_)
        refine V_icmp_eq X 729 d_La_law_154 (by decide) h (fun c7 h => ?_) (fun c7 h => ?_)
        · skip
          refine V_iinc X 3 (l3 + (5 : Int32)) [(3, Value.int (l3 + (5 : Int32))), (0, Value.ref b), (1, Value.ref (ad 0)), (2, Value.ref (ad 91))] d_La_law_729 rfl (by first | rfl | decide) (by decide) rfl ?_
          refine V_goto X 18 d_La_law_732 (by decide) ?_
          refine V_sub (lv' := [(0, Value.ref b), (1, Value.ref (ad 0)), (2, Value.ref (ad 91)), (3, Value.int (l3 + (5 : Int32)))]) [1, 2, 3, 0] rfl ?_
          exact ih (l3 + (5 : Int32)) s6 h
        · skip
          refine V_iconst (v := 0) X d_La_law_157 (by decide) ?_
          have h9 := wp_some h
          exact hQ _ _ h9 (fun _ => by decide) _ _ d_La_law_158
      · skip
        rcases wp_case h with ⟨c8, h⟩ | ⟨c8, h⟩
        · skip
          refine V_tableIn X 127 159 d_La_law_32 (1) (by rw [c8]; decide) (by decide) (by decide) rfl (by decide) ?_
          refine V_aload_n X 1 d_La_law_159 rfl ?_
          refine V_cP X h (fun r9 s10 q => C_V (q := 0) X [] mt_Co_blank ms_Co_blank ml_La_18 (k_Co_blank σ r9 s10 q) rfl rfl (by omega) (Nat.le_of_ble_eq_true rfl) rfl (by decide) (by decide) (by decide) d_La_law_160) (fun r9 s10 h => ?_)
          refine V_aload_n X 2 d_La_law_163 rfl ?_
          refine V_cP X h (fun r11 s12 q => C_V (q := 10) X [] mt_Mo_blank ms_Mo_blank ml_La_22 (k_Mo_blank s10 r11 s12 q) rfl rfl (by omega) (Nat.le_of_ble_eq_true rfl) rfl (by decide) (by decide) (by decide) d_La_law_164) (fun r11 s12 h => ?_)
          refine V_icmp_eq X 729 d_La_law_167 (by decide) h (fun c13 h => ?_) (fun c13 h => ?_)
          · skip
            refine V_iinc X 3 (l3 + (5 : Int32)) [(3, Value.int (l3 + (5 : Int32))), (0, Value.ref b), (1, Value.ref (ad 0)), (2, Value.ref (ad 91))] d_La_law_729 rfl (by first | rfl | decide) (by decide) rfl ?_
            refine V_goto X 18 d_La_law_732 (by decide) ?_
            refine V_sub (lv' := [(0, Value.ref b), (1, Value.ref (ad 0)), (2, Value.ref (ad 91)), (3, Value.int (l3 + (5 : Int32)))]) [1, 2, 3, 0] rfl ?_
            exact ih (l3 + (5 : Int32)) s12 h
          · skip
            refine V_iconst (v := 0) X d_La_law_170 (by decide) ?_
            have h9 := wp_some h
            exact hQ _ _ h9 (fun _ => by decide) _ _ d_La_law_171
        · skip
          rcases wp_case h with ⟨c14, h⟩ | ⟨c14, h⟩
          · skip
            refine V_tableIn X 140 172 d_La_law_32 (2) (by rw [c14]; decide) (by decide) (by decide) rfl (by decide) ?_
            refine V_aload_n X 1 d_La_law_172 rfl ?_
            refine V_cP X h (fun r15 s16 q => C_V (q := 0) X [] mt_Co_fault ms_Co_fault ml_La_23 (k_Co_fault fu σ r15 s16 q) rfl rfl (by omega) (Nat.le_of_ble_eq_true rfl) rfl (by decide) (by decide) (by decide) d_La_law_173) (fun r15 s16 h => ?_)
            refine V_aload_n X 2 d_La_law_176 rfl ?_
            refine V_cP X h (fun r17 s18 q => C_V (q := 10) X [] mt_Mo_fault ms_Mo_fault ml_La_26 (k_Mo_fault fu s16 r17 s18 q) rfl rfl (by omega) (Nat.le_of_ble_eq_true rfl) rfl (by decide) (by decide) (by decide) d_La_law_177) (fun r17 s18 h => ?_)
            refine V_icmp_eq X 729 d_La_law_180 (by decide) h (fun c19 h => ?_) (fun c19 h => ?_)
            · skip
              refine V_iinc X 3 (l3 + (5 : Int32)) [(3, Value.int (l3 + (5 : Int32))), (0, Value.ref b), (1, Value.ref (ad 0)), (2, Value.ref (ad 91))] d_La_law_729 rfl (by first | rfl | decide) (by decide) rfl ?_
              refine V_goto X 18 d_La_law_732 (by decide) ?_
              refine V_sub (lv' := [(0, Value.ref b), (1, Value.ref (ad 0)), (2, Value.ref (ad 91)), (3, Value.int (l3 + (5 : Int32)))]) [1, 2, 3, 0] rfl ?_
              exact ih (l3 + (5 : Int32)) s18 h
            · skip
              refine V_iconst (v := 0) X d_La_law_183 (by decide) ?_
              have h9 := wp_some h
              exact hQ _ _ h9 (fun _ => by decide) _ _ d_La_law_184
          · skip
            rcases wp_case h with ⟨c20, h⟩ | ⟨c20, h⟩
            · skip
              refine V_tableIn X 153 185 d_La_law_32 (3) (by rw [c20]; decide) (by decide) (by decide) rfl (by decide) ?_
              refine V_aload_n X 1 d_La_law_185 rfl ?_
              refine V_cP X h (fun r21 s22 q => C_V (q := 0) X [] mt_Co_shire ms_Co_shire ml_La_27 (k_Co_shire fu σ r21 s22 q) rfl rfl (by omega) (Nat.le_of_ble_eq_true rfl) rfl (by decide) (by decide) (by decide) d_La_law_186) (fun r21 s22 h => ?_)
              refine V_aload_n X 2 d_La_law_189 rfl ?_
              refine V_cP X h (fun r23 s24 q => C_V (q := 10) X [] mt_Mo_shire ms_Mo_shire ml_La_30 (k_Mo_shire fu s22 r23 s24 q) rfl rfl (by omega) (Nat.le_of_ble_eq_true rfl) rfl (by decide) (by decide) (by decide) d_La_law_190) (fun r23 s24 h => ?_)
              refine V_icmp_eq X 729 d_La_law_193 (by decide) h (fun c25 h => ?_) (fun c25 h => ?_)
              · skip
                refine V_iinc X 3 (l3 + (5 : Int32)) [(3, Value.int (l3 + (5 : Int32))), (0, Value.ref b), (1, Value.ref (ad 0)), (2, Value.ref (ad 91))] d_La_law_729 rfl (by first | rfl | decide) (by decide) rfl ?_
                refine V_goto X 18 d_La_law_732 (by decide) ?_
                refine V_sub (lv' := [(0, Value.ref b), (1, Value.ref (ad 0)), (2, Value.ref (ad 91)), (3, Value.int (l3 + (5 : Int32)))]) [1, 2, 3, 0] rfl ?_
                exact ih (l3 + (5 : Int32)) s24 h
              · skip
                refine V_iconst (v := 0) X d_La_law_196 (by decide) ?_
                have h9 := wp_some h
                exact hQ _ _ h9 (fun _ => by decide) _ _ d_La_law_197
            · skip
              rcases wp_case h with ⟨c26, h⟩ | ⟨c26, h⟩
              · skip
                refine V_tableIn X 166 198 d_La_law_32 (4) (by rw [c26]; decide) (by decide) (by decide) rfl (by decide) ?_
                refine V_aload_n X 1 d_La_law_198 rfl ?_
                refine V_aload_n X 0 d_La_law_199 rfl ?_
                refine V_iload_n X 3 d_La_law_200 rfl ?_
                refine V_iconst (v := 1) X d_La_law_201 (by decide) ?_
                refine V_iadd X d_La_law_202 ?_
                refine V_sld X HX d_La_law_203 h (fun h => ?_)
                refine V_aload_n X 0 d_La_law_204 rfl ?_
                refine V_iload_n X 3 d_La_law_205 rfl ?_
                refine V_iconst (v := 2) X d_La_law_206 (by decide) ?_
                refine V_iadd X d_La_law_207 ?_
                refine V_sld X HX d_La_law_208 h (fun h => ?_)
                refine V_cI X h (fun r27 q => C_V (q := 0) X [Value.int (xs (ix (l3 + (1 : Int32)))), Value.int (xs (ix (l3 + (2 : Int32))))] mt_Co_tree ms_Co_tree ml_La_31 (k_Co_tree fu σ (xs (ix (l3 + (1 : Int32)))) (xs (ix (l3 + (2 : Int32)))) r27 q) rfl rfl (by omega) (Nat.le_of_ble_eq_true rfl) rfl (by decide) (by decide) (by decide) d_La_law_209) (fun r27 h => ?_)
                refine V_aload_n X 2 d_La_law_212 rfl ?_
                refine V_aload_n X 0 d_La_law_213 rfl ?_
                refine V_iload_n X 3 d_La_law_214 rfl ?_
                refine V_iconst (v := 1) X d_La_law_215 (by decide) ?_
                refine V_iadd X d_La_law_216 ?_
                refine V_sld X HX d_La_law_217 h (fun h => ?_)
                refine V_aload_n X 0 d_La_law_218 rfl ?_
                refine V_iload_n X 3 d_La_law_219 rfl ?_
                refine V_iconst (v := 2) X d_La_law_220 (by decide) ?_
                refine V_iadd X d_La_law_221 ?_
                refine V_sld X HX d_La_law_222 h (fun h => ?_)
                refine V_cI X h (fun r28 q => C_V (q := 10) X [Value.int (xs (ix (l3 + (1 : Int32)))), Value.int (xs (ix (l3 + (2 : Int32))))] mt_Mo_tree ms_Mo_tree ml_La_35 (k_Mo_tree fu σ (xs (ix (l3 + (1 : Int32)))) (xs (ix (l3 + (2 : Int32)))) r28 q) rfl rfl (by omega) (Nat.le_of_ble_eq_true rfl) rfl (by decide) (by decide) (by decide) d_La_law_223) (fun r28 h => ?_)
                refine V_icmp_eq X 729 d_La_law_226 (by decide) h (fun c29 h => ?_) (fun c29 h => ?_)
                · skip
                  refine V_iinc X 3 (l3 + (5 : Int32)) [(3, Value.int (l3 + (5 : Int32))), (0, Value.ref b), (1, Value.ref (ad 0)), (2, Value.ref (ad 91))] d_La_law_729 rfl (by first | rfl | decide) (by decide) rfl ?_
                  refine V_goto X 18 d_La_law_732 (by decide) ?_
                  refine V_sub (lv' := [(0, Value.ref b), (1, Value.ref (ad 0)), (2, Value.ref (ad 91)), (3, Value.int (l3 + (5 : Int32)))]) [1, 2, 3, 0] rfl ?_
                  exact ih (l3 + (5 : Int32)) σ h
                · skip
                  refine V_iconst (v := 0) X d_La_law_229 (by decide) ?_
                  have h9 := wp_some h
                  exact hQ _ _ h9 (fun _ => by decide) _ _ d_La_law_230
              · skip
                rcases wp_case h with ⟨c30, h⟩ | ⟨c30, h⟩
                · skip
                  refine V_tableIn X 199 231 d_La_law_32 (5) (by rw [c30]; decide) (by decide) (by decide) rfl (by decide) ?_
                  refine V_aload_n X 1 d_La_law_231 rfl ?_
                  refine V_aload_n X 0 d_La_law_232 rfl ?_
                  refine V_iload_n X 3 d_La_law_233 rfl ?_
                  refine V_iconst (v := 1) X d_La_law_234 (by decide) ?_
                  refine V_iadd X d_La_law_235 ?_
                  refine V_sld X HX d_La_law_236 h (fun h => ?_)
                  refine V_aload_n X 0 d_La_law_237 rfl ?_
                  refine V_iload_n X 3 d_La_law_238 rfl ?_
                  refine V_iconst (v := 2) X d_La_law_239 (by decide) ?_
                  refine V_iadd X d_La_law_240 ?_
                  refine V_sld X HX d_La_law_241 h (fun h => ?_)
                  refine V_cI X h (fun r31 q => C_V (q := 0) X [Value.int (xs (ix (l3 + (1 : Int32)))), Value.int (xs (ix (l3 + (2 : Int32))))] mt_Co_suit ms_Co_suit ml_La_36 (k_Co_suit fu σ (xs (ix (l3 + (1 : Int32)))) (xs (ix (l3 + (2 : Int32)))) r31 q) rfl rfl (by omega) (Nat.le_of_ble_eq_true rfl) rfl (by decide) (by decide) (by decide) d_La_law_242) (fun r31 h => ?_)
                  refine V_aload_n X 2 d_La_law_245 rfl ?_
                  refine V_aload_n X 0 d_La_law_246 rfl ?_
                  refine V_iload_n X 3 d_La_law_247 rfl ?_
                  refine V_iconst (v := 1) X d_La_law_248 (by decide) ?_
                  refine V_iadd X d_La_law_249 ?_
                  refine V_sld X HX d_La_law_250 h (fun h => ?_)
                  refine V_aload_n X 0 d_La_law_251 rfl ?_
                  refine V_iload_n X 3 d_La_law_252 rfl ?_
                  refine V_iconst (v := 2) X d_La_law_253 (by decide) ?_
                  refine V_iadd X d_La_law_254 ?_
                  refine V_sld X HX d_La_law_255 h (fun h => ?_)
                  refine V_cP X h (fun r32 s33 q => C_V (q := 10) X [Value.int (xs (ix (l3 + (1 : Int32)))), Value.int (xs (ix (l3 + (2 : Int32))))] mt_Mo_suit ms_Mo_suit ml_La_39 (k_Mo_suit fu σ (xs (ix (l3 + (1 : Int32)))) (xs (ix (l3 + (2 : Int32)))) r32 s33 q) rfl rfl (by omega) (Nat.le_of_ble_eq_true rfl) rfl (by decide) (by decide) (by decide) d_La_law_256) (fun r32 s33 h => ?_)
                  refine V_icmp_eq X 729 d_La_law_259 (by decide) h (fun c34 h => ?_) (fun c34 h => ?_)
                  · skip
                    refine V_iinc X 3 (l3 + (5 : Int32)) [(3, Value.int (l3 + (5 : Int32))), (0, Value.ref b), (1, Value.ref (ad 0)), (2, Value.ref (ad 91))] d_La_law_729 rfl (by first | rfl | decide) (by decide) rfl ?_
                    refine V_goto X 18 d_La_law_732 (by decide) ?_
                    refine V_sub (lv' := [(0, Value.ref b), (1, Value.ref (ad 0)), (2, Value.ref (ad 91)), (3, Value.int (l3 + (5 : Int32)))]) [1, 2, 3, 0] rfl ?_
                    exact ih (l3 + (5 : Int32)) s33 h
                  · skip
                    refine V_iconst (v := 0) X d_La_law_262 (by decide) ?_
                    have h9 := wp_some h
                    exact hQ _ _ h9 (fun _ => by decide) _ _ d_La_law_263
                · skip
                  rcases wp_case h with ⟨c35, h⟩ | ⟨c35, h⟩
                  · skip
                    refine V_tableIn X 232 264 d_La_law_32 (6) (by rw [c35]; decide) (by decide) (by decide) rfl (by decide) ?_
                    refine V_aload_n X 1 d_La_law_264 rfl ?_
                    refine V_aload_n X 0 d_La_law_265 rfl ?_
                    refine V_iload_n X 3 d_La_law_266 rfl ?_
                    refine V_iconst (v := 1) X d_La_law_267 (by decide) ?_
                    refine V_iadd X d_La_law_268 ?_
                    refine V_sld X HX d_La_law_269 h (fun h => ?_)
                    refine V_aload_n X 0 d_La_law_270 rfl ?_
                    refine V_iload_n X 3 d_La_law_271 rfl ?_
                    refine V_iconst (v := 2) X d_La_law_272 (by decide) ?_
                    refine V_iadd X d_La_law_273 ?_
                    refine V_sld X HX d_La_law_274 h (fun h => ?_)
                    refine V_cI X h (fun r36 q => C_V (q := 0) X [Value.int (xs (ix (l3 + (1 : Int32)))), Value.int (xs (ix (l3 + (2 : Int32))))] mt_Co_as ms_Co_as ml_La_40 (k_Co_as σ (xs (ix (l3 + (1 : Int32)))) (xs (ix (l3 + (2 : Int32)))) r36 q) rfl rfl (by omega) (Nat.le_of_ble_eq_true rfl) rfl (by decide) (by decide) (by decide) d_La_law_275) (fun r36 h => ?_)
                    refine V_aload_n X 2 d_La_law_278 rfl ?_
                    refine V_aload_n X 0 d_La_law_279 rfl ?_
                    refine V_iload_n X 3 d_La_law_280 rfl ?_
                    refine V_iconst (v := 1) X d_La_law_281 (by decide) ?_
                    refine V_iadd X d_La_law_282 ?_
                    refine V_sld X HX d_La_law_283 h (fun h => ?_)
                    refine V_aload_n X 0 d_La_law_284 rfl ?_
                    refine V_iload_n X 3 d_La_law_285 rfl ?_
                    refine V_iconst (v := 2) X d_La_law_286 (by decide) ?_
                    refine V_iadd X d_La_law_287 ?_
                    refine V_sld X HX d_La_law_288 h (fun h => ?_)
                    refine V_cI X h (fun r37 q => C_V (q := 10) X [Value.int (xs (ix (l3 + (1 : Int32)))), Value.int (xs (ix (l3 + (2 : Int32))))] mt_Mo_as ms_Mo_as ml_La_43 (k_Mo_as σ (xs (ix (l3 + (1 : Int32)))) (xs (ix (l3 + (2 : Int32)))) r37 q) rfl rfl (by omega) (Nat.le_of_ble_eq_true rfl) rfl (by decide) (by decide) (by decide) d_La_law_289) (fun r37 h => ?_)
                    refine V_icmp_eq X 729 d_La_law_292 (by decide) h (fun c38 h => ?_) (fun c38 h => ?_)
                    · skip
                      refine V_iinc X 3 (l3 + (5 : Int32)) [(3, Value.int (l3 + (5 : Int32))), (0, Value.ref b), (1, Value.ref (ad 0)), (2, Value.ref (ad 91))] d_La_law_729 rfl (by first | rfl | decide) (by decide) rfl ?_
                      refine V_goto X 18 d_La_law_732 (by decide) ?_
                      refine V_sub (lv' := [(0, Value.ref b), (1, Value.ref (ad 0)), (2, Value.ref (ad 91)), (3, Value.int (l3 + (5 : Int32)))]) [1, 2, 3, 0] rfl ?_
                      exact ih (l3 + (5 : Int32)) σ h
                    · skip
                      refine V_iconst (v := 0) X d_La_law_295 (by decide) ?_
                      have h9 := wp_some h
                      exact hQ _ _ h9 (fun _ => by decide) _ _ d_La_law_296
                  · skip
                    rcases wp_case h with ⟨c39, h⟩ | ⟨c39, h⟩
                    · skip
                      refine V_tableIn X 265 297 d_La_law_32 (7) (by rw [c39]; decide) (by decide) (by decide) rfl (by decide) ?_
                      refine V_aload_n X 1 d_La_law_297 rfl ?_
                      refine V_aload_n X 0 d_La_law_298 rfl ?_
                      refine V_iload_n X 3 d_La_law_299 rfl ?_
                      refine V_iconst (v := 1) X d_La_law_300 (by decide) ?_
                      refine V_iadd X d_La_law_301 ?_
                      refine V_sld X HX d_La_law_302 h (fun h => ?_)
                      refine V_aload_n X 0 d_La_law_303 rfl ?_
                      refine V_iload_n X 3 d_La_law_304 rfl ?_
                      refine V_iconst (v := 2) X d_La_law_305 (by decide) ?_
                      refine V_iadd X d_La_law_306 ?_
                      refine V_sld X HX d_La_law_307 h (fun h => ?_)
                      refine V_cP X h (fun r40 s41 q => C_V (q := 0) X [Value.int (xs (ix (l3 + (1 : Int32)))), Value.int (xs (ix (l3 + (2 : Int32))))] mt_Co_right ms_Co_right ml_La_44 (k_Co_right σ (xs (ix (l3 + (1 : Int32)))) (xs (ix (l3 + (2 : Int32)))) r40 s41 q) rfl rfl (by omega) (Nat.le_of_ble_eq_true rfl) rfl (by decide) (by decide) (by decide) d_La_law_308) (fun r40 s41 h => ?_)
                      refine V_aload_n X 2 d_La_law_311 rfl ?_
                      refine V_aload_n X 0 d_La_law_312 rfl ?_
                      refine V_iload_n X 3 d_La_law_313 rfl ?_
                      refine V_iconst (v := 1) X d_La_law_314 (by decide) ?_
                      refine V_iadd X d_La_law_315 ?_
                      refine V_sld X HX d_La_law_316 h (fun h => ?_)
                      refine V_aload_n X 0 d_La_law_317 rfl ?_
                      refine V_iload_n X 3 d_La_law_318 rfl ?_
                      refine V_iconst (v := 2) X d_La_law_319 (by decide) ?_
                      refine V_iadd X d_La_law_320 ?_
                      refine V_sld X HX d_La_law_321 h (fun h => ?_)
                      refine V_cP X h (fun r42 s43 q => C_V (q := 10) X [Value.int (xs (ix (l3 + (1 : Int32)))), Value.int (xs (ix (l3 + (2 : Int32))))] mt_Mo_right ms_Mo_right ml_La_47 (k_Mo_right fu s41 (xs (ix (l3 + (1 : Int32)))) (xs (ix (l3 + (2 : Int32)))) r42 s43 q) rfl rfl (by omega) (Nat.le_of_ble_eq_true rfl) rfl (by decide) (by decide) (by decide) d_La_law_322) (fun r42 s43 h => ?_)
                      refine V_icmp_eq X 729 d_La_law_325 (by decide) h (fun c44 h => ?_) (fun c44 h => ?_)
                      · skip
                        refine V_iinc X 3 (l3 + (5 : Int32)) [(3, Value.int (l3 + (5 : Int32))), (0, Value.ref b), (1, Value.ref (ad 0)), (2, Value.ref (ad 91))] d_La_law_729 rfl (by first | rfl | decide) (by decide) rfl ?_
                        refine V_goto X 18 d_La_law_732 (by decide) ?_
                        refine V_sub (lv' := [(0, Value.ref b), (1, Value.ref (ad 0)), (2, Value.ref (ad 91)), (3, Value.int (l3 + (5 : Int32)))]) [1, 2, 3, 0] rfl ?_
                        exact ih (l3 + (5 : Int32)) s43 h
                      · skip
                        refine V_iconst (v := 0) X d_La_law_328 (by decide) ?_
                        have h9 := wp_some h
                        exact hQ _ _ h9 (fun _ => by decide) _ _ d_La_law_329
                    · skip
                      rcases wp_case h with ⟨c45, h⟩ | ⟨c45, h⟩
                      · skip
                        refine V_tableIn X 298 330 d_La_law_32 (8) (by rw [c45]; decide) (by decide) (by decide) rfl (by decide) ?_
                        refine V_aload_n X 1 d_La_law_330 rfl ?_
                        refine V_cP X h (fun r46 s47 q => C_V (q := 0) X [] mt_Co_year ms_Co_year ml_La_48 (k_Co_year fu σ r46 s47 q) rfl rfl (by omega) (Nat.le_of_ble_eq_true rfl) rfl (by decide) (by decide) (by decide) d_La_law_331) (fun r46 s47 h => ?_)
                        refine V_aload_n X 2 d_La_law_334 rfl ?_
                        refine V_cP X h (fun r48 s49 q => C_V (q := 10) X [] mt_Mo_year ms_Mo_year ml_La_51 (k_Mo_year fu s47 r48 s49 q) rfl rfl (by omega) (Nat.le_of_ble_eq_true rfl) rfl (by decide) (by decide) (by decide) d_La_law_335) (fun r48 s49 h => ?_)
                        refine V_icmp_eq X 729 d_La_law_338 (by decide) h (fun c50 h => ?_) (fun c50 h => ?_)
                        · skip
                          refine V_iinc X 3 (l3 + (5 : Int32)) [(3, Value.int (l3 + (5 : Int32))), (0, Value.ref b), (1, Value.ref (ad 0)), (2, Value.ref (ad 91))] d_La_law_729 rfl (by first | rfl | decide) (by decide) rfl ?_
                          refine V_goto X 18 d_La_law_732 (by decide) ?_
                          refine V_sub (lv' := [(0, Value.ref b), (1, Value.ref (ad 0)), (2, Value.ref (ad 91)), (3, Value.int (l3 + (5 : Int32)))]) [1, 2, 3, 0] rfl ?_
                          exact ih (l3 + (5 : Int32)) s49 h
                        · skip
                          refine V_iconst (v := 0) X d_La_law_341 (by decide) ?_
                          have h9 := wp_some h
                          exact hQ _ _ h9 (fun _ => by decide) _ _ d_La_law_342
                      · skip
                        rcases wp_case h with ⟨c51, h⟩ | ⟨c51, h⟩
                        · skip
                          refine V_tableIn X 311 343 d_La_law_32 (9) (by rw [c51]; decide) (by decide) (by decide) rfl (by decide) ?_
                          refine V_aload_n X 1 d_La_law_343 rfl ?_
                          refine V_aload_n X 0 d_La_law_344 rfl ?_
                          refine V_iload_n X 3 d_La_law_345 rfl ?_
                          refine V_iconst (v := 1) X d_La_law_346 (by decide) ?_
                          refine V_iadd X d_La_law_347 ?_
                          refine V_sld X HX d_La_law_348 h (fun h => ?_)
                          refine V_aload_n X 0 d_La_law_349 rfl ?_
                          refine V_iload_n X 3 d_La_law_350 rfl ?_
                          refine V_iconst (v := 2) X d_La_law_351 (by decide) ?_
                          refine V_iadd X d_La_law_352 ?_
                          refine V_sld X HX d_La_law_353 h (fun h => ?_)
                          refine V_cP X h (fun r52 s53 q => C_V (q := 0) X [Value.int (xs (ix (l3 + (1 : Int32)))), Value.int (xs (ix (l3 + (2 : Int32))))] mt_Co_birds ms_Co_birds ml_La_52 (k_Co_birds σ (xs (ix (l3 + (1 : Int32)))) (xs (ix (l3 + (2 : Int32)))) r52 s53 q) rfl rfl (by omega) (Nat.le_of_ble_eq_true rfl) rfl (by decide) (by decide) (by decide) d_La_law_354) (fun r52 s53 h => ?_)
                          refine V_aload_n X 2 d_La_law_357 rfl ?_
                          refine V_aload_n X 0 d_La_law_358 rfl ?_
                          refine V_iload_n X 3 d_La_law_359 rfl ?_
                          refine V_iconst (v := 1) X d_La_law_360 (by decide) ?_
                          refine V_iadd X d_La_law_361 ?_
                          refine V_sld X HX d_La_law_362 h (fun h => ?_)
                          refine V_aload_n X 0 d_La_law_363 rfl ?_
                          refine V_iload_n X 3 d_La_law_364 rfl ?_
                          refine V_iconst (v := 2) X d_La_law_365 (by decide) ?_
                          refine V_iadd X d_La_law_366 ?_
                          refine V_sld X HX d_La_law_367 h (fun h => ?_)
                          refine V_cP X h (fun r54 s55 q => C_V (q := 10) X [Value.int (xs (ix (l3 + (1 : Int32)))), Value.int (xs (ix (l3 + (2 : Int32))))] mt_Mo_birds ms_Mo_birds ml_La_55 (k_Mo_birds s53 (xs (ix (l3 + (1 : Int32)))) (xs (ix (l3 + (2 : Int32)))) r54 s55 q) rfl rfl (by omega) (Nat.le_of_ble_eq_true rfl) rfl (by decide) (by decide) (by decide) d_La_law_368) (fun r54 s55 h => ?_)
                          refine V_icmp_eq X 729 d_La_law_371 (by decide) h (fun c56 h => ?_) (fun c56 h => ?_)
                          · skip
                            refine V_iinc X 3 (l3 + (5 : Int32)) [(3, Value.int (l3 + (5 : Int32))), (0, Value.ref b), (1, Value.ref (ad 0)), (2, Value.ref (ad 91))] d_La_law_729 rfl (by first | rfl | decide) (by decide) rfl ?_
                            refine V_goto X 18 d_La_law_732 (by decide) ?_
                            refine V_sub (lv' := [(0, Value.ref b), (1, Value.ref (ad 0)), (2, Value.ref (ad 91)), (3, Value.int (l3 + (5 : Int32)))]) [1, 2, 3, 0] rfl ?_
                            exact ih (l3 + (5 : Int32)) s55 h
                          · skip
                            refine V_iconst (v := 0) X d_La_law_374 (by decide) ?_
                            have h9 := wp_some h
                            exact hQ _ _ h9 (fun _ => by decide) _ _ d_La_law_375
                        · skip
                          rcases wp_case h with ⟨c57, h⟩ | ⟨c57, h⟩
                          · skip
                            refine V_tableIn X 344 376 d_La_law_32 (10) (by rw [c57]; decide) (by decide) (by decide) rfl (by decide) ?_
                            refine V_aload_n X 1 d_La_law_376 rfl ?_
                            refine V_aload_n X 0 d_La_law_377 rfl ?_
                            refine V_iload_n X 3 d_La_law_378 rfl ?_
                            refine V_iconst (v := 1) X d_La_law_379 (by decide) ?_
                            refine V_iadd X d_La_law_380 ?_
                            refine V_sld X HX d_La_law_381 h (fun h => ?_)
                            refine V_aload_n X 0 d_La_law_382 rfl ?_
                            refine V_iload_n X 3 d_La_law_383 rfl ?_
                            refine V_iconst (v := 2) X d_La_law_384 (by decide) ?_
                            refine V_iadd X d_La_law_385 ?_
                            refine V_sld X HX d_La_law_386 h (fun h => ?_)
                            refine V_aload_n X 0 d_La_law_387 rfl ?_
                            refine V_iload_n X 3 d_La_law_388 rfl ?_
                            refine V_iconst (v := 3) X d_La_law_389 (by decide) ?_
                            refine V_iadd X d_La_law_390 ?_
                            refine V_sld X HX d_La_law_391 h (fun h => ?_)
                            refine V_cP X h (fun r58 s59 q => C_V (q := 0) X [Value.int (xs (ix (l3 + (1 : Int32)))), Value.int (xs (ix (l3 + (2 : Int32)))), Value.int (xs (ix (l3 + (3 : Int32))))] mt_Co_plead ms_Co_plead ml_La_56 (k_Co_plead σ (xs (ix (l3 + (1 : Int32)))) (xs (ix (l3 + (2 : Int32)))) (xs (ix (l3 + (3 : Int32)))) r58 s59 q) rfl rfl (by omega) (Nat.le_of_ble_eq_true rfl) rfl (by decide) (by decide) (by decide) d_La_law_392) (fun r58 s59 h => ?_)
                            refine V_aload_n X 2 d_La_law_395 rfl ?_
                            refine V_aload_n X 0 d_La_law_396 rfl ?_
                            refine V_iload_n X 3 d_La_law_397 rfl ?_
                            refine V_iconst (v := 1) X d_La_law_398 (by decide) ?_
                            refine V_iadd X d_La_law_399 ?_
                            refine V_sld X HX d_La_law_400 h (fun h => ?_)
                            refine V_aload_n X 0 d_La_law_401 rfl ?_
                            refine V_iload_n X 3 d_La_law_402 rfl ?_
                            refine V_iconst (v := 2) X d_La_law_403 (by decide) ?_
                            refine V_iadd X d_La_law_404 ?_
                            refine V_sld X HX d_La_law_405 h (fun h => ?_)
                            refine V_aload_n X 0 d_La_law_406 rfl ?_
                            refine V_iload_n X 3 d_La_law_407 rfl ?_
                            refine V_iconst (v := 3) X d_La_law_408 (by decide) ?_
                            refine V_iadd X d_La_law_409 ?_
                            refine V_sld X HX d_La_law_410 h (fun h => ?_)
                            refine V_cP X h (fun r60 s61 q => C_V (q := 10) X [Value.int (xs (ix (l3 + (1 : Int32)))), Value.int (xs (ix (l3 + (2 : Int32)))), Value.int (xs (ix (l3 + (3 : Int32))))] mt_Mo_plead ms_Mo_plead ml_La_60 (k_Mo_plead s59 (xs (ix (l3 + (1 : Int32)))) (xs (ix (l3 + (2 : Int32)))) (xs (ix (l3 + (3 : Int32)))) r60 s61 q) rfl rfl (by omega) (Nat.le_of_ble_eq_true rfl) rfl (by decide) (by decide) (by decide) d_La_law_411) (fun r60 s61 h => ?_)
                            refine V_icmp_eq X 729 d_La_law_414 (by decide) h (fun c62 h => ?_) (fun c62 h => ?_)
                            · skip
                              refine V_iinc X 3 (l3 + (5 : Int32)) [(3, Value.int (l3 + (5 : Int32))), (0, Value.ref b), (1, Value.ref (ad 0)), (2, Value.ref (ad 91))] d_La_law_729 rfl (by first | rfl | decide) (by decide) rfl ?_
                              refine V_goto X 18 d_La_law_732 (by decide) ?_
                              refine V_sub (lv' := [(0, Value.ref b), (1, Value.ref (ad 0)), (2, Value.ref (ad 91)), (3, Value.int (l3 + (5 : Int32)))]) [1, 2, 3, 0] rfl ?_
                              exact ih (l3 + (5 : Int32)) s61 h
                            · skip
                              refine V_iconst (v := 0) X d_La_law_417 (by decide) ?_
                              have h9 := wp_some h
                              exact hQ _ _ h9 (fun _ => by decide) _ _ d_La_law_418
                          · skip
                            rcases wp_case h with ⟨c63, h⟩ | ⟨c63, h⟩
                            · skip
                              refine V_tableIn X 387 419 d_La_law_32 (11) (by rw [c63]; decide) (by decide) (by decide) rfl (by decide) ?_
                              refine V_aload_n X 1 d_La_law_419 rfl ?_
                              refine V_aload_n X 0 d_La_law_420 rfl ?_
                              refine V_iload_n X 3 d_La_law_421 rfl ?_
                              refine V_iconst (v := 1) X d_La_law_422 (by decide) ?_
                              refine V_iadd X d_La_law_423 ?_
                              refine V_sld X HX d_La_law_424 h (fun h => ?_)
                              refine V_cP X h (fun r64 s65 q => C_V (q := 0) X [Value.int (xs (ix (l3 + (1 : Int32))))] mt_Co_walk ms_Co_walk ml_La_61 (k_Co_walk fu σ (xs (ix (l3 + (1 : Int32)))) r64 s65 q) rfl rfl (by omega) (Nat.le_of_ble_eq_true rfl) rfl (by decide) (by decide) (by decide) d_La_law_425) (fun r64 s65 h => ?_)
                              refine V_aload_n X 2 d_La_law_428 rfl ?_
                              refine V_aload_n X 0 d_La_law_429 rfl ?_
                              refine V_iload_n X 3 d_La_law_430 rfl ?_
                              refine V_iconst (v := 1) X d_La_law_431 (by decide) ?_
                              refine V_iadd X d_La_law_432 ?_
                              refine V_sld X HX d_La_law_433 h (fun h => ?_)
                              refine V_cP X h (fun r66 s67 q => C_V (q := 10) X [Value.int (xs (ix (l3 + (1 : Int32))))] mt_Mo_walk ms_Mo_walk ml_La_64 (k_Mo_walk fu s65 (xs (ix (l3 + (1 : Int32)))) r66 s67 q) rfl rfl (by omega) (Nat.le_of_ble_eq_true rfl) rfl (by decide) (by decide) (by decide) d_La_law_434) (fun r66 s67 h => ?_)
                              refine V_icmp_eq X 729 d_La_law_437 (by decide) h (fun c68 h => ?_) (fun c68 h => ?_)
                              · skip
                                refine V_iinc X 3 (l3 + (5 : Int32)) [(3, Value.int (l3 + (5 : Int32))), (0, Value.ref b), (1, Value.ref (ad 0)), (2, Value.ref (ad 91))] d_La_law_729 rfl (by first | rfl | decide) (by decide) rfl ?_
                                refine V_goto X 18 d_La_law_732 (by decide) ?_
                                refine V_sub (lv' := [(0, Value.ref b), (1, Value.ref (ad 0)), (2, Value.ref (ad 91)), (3, Value.int (l3 + (5 : Int32)))]) [1, 2, 3, 0] rfl ?_
                                exact ih (l3 + (5 : Int32)) s67 h
                              · skip
                                refine V_iconst (v := 0) X d_La_law_440 (by decide) ?_
                                have h9 := wp_some h
                                exact hQ _ _ h9 (fun _ => by decide) _ _ d_La_law_441
                            · skip
                              rcases wp_case h with ⟨c69, h⟩ | ⟨c69, h⟩
                              · skip
                                refine V_tableIn X 410 442 d_La_law_32 (12) (by rw [c69]; decide) (by decide) (by decide) rfl (by decide) ?_
                                refine V_aload_n X 1 d_La_law_442 rfl ?_
                                refine V_aload_n X 0 d_La_law_443 rfl ?_
                                refine V_iload_n X 3 d_La_law_444 rfl ?_
                                refine V_iconst (v := 1) X d_La_law_445 (by decide) ?_
                                refine V_iadd X d_La_law_446 ?_
                                refine V_sld X HX d_La_law_447 h (fun h => ?_)
                                refine V_cP X h (fun r70 s71 q => C_V (q := 0) X [Value.int (xs (ix (l3 + (1 : Int32))))] mt_Co_plan ms_Co_plan ml_La_65 (k_Co_plan fu σ (xs (ix (l3 + (1 : Int32)))) r70 s71 q) rfl rfl (by omega) (Nat.le_of_ble_eq_true rfl) rfl (by decide) (by decide) (by decide) d_La_law_448) (fun r70 s71 h => ?_)
                                refine V_aload_n X 2 d_La_law_451 rfl ?_
                                refine V_aload_n X 0 d_La_law_452 rfl ?_
                                refine V_iload_n X 3 d_La_law_453 rfl ?_
                                refine V_iconst (v := 1) X d_La_law_454 (by decide) ?_
                                refine V_iadd X d_La_law_455 ?_
                                refine V_sld X HX d_La_law_456 h (fun h => ?_)
                                refine V_cP X h (fun r72 s73 q => C_V (q := 10) X [Value.int (xs (ix (l3 + (1 : Int32))))] mt_Mo_plan ms_Mo_plan ml_La_68 (k_Mo_plan fu s71 (xs (ix (l3 + (1 : Int32)))) r72 s73 q) rfl rfl (by omega) (Nat.le_of_ble_eq_true rfl) rfl (by decide) (by decide) (by decide) d_La_law_457) (fun r72 s73 h => ?_)
                                refine V_icmp_eq X 729 d_La_law_460 (by decide) h (fun c74 h => ?_) (fun c74 h => ?_)
                                · skip
                                  refine V_iinc X 3 (l3 + (5 : Int32)) [(3, Value.int (l3 + (5 : Int32))), (0, Value.ref b), (1, Value.ref (ad 0)), (2, Value.ref (ad 91))] d_La_law_729 rfl (by first | rfl | decide) (by decide) rfl ?_
                                  refine V_goto X 18 d_La_law_732 (by decide) ?_
                                  refine V_sub (lv' := [(0, Value.ref b), (1, Value.ref (ad 0)), (2, Value.ref (ad 91)), (3, Value.int (l3 + (5 : Int32)))]) [1, 2, 3, 0] rfl ?_
                                  exact ih (l3 + (5 : Int32)) s73 h
                                · skip
                                  refine V_iconst (v := 0) X d_La_law_463 (by decide) ?_
                                  have h9 := wp_some h
                                  exact hQ _ _ h9 (fun _ => by decide) _ _ d_La_law_464
                              · skip
                                rcases wp_case h with ⟨c75, h⟩ | ⟨c75, h⟩
                                · skip
                                  refine V_tableIn X 433 465 d_La_law_32 (13) (by rw [c75]; decide) (by decide) (by decide) rfl (by decide) ?_
                                  refine V_aload_n X 1 d_La_law_465 rfl ?_
                                  refine V_aload_n X 0 d_La_law_466 rfl ?_
                                  refine V_iload_n X 3 d_La_law_467 rfl ?_
                                  refine V_iconst (v := 1) X d_La_law_468 (by decide) ?_
                                  refine V_iadd X d_La_law_469 ?_
                                  refine V_sld X HX d_La_law_470 h (fun h => ?_)
                                  refine V_aload_n X 0 d_La_law_471 rfl ?_
                                  refine V_iload_n X 3 d_La_law_472 rfl ?_
                                  refine V_iconst (v := 2) X d_La_law_473 (by decide) ?_
                                  refine V_iadd X d_La_law_474 ?_
                                  refine V_sld X HX d_La_law_475 h (fun h => ?_)
                                  refine V_cP X h (fun r76 s77 q => C_V (q := 0) X [Value.int (xs (ix (l3 + (1 : Int32)))), Value.int (xs (ix (l3 + (2 : Int32))))] mt_Co_game ms_Co_game ml_La_69 (k_Co_game fu σ (xs (ix (l3 + (1 : Int32)))) (xs (ix (l3 + (2 : Int32)))) r76 s77 q) rfl rfl (by omega) (Nat.le_of_ble_eq_true rfl) rfl (by decide) (by decide) (by decide) d_La_law_476) (fun r76 s77 h => ?_)
                                  refine V_aload_n X 2 d_La_law_479 rfl ?_
                                  refine V_aload_n X 0 d_La_law_480 rfl ?_
                                  refine V_iload_n X 3 d_La_law_481 rfl ?_
                                  refine V_iconst (v := 1) X d_La_law_482 (by decide) ?_
                                  refine V_iadd X d_La_law_483 ?_
                                  refine V_sld X HX d_La_law_484 h (fun h => ?_)
                                  refine V_aload_n X 0 d_La_law_485 rfl ?_
                                  refine V_iload_n X 3 d_La_law_486 rfl ?_
                                  refine V_iconst (v := 2) X d_La_law_487 (by decide) ?_
                                  refine V_iadd X d_La_law_488 ?_
                                  refine V_sld X HX d_La_law_489 h (fun h => ?_)
                                  refine V_cP X h (fun r78 s79 q => C_V (q := 10) X [Value.int (xs (ix (l3 + (1 : Int32)))), Value.int (xs (ix (l3 + (2 : Int32))))] mt_Mo_game ms_Mo_game ml_La_72 (k_Mo_game fu s77 (xs (ix (l3 + (1 : Int32)))) (xs (ix (l3 + (2 : Int32)))) r78 s79 q) rfl rfl (by omega) (Nat.le_of_ble_eq_true rfl) rfl (by decide) (by decide) (by decide) d_La_law_490) (fun r78 s79 h => ?_)
                                  refine V_icmp_eq X 729 d_La_law_493 (by decide) h (fun c80 h => ?_) (fun c80 h => ?_)
                                  · skip
                                    refine V_iinc X 3 (l3 + (5 : Int32)) [(3, Value.int (l3 + (5 : Int32))), (0, Value.ref b), (1, Value.ref (ad 0)), (2, Value.ref (ad 91))] d_La_law_729 rfl (by first | rfl | decide) (by decide) rfl ?_
                                    refine V_goto X 18 d_La_law_732 (by decide) ?_
                                    refine V_sub (lv' := [(0, Value.ref b), (1, Value.ref (ad 0)), (2, Value.ref (ad 91)), (3, Value.int (l3 + (5 : Int32)))]) [1, 2, 3, 0] rfl ?_
                                    exact ih (l3 + (5 : Int32)) s79 h
                                  · skip
                                    refine V_iconst (v := 0) X d_La_law_496 (by decide) ?_
                                    have h9 := wp_some h
                                    exact hQ _ _ h9 (fun _ => by decide) _ _ d_La_law_497
                                · skip
                                  rcases wp_case h with ⟨c81, h⟩ | ⟨c81, h⟩
                                  · skip
                                    refine V_tableIn X 466 498 d_La_law_32 (14) (by rw [c81]; decide) (by decide) (by decide) rfl (by decide) ?_
                                    refine V_aload_n X 1 d_La_law_498 rfl ?_
                                    refine V_aload_n X 0 d_La_law_499 rfl ?_
                                    refine V_iload_n X 3 d_La_law_500 rfl ?_
                                    refine V_iconst (v := 1) X d_La_law_501 (by decide) ?_
                                    refine V_iadd X d_La_law_502 ?_
                                    refine V_sld X HX d_La_law_503 h (fun h => ?_)
                                    refine V_aload_n X 0 d_La_law_504 rfl ?_
                                    refine V_iload_n X 3 d_La_law_505 rfl ?_
                                    refine V_iconst (v := 2) X d_La_law_506 (by decide) ?_
                                    refine V_iadd X d_La_law_507 ?_
                                    refine V_sld X HX d_La_law_508 h (fun h => ?_)
                                    refine V_aload_n X 0 d_La_law_509 rfl ?_
                                    refine V_iload_n X 3 d_La_law_510 rfl ?_
                                    refine V_iconst (v := 3) X d_La_law_511 (by decide) ?_
                                    refine V_iadd X d_La_law_512 ?_
                                    refine V_sld X HX d_La_law_513 h (fun h => ?_)
                                    refine V_aload_n X 0 d_La_law_514 rfl ?_
                                    refine V_iload_n X 3 d_La_law_515 rfl ?_
                                    refine V_iconst (v := 4) X d_La_law_516 (by decide) ?_
                                    refine V_iadd X d_La_law_517 ?_
                                    refine V_sld X HX d_La_law_518 h (fun h => ?_)
                                    refine V_cI X h (fun r82 q => C_V (q := 0) X [Value.int (xs (ix (l3 + (1 : Int32)))), Value.int (xs (ix (l3 + (2 : Int32)))), Value.int (xs (ix (l3 + (3 : Int32)))), Value.int (xs (ix (l3 + (4 : Int32))))] mt_Co_odds ms_Co_odds ml_La_73 (k_Co_odds fu σ (xs (ix (l3 + (1 : Int32)))) (xs (ix (l3 + (2 : Int32)))) (xs (ix (l3 + (3 : Int32)))) (xs (ix (l3 + (4 : Int32)))) r82 q) rfl rfl (by omega) (Nat.le_of_ble_eq_true rfl) rfl (by decide) (by decide) (by decide) d_La_law_519) (fun r82 h => ?_)
                                    refine V_aload_n X 2 d_La_law_522 rfl ?_
                                    refine V_aload_n X 0 d_La_law_523 rfl ?_
                                    refine V_iload_n X 3 d_La_law_524 rfl ?_
                                    refine V_iconst (v := 1) X d_La_law_525 (by decide) ?_
                                    refine V_iadd X d_La_law_526 ?_
                                    refine V_sld X HX d_La_law_527 h (fun h => ?_)
                                    refine V_aload_n X 0 d_La_law_528 rfl ?_
                                    refine V_iload_n X 3 d_La_law_529 rfl ?_
                                    refine V_iconst (v := 2) X d_La_law_530 (by decide) ?_
                                    refine V_iadd X d_La_law_531 ?_
                                    refine V_sld X HX d_La_law_532 h (fun h => ?_)
                                    refine V_aload_n X 0 d_La_law_533 rfl ?_
                                    refine V_iload_n X 3 d_La_law_534 rfl ?_
                                    refine V_iconst (v := 3) X d_La_law_535 (by decide) ?_
                                    refine V_iadd X d_La_law_536 ?_
                                    refine V_sld X HX d_La_law_537 h (fun h => ?_)
                                    refine V_aload_n X 0 d_La_law_538 rfl ?_
                                    refine V_iload_n X 3 d_La_law_539 rfl ?_
                                    refine V_iconst (v := 4) X d_La_law_540 (by decide) ?_
                                    refine V_iadd X d_La_law_541 ?_
                                    refine V_sld X HX d_La_law_542 h (fun h => ?_)
                                    refine V_cP X h (fun r83 s84 q => C_V (q := 10) X [Value.int (xs (ix (l3 + (1 : Int32)))), Value.int (xs (ix (l3 + (2 : Int32)))), Value.int (xs (ix (l3 + (3 : Int32)))), Value.int (xs (ix (l3 + (4 : Int32))))] mt_Mo_odds ms_Mo_odds ml_La_77 (k_Mo_odds fu σ (xs (ix (l3 + (1 : Int32)))) (xs (ix (l3 + (2 : Int32)))) (xs (ix (l3 + (3 : Int32)))) (xs (ix (l3 + (4 : Int32)))) r83 s84 q) rfl rfl (by omega) (Nat.le_of_ble_eq_true rfl) rfl (by decide) (by decide) (by decide) d_La_law_543) (fun r83 s84 h => ?_)
                                    refine V_icmp_eq X 729 d_La_law_546 (by decide) h (fun c85 h => ?_) (fun c85 h => ?_)
                                    · skip
                                      refine V_iinc X 3 (l3 + (5 : Int32)) [(3, Value.int (l3 + (5 : Int32))), (0, Value.ref b), (1, Value.ref (ad 0)), (2, Value.ref (ad 91))] d_La_law_729 rfl (by first | rfl | decide) (by decide) rfl ?_
                                      refine V_goto X 18 d_La_law_732 (by decide) ?_
                                      refine V_sub (lv' := [(0, Value.ref b), (1, Value.ref (ad 0)), (2, Value.ref (ad 91)), (3, Value.int (l3 + (5 : Int32)))]) [1, 2, 3, 0] rfl ?_
                                      exact ih (l3 + (5 : Int32)) s84 h
                                    · skip
                                      refine V_iconst (v := 0) X d_La_law_549 (by decide) ?_
                                      have h9 := wp_some h
                                      exact hQ _ _ h9 (fun _ => by decide) _ _ d_La_law_550
                                  · skip
                                    rcases wp_case h with ⟨c86, h⟩ | ⟨c86, h⟩
                                    · skip
                                      refine V_tableIn X 519 551 d_La_law_32 (15) (by rw [c86]; decide) (by decide) (by decide) rfl (by decide) ?_
                                      refine V_aload_n X 1 d_La_law_551 rfl ?_
                                      refine V_aload_n X 0 d_La_law_552 rfl ?_
                                      refine V_iload_n X 3 d_La_law_553 rfl ?_
                                      refine V_iconst (v := 1) X d_La_law_554 (by decide) ?_
                                      refine V_iadd X d_La_law_555 ?_
                                      refine V_sld X HX d_La_law_556 h (fun h => ?_)
                                      refine V_aload_n X 0 d_La_law_557 rfl ?_
                                      refine V_iload_n X 3 d_La_law_558 rfl ?_
                                      refine V_iconst (v := 2) X d_La_law_559 (by decide) ?_
                                      refine V_iadd X d_La_law_560 ?_
                                      refine V_sld X HX d_La_law_561 h (fun h => ?_)
                                      refine V_aload_n X 0 d_La_law_562 rfl ?_
                                      refine V_iload_n X 3 d_La_law_563 rfl ?_
                                      refine V_iconst (v := 3) X d_La_law_564 (by decide) ?_
                                      refine V_iadd X d_La_law_565 ?_
                                      refine V_sld X HX d_La_law_566 h (fun h => ?_)
                                      refine V_if_eq X 574 d_La_law_567 (by decide) h (fun c87 h => ?_) (fun c87 h => ?_)
                                      · skip
                                        refine V_iconst (v := 0) X d_La_law_574 (by decide) ?_
                                        refine V_cP X h (fun r88 s89 q => C_V (q := 0) X [Value.int (xs (ix (l3 + (1 : Int32)))), Value.int (xs (ix (l3 + (2 : Int32)))), Value.int (0 : Int32)] mt_Co_see ms_Co_see ml_La_78 (k_Co_see σ (xs (ix (l3 + (1 : Int32)))) (xs (ix (l3 + (2 : Int32)))) (0 : Int32) r88 s89 q) rfl rfl (by omega) (Nat.le_of_ble_eq_true rfl) rfl (by decide) (by decide) (by decide) d_La_law_575) (fun r88 s89 h => ?_)
                                        refine V_aload_n X 2 d_La_law_578 rfl ?_
                                        refine V_aload_n X 0 d_La_law_579 rfl ?_
                                        refine V_iload_n X 3 d_La_law_580 rfl ?_
                                        refine V_iconst (v := 1) X d_La_law_581 (by decide) ?_
                                        refine V_iadd X d_La_law_582 ?_
                                        refine V_sld X HX d_La_law_583 h (fun h => ?_)
                                        refine V_aload_n X 0 d_La_law_584 rfl ?_
                                        refine V_iload_n X 3 d_La_law_585 rfl ?_
                                        refine V_iconst (v := 2) X d_La_law_586 (by decide) ?_
                                        refine V_iadd X d_La_law_587 ?_
                                        refine V_sld X HX d_La_law_588 h (fun h => ?_)
                                        refine V_aload_n X 0 d_La_law_589 rfl ?_
                                        refine V_iload_n X 3 d_La_law_590 rfl ?_
                                        refine V_iconst (v := 3) X d_La_law_591 (by decide) ?_
                                        refine V_iadd X d_La_law_592 ?_
                                        refine V_sld X HX d_La_law_593 h (fun h => ?_)
                                        refine V_if_eq X 601 d_La_law_594 (by decide) h (fun c90 h => ?_) (fun c90 h => ?_)
                                        · skip
                                          refine V_iconst (v := 0) X d_La_law_601 (by decide) ?_
                                          refine V_cP X h (fun r91 s92 q => C_V (q := 10) X [Value.int (xs (ix (l3 + (1 : Int32)))), Value.int (xs (ix (l3 + (2 : Int32)))), Value.int (0 : Int32)] mt_Mo_see ms_Mo_see ml_La_82 (k_Mo_see s89 (xs (ix (l3 + (1 : Int32)))) (xs (ix (l3 + (2 : Int32)))) (0 : Int32) r91 s92 q) rfl rfl (by omega) (Nat.le_of_ble_eq_true rfl) rfl (by decide) (by decide) (by decide) d_La_law_602) (fun r91 s92 h => ?_)
                                          refine V_icmp_eq X 729 d_La_law_605 (by decide) h (fun c93 h => ?_) (fun c93 h => ?_)
                                          · skip
                                            refine V_iinc X 3 (l3 + (5 : Int32)) [(3, Value.int (l3 + (5 : Int32))), (0, Value.ref b), (1, Value.ref (ad 0)), (2, Value.ref (ad 91))] d_La_law_729 rfl (by first | rfl | decide) (by decide) rfl ?_
                                            refine V_goto X 18 d_La_law_732 (by decide) ?_
                                            refine V_sub (lv' := [(0, Value.ref b), (1, Value.ref (ad 0)), (2, Value.ref (ad 91)), (3, Value.int (l3 + (5 : Int32)))]) [1, 2, 3, 0] rfl ?_
                                            exact ih (l3 + (5 : Int32)) s92 h
                                          · skip
                                            refine V_iconst (v := 0) X d_La_law_608 (by decide) ?_
                                            have h9 := wp_some h
                                            exact hQ _ _ h9 (fun _ => by decide) _ _ d_La_law_609
                                        · skip
                                          refine V_iconst (v := 1) X d_La_law_597 (by decide) ?_
                                          refine V_goto X 602 d_La_law_598 (by decide) ?_
                                          refine V_cP X h (fun r94 s95 q => C_V (q := 10) X [Value.int (xs (ix (l3 + (1 : Int32)))), Value.int (xs (ix (l3 + (2 : Int32)))), Value.int (1 : Int32)] mt_Mo_see ms_Mo_see ml_La_82 (k_Mo_see s89 (xs (ix (l3 + (1 : Int32)))) (xs (ix (l3 + (2 : Int32)))) (1 : Int32) r94 s95 q) rfl rfl (by omega) (Nat.le_of_ble_eq_true rfl) rfl (by decide) (by decide) (by decide) d_La_law_602) (fun r94 s95 h => ?_)
                                          refine V_icmp_eq X 729 d_La_law_605 (by decide) h (fun c96 h => ?_) (fun c96 h => ?_)
                                          · skip
                                            refine V_iinc X 3 (l3 + (5 : Int32)) [(3, Value.int (l3 + (5 : Int32))), (0, Value.ref b), (1, Value.ref (ad 0)), (2, Value.ref (ad 91))] d_La_law_729 rfl (by first | rfl | decide) (by decide) rfl ?_
                                            refine V_goto X 18 d_La_law_732 (by decide) ?_
                                            refine V_sub (lv' := [(0, Value.ref b), (1, Value.ref (ad 0)), (2, Value.ref (ad 91)), (3, Value.int (l3 + (5 : Int32)))]) [1, 2, 3, 0] rfl ?_
                                            exact ih (l3 + (5 : Int32)) s95 h
                                          · skip
                                            refine V_iconst (v := 0) X d_La_law_608 (by decide) ?_
                                            have h9 := wp_some h
                                            exact hQ _ _ h9 (fun _ => by decide) _ _ d_La_law_609
                                      · skip
                                        refine V_iconst (v := 1) X d_La_law_570 (by decide) ?_
                                        refine V_goto X 575 d_La_law_571 (by decide) ?_
                                        refine V_cP X h (fun r97 s98 q => C_V (q := 0) X [Value.int (xs (ix (l3 + (1 : Int32)))), Value.int (xs (ix (l3 + (2 : Int32)))), Value.int (1 : Int32)] mt_Co_see ms_Co_see ml_La_78 (k_Co_see σ (xs (ix (l3 + (1 : Int32)))) (xs (ix (l3 + (2 : Int32)))) (1 : Int32) r97 s98 q) rfl rfl (by omega) (Nat.le_of_ble_eq_true rfl) rfl (by decide) (by decide) (by decide) d_La_law_575) (fun r97 s98 h => ?_)
                                        refine V_aload_n X 2 d_La_law_578 rfl ?_
                                        refine V_aload_n X 0 d_La_law_579 rfl ?_
                                        refine V_iload_n X 3 d_La_law_580 rfl ?_
                                        refine V_iconst (v := 1) X d_La_law_581 (by decide) ?_
                                        refine V_iadd X d_La_law_582 ?_
                                        refine V_sld X HX d_La_law_583 h (fun h => ?_)
                                        refine V_aload_n X 0 d_La_law_584 rfl ?_
                                        refine V_iload_n X 3 d_La_law_585 rfl ?_
                                        refine V_iconst (v := 2) X d_La_law_586 (by decide) ?_
                                        refine V_iadd X d_La_law_587 ?_
                                        refine V_sld X HX d_La_law_588 h (fun h => ?_)
                                        refine V_aload_n X 0 d_La_law_589 rfl ?_
                                        refine V_iload_n X 3 d_La_law_590 rfl ?_
                                        refine V_iconst (v := 3) X d_La_law_591 (by decide) ?_
                                        refine V_iadd X d_La_law_592 ?_
                                        refine V_sld X HX d_La_law_593 h (fun h => ?_)
                                        refine V_if_eq X 601 d_La_law_594 (by decide) h (fun c99 h => ?_) (fun c99 h => ?_)
                                        · skip
                                          refine V_iconst (v := 0) X d_La_law_601 (by decide) ?_
                                          refine V_cP X h (fun r100 s101 q => C_V (q := 10) X [Value.int (xs (ix (l3 + (1 : Int32)))), Value.int (xs (ix (l3 + (2 : Int32)))), Value.int (0 : Int32)] mt_Mo_see ms_Mo_see ml_La_82 (k_Mo_see s98 (xs (ix (l3 + (1 : Int32)))) (xs (ix (l3 + (2 : Int32)))) (0 : Int32) r100 s101 q) rfl rfl (by omega) (Nat.le_of_ble_eq_true rfl) rfl (by decide) (by decide) (by decide) d_La_law_602) (fun r100 s101 h => ?_)
                                          refine V_icmp_eq X 729 d_La_law_605 (by decide) h (fun c102 h => ?_) (fun c102 h => ?_)
                                          · skip
                                            refine V_iinc X 3 (l3 + (5 : Int32)) [(3, Value.int (l3 + (5 : Int32))), (0, Value.ref b), (1, Value.ref (ad 0)), (2, Value.ref (ad 91))] d_La_law_729 rfl (by first | rfl | decide) (by decide) rfl ?_
                                            refine V_goto X 18 d_La_law_732 (by decide) ?_
                                            refine V_sub (lv' := [(0, Value.ref b), (1, Value.ref (ad 0)), (2, Value.ref (ad 91)), (3, Value.int (l3 + (5 : Int32)))]) [1, 2, 3, 0] rfl ?_
                                            exact ih (l3 + (5 : Int32)) s101 h
                                          · skip
                                            refine V_iconst (v := 0) X d_La_law_608 (by decide) ?_
                                            have h9 := wp_some h
                                            exact hQ _ _ h9 (fun _ => by decide) _ _ d_La_law_609
                                        · skip
                                          refine V_iconst (v := 1) X d_La_law_597 (by decide) ?_
                                          refine V_goto X 602 d_La_law_598 (by decide) ?_
                                          refine V_cP X h (fun r103 s104 q => C_V (q := 10) X [Value.int (xs (ix (l3 + (1 : Int32)))), Value.int (xs (ix (l3 + (2 : Int32)))), Value.int (1 : Int32)] mt_Mo_see ms_Mo_see ml_La_82 (k_Mo_see s98 (xs (ix (l3 + (1 : Int32)))) (xs (ix (l3 + (2 : Int32)))) (1 : Int32) r103 s104 q) rfl rfl (by omega) (Nat.le_of_ble_eq_true rfl) rfl (by decide) (by decide) (by decide) d_La_law_602) (fun r103 s104 h => ?_)
                                          refine V_icmp_eq X 729 d_La_law_605 (by decide) h (fun c105 h => ?_) (fun c105 h => ?_)
                                          · skip
                                            refine V_iinc X 3 (l3 + (5 : Int32)) [(3, Value.int (l3 + (5 : Int32))), (0, Value.ref b), (1, Value.ref (ad 0)), (2, Value.ref (ad 91))] d_La_law_729 rfl (by first | rfl | decide) (by decide) rfl ?_
                                            refine V_goto X 18 d_La_law_732 (by decide) ?_
                                            refine V_sub (lv' := [(0, Value.ref b), (1, Value.ref (ad 0)), (2, Value.ref (ad 91)), (3, Value.int (l3 + (5 : Int32)))]) [1, 2, 3, 0] rfl ?_
                                            exact ih (l3 + (5 : Int32)) s104 h
                                          · skip
                                            refine V_iconst (v := 0) X d_La_law_608 (by decide) ?_
                                            have h9 := wp_some h
                                            exact hQ _ _ h9 (fun _ => by decide) _ _ d_La_law_609
                                    · skip
                                      rcases wp_case h with ⟨c106, h⟩ | ⟨c106, h⟩
                                      · skip
                                        refine V_tableIn X 578 610 d_La_law_32 (16) (by rw [c106]; decide) (by decide) (by decide) rfl (by decide) ?_
                                        refine V_aload_n X 1 d_La_law_610 rfl ?_
                                        refine V_cP X h (fun r107 s108 q => C_V (q := 0) X [] mt_Co_forget ms_Co_forget ml_La_83 (k_Co_forget σ r107 s108 q) rfl rfl (by omega) (Nat.le_of_ble_eq_true rfl) rfl (by decide) (by decide) (by decide) d_La_law_611) (fun r107 s108 h => ?_)
                                        refine V_aload_n X 2 d_La_law_614 rfl ?_
                                        refine V_cP X h (fun r109 s110 q => C_V (q := 10) X [] mt_Mo_forget ms_Mo_forget ml_La_86 (k_Mo_forget s108 r109 s110 q) rfl rfl (by omega) (Nat.le_of_ble_eq_true rfl) rfl (by decide) (by decide) (by decide) d_La_law_615) (fun r109 s110 h => ?_)
                                        refine V_icmp_eq X 729 d_La_law_618 (by decide) h (fun c111 h => ?_) (fun c111 h => ?_)
                                        · skip
                                          refine V_iinc X 3 (l3 + (5 : Int32)) [(3, Value.int (l3 + (5 : Int32))), (0, Value.ref b), (1, Value.ref (ad 0)), (2, Value.ref (ad 91))] d_La_law_729 rfl (by first | rfl | decide) (by decide) rfl ?_
                                          refine V_goto X 18 d_La_law_732 (by decide) ?_
                                          refine V_sub (lv' := [(0, Value.ref b), (1, Value.ref (ad 0)), (2, Value.ref (ad 91)), (3, Value.int (l3 + (5 : Int32)))]) [1, 2, 3, 0] rfl ?_
                                          exact ih (l3 + (5 : Int32)) s110 h
                                        · skip
                                          refine V_iconst (v := 0) X d_La_law_621 (by decide) ?_
                                          have h9 := wp_some h
                                          exact hQ _ _ h9 (fun _ => by decide) _ _ d_La_law_622
                                      · skip
                                        rcases wp_case h with ⟨c112, h⟩ | ⟨c112, h⟩
                                        · skip
                                          refine V_tableIn X 591 623 d_La_law_32 (17) (by rw [c112]; decide) (by decide) (by decide) rfl (by decide) ?_
                                          refine V_aload_n X 1 d_La_law_623 rfl ?_
                                          refine V_aload_n X 0 d_La_law_624 rfl ?_
                                          refine V_iload_n X 3 d_La_law_625 rfl ?_
                                          refine V_iconst (v := 1) X d_La_law_626 (by decide) ?_
                                          refine V_iadd X d_La_law_627 ?_
                                          refine V_sld X HX d_La_law_628 h (fun h => ?_)
                                          refine V_aload_n X 0 d_La_law_629 rfl ?_
                                          refine V_iload_n X 3 d_La_law_630 rfl ?_
                                          refine V_iconst (v := 2) X d_La_law_631 (by decide) ?_
                                          refine V_iadd X d_La_law_632 ?_
                                          refine V_sld X HX d_La_law_633 h (fun h => ?_)
                                          refine V_aload_n X 0 d_La_law_634 rfl ?_
                                          refine V_iload_n X 3 d_La_law_635 rfl ?_
                                          refine V_iconst (v := 3) X d_La_law_636 (by decide) ?_
                                          refine V_iadd X d_La_law_637 ?_
                                          refine V_sld X HX d_La_law_638 h (fun h => ?_)
                                          refine V_cP X h (fun r113 s114 q => C_V (q := 0) X [Value.int (xs (ix (l3 + (1 : Int32)))), Value.int (xs (ix (l3 + (2 : Int32)))), Value.int (xs (ix (l3 + (3 : Int32))))] mt_Co_centuries ms_Co_centuries ml_La_87 (k_Co_centuries fu σ (xs (ix (l3 + (1 : Int32)))) (xs (ix (l3 + (2 : Int32)))) (xs (ix (l3 + (3 : Int32)))) r113 s114 q) rfl rfl (by omega) (Nat.le_of_ble_eq_true rfl) rfl (by decide) (by decide) (by decide) d_La_law_639) (fun r113 s114 h => ?_)
                                          refine V_aload_n X 2 d_La_law_642 rfl ?_
                                          refine V_aload_n X 0 d_La_law_643 rfl ?_
                                          refine V_iload_n X 3 d_La_law_644 rfl ?_
                                          refine V_iconst (v := 1) X d_La_law_645 (by decide) ?_
                                          refine V_iadd X d_La_law_646 ?_
                                          refine V_sld X HX d_La_law_647 h (fun h => ?_)
                                          refine V_aload_n X 0 d_La_law_648 rfl ?_
                                          refine V_iload_n X 3 d_La_law_649 rfl ?_
                                          refine V_iconst (v := 2) X d_La_law_650 (by decide) ?_
                                          refine V_iadd X d_La_law_651 ?_
                                          refine V_sld X HX d_La_law_652 h (fun h => ?_)
                                          refine V_aload_n X 0 d_La_law_653 rfl ?_
                                          refine V_iload_n X 3 d_La_law_654 rfl ?_
                                          refine V_iconst (v := 3) X d_La_law_655 (by decide) ?_
                                          refine V_iadd X d_La_law_656 ?_
                                          refine V_sld X HX d_La_law_657 h (fun h => ?_)
                                          refine V_cP X h (fun r115 s116 q => C_V (q := 10) X [Value.int (xs (ix (l3 + (1 : Int32)))), Value.int (xs (ix (l3 + (2 : Int32)))), Value.int (xs (ix (l3 + (3 : Int32))))] mt_Mo_centuries ms_Mo_centuries ml_La_90 (k_Mo_centuries fu s114 (xs (ix (l3 + (1 : Int32)))) (xs (ix (l3 + (2 : Int32)))) (xs (ix (l3 + (3 : Int32)))) r115 s116 q) rfl rfl (by omega) (Nat.le_of_ble_eq_true rfl) rfl (by decide) (by decide) (by decide) d_La_law_658) (fun r115 s116 h => ?_)
                                          refine V_icmp_eq X 729 d_La_law_661 (by decide) h (fun c117 h => ?_) (fun c117 h => ?_)
                                          · skip
                                            refine V_iinc X 3 (l3 + (5 : Int32)) [(3, Value.int (l3 + (5 : Int32))), (0, Value.ref b), (1, Value.ref (ad 0)), (2, Value.ref (ad 91))] d_La_law_729 rfl (by first | rfl | decide) (by decide) rfl ?_
                                            refine V_goto X 18 d_La_law_732 (by decide) ?_
                                            refine V_sub (lv' := [(0, Value.ref b), (1, Value.ref (ad 0)), (2, Value.ref (ad 91)), (3, Value.int (l3 + (5 : Int32)))]) [1, 2, 3, 0] rfl ?_
                                            exact ih (l3 + (5 : Int32)) s116 h
                                          · skip
                                            refine V_iconst (v := 0) X d_La_law_664 (by decide) ?_
                                            have h9 := wp_some h
                                            exact hQ _ _ h9 (fun _ => by decide) _ _ d_La_law_665
                                        · skip
                                          rcases wp_case h with ⟨c118, h⟩ | ⟨c118, h⟩
                                          · skip
                                            refine V_tableIn X 634 666 d_La_law_32 (18) (by rw [c118]; decide) (by decide) (by decide) rfl (by decide) ?_
                                            refine V_aload_n X 1 d_La_law_666 rfl ?_
                                            refine V_cP X h (fun r119 s120 q => C_V (q := 0) X [] mt_Co_image ms_Co_image ml_La_91 (k_Co_image fu σ r119 s120 q) rfl rfl (by omega) (Nat.le_of_ble_eq_true rfl) rfl (by decide) (by decide) (by decide) d_La_law_667) (fun r119 s120 h => ?_)
                                            refine V_aload_n X 2 d_La_law_670 rfl ?_
                                            refine V_cP X h (fun r121 s122 q => C_V (q := 10) X [] mt_Mo_image ms_Mo_image ml_La_94 (k_Mo_image fu s120 r121 s122 q) rfl rfl (by omega) (Nat.le_of_ble_eq_true rfl) rfl (by decide) (by decide) (by decide) d_La_law_671) (fun r121 s122 h => ?_)
                                            refine V_icmp_eq X 729 d_La_law_674 (by decide) h (fun c123 h => ?_) (fun c123 h => ?_)
                                            · skip
                                              refine V_iinc X 3 (l3 + (5 : Int32)) [(3, Value.int (l3 + (5 : Int32))), (0, Value.ref b), (1, Value.ref (ad 0)), (2, Value.ref (ad 91))] d_La_law_729 rfl (by first | rfl | decide) (by decide) rfl ?_
                                              refine V_goto X 18 d_La_law_732 (by decide) ?_
                                              refine V_sub (lv' := [(0, Value.ref b), (1, Value.ref (ad 0)), (2, Value.ref (ad 91)), (3, Value.int (l3 + (5 : Int32)))]) [1, 2, 3, 0] rfl ?_
                                              exact ih (l3 + (5 : Int32)) s122 h
                                            · skip
                                              refine V_iconst (v := 0) X d_La_law_677 (by decide) ?_
                                              have h9 := wp_some h
                                              exact hQ _ _ h9 (fun _ => by decide) _ _ d_La_law_678
                                          · skip
                                            rcases wp_case h with ⟨c124, h⟩ | ⟨c124, h⟩
                                            · skip
                                              refine V_tableIn X 647 679 d_La_law_32 (19) (by rw [c124]; decide) (by decide) (by decide) rfl (by decide) ?_
                                              refine V_aload_n X 1 d_La_law_679 rfl ?_
                                              refine V_cP X h (fun r125 s126 q => C_V (q := 0) X [] mt_Co_restore ms_Co_restore ml_La_95 (k_Co_restore fu σ r125 s126 q) rfl rfl (by omega) (Nat.le_of_ble_eq_true rfl) rfl (by decide) (by decide) (by decide) d_La_law_680) (fun r125 s126 h => ?_)
                                              refine V_aload_n X 2 d_La_law_683 rfl ?_
                                              refine V_cP X h (fun r127 s128 q => C_V (q := 10) X [] mt_Mo_restore ms_Mo_restore ml_La_98 (k_Mo_restore fu s126 r127 s128 q) rfl rfl (by omega) (Nat.le_of_ble_eq_true rfl) rfl (by decide) (by decide) (by decide) d_La_law_684) (fun r127 s128 h => ?_)
                                              refine V_icmp_eq X 729 d_La_law_687 (by decide) h (fun c129 h => ?_) (fun c129 h => ?_)
                                              · skip
                                                refine V_iinc X 3 (l3 + (5 : Int32)) [(3, Value.int (l3 + (5 : Int32))), (0, Value.ref b), (1, Value.ref (ad 0)), (2, Value.ref (ad 91))] d_La_law_729 rfl (by first | rfl | decide) (by decide) rfl ?_
                                                refine V_goto X 18 d_La_law_732 (by decide) ?_
                                                refine V_sub (lv' := [(0, Value.ref b), (1, Value.ref (ad 0)), (2, Value.ref (ad 91)), (3, Value.int (l3 + (5 : Int32)))]) [1, 2, 3, 0] rfl ?_
                                                exact ih (l3 + (5 : Int32)) s128 h
                                              · skip
                                                refine V_iconst (v := 0) X d_La_law_690 (by decide) ?_
                                                have h9 := wp_some h
                                                exact hQ _ _ h9 (fun _ => by decide) _ _ d_La_law_691
                                            · skip
                                              rcases wp_case h with ⟨c130, h⟩ | ⟨c130, h⟩
                                              · skip
                                                refine V_tableIn X 660 692 d_La_law_32 (20) (by rw [c130]; decide) (by decide) (by decide) rfl (by decide) ?_
                                                refine V_aload_n X 1 d_La_law_692 rfl ?_
                                                refine V_aload_n X 0 d_La_law_693 rfl ?_
                                                refine V_iload_n X 3 d_La_law_694 rfl ?_
                                                refine V_iconst (v := 1) X d_La_law_695 (by decide) ?_
                                                refine V_iadd X d_La_law_696 ?_
                                                refine V_sld X HX d_La_law_697 h (fun h => ?_)
                                                refine V_cI X h (fun r131 q => C_V (q := 0) X [Value.int (xs (ix (l3 + (1 : Int32))))] mt_Co_count ms_Co_count ml_La_99 (k_Co_count fu σ (xs (ix (l3 + (1 : Int32)))) r131 q) rfl rfl (by omega) (Nat.le_of_ble_eq_true rfl) rfl (by decide) (by decide) (by decide) d_La_law_698) (fun r131 h => ?_)
                                                refine V_aload_n X 2 d_La_law_701 rfl ?_
                                                refine V_aload_n X 0 d_La_law_702 rfl ?_
                                                refine V_iload_n X 3 d_La_law_703 rfl ?_
                                                refine V_iconst (v := 1) X d_La_law_704 (by decide) ?_
                                                refine V_iadd X d_La_law_705 ?_
                                                refine V_sld X HX d_La_law_706 h (fun h => ?_)
                                                refine V_cI X h (fun r132 q => C_V (q := 10) X [Value.int (xs (ix (l3 + (1 : Int32))))] mt_Mo_count ms_Mo_count ml_La_102 (k_Mo_count fu σ (xs (ix (l3 + (1 : Int32)))) r132 q) rfl rfl (by omega) (Nat.le_of_ble_eq_true rfl) rfl (by decide) (by decide) (by decide) d_La_law_707) (fun r132 h => ?_)
                                                refine V_icmp_eq X 729 d_La_law_710 (by decide) h (fun c133 h => ?_) (fun c133 h => ?_)
                                                · skip
                                                  refine V_iinc X 3 (l3 + (5 : Int32)) [(3, Value.int (l3 + (5 : Int32))), (0, Value.ref b), (1, Value.ref (ad 0)), (2, Value.ref (ad 91))] d_La_law_729 rfl (by first | rfl | decide) (by decide) rfl ?_
                                                  refine V_goto X 18 d_La_law_732 (by decide) ?_
                                                  refine V_sub (lv' := [(0, Value.ref b), (1, Value.ref (ad 0)), (2, Value.ref (ad 91)), (3, Value.int (l3 + (5 : Int32)))]) [1, 2, 3, 0] rfl ?_
                                                  exact ih (l3 + (5 : Int32)) σ h
                                                · skip
                                                  refine V_iconst (v := 0) X d_La_law_713 (by decide) ?_
                                                  have h9 := wp_some h
                                                  exact hQ _ _ h9 (fun _ => by decide) _ _ d_La_law_714
                                              · skip
                                                rcases wp_case h with ⟨c134, h⟩ | ⟨c134, h⟩
                                                · skip
                                                  refine V_tableIn X 683 715 d_La_law_32 (21) (by rw [c134]; decide) (by decide) (by decide) rfl (by decide) ?_
                                                  refine V_aload_n X 1 d_La_law_715 rfl ?_
                                                  refine V_cPL X h (fun r135 s136 q => C_V (q := 0) X [] mt_Co_digest ms_Co_digest ml_La_103 (k_Co_digest fu σ r135 s136 q) rfl rfl (by omega) (Nat.le_of_ble_eq_true rfl) rfl (by decide) (by decide) (by decide) d_La_law_716) (fun r135 s136 h => ?_)
                                                  refine V_aload_n X 2 d_La_law_719 rfl ?_
                                                  refine V_cPL X h (fun r137 s138 q => C_V (q := 10) X [] mt_Mo_digest ms_Mo_digest ml_La_107 (k_Mo_digest fu s136 r137 s138 q) rfl rfl (by omega) (Nat.le_of_ble_eq_true rfl) rfl (by decide) (by decide) (by decide) d_La_law_720) (fun r137 s138 h => ?_)
                                                  refine V_lcmp X d_La_law_723 ?_
                                                  refine V_if_eq X 729 d_La_law_724 (by decide) h (fun c139 h => ?_) (fun c139 h => ?_)
                                                  · skip
                                                    refine V_iinc X 3 (l3 + (5 : Int32)) [(3, Value.int (l3 + (5 : Int32))), (0, Value.ref b), (1, Value.ref (ad 0)), (2, Value.ref (ad 91))] d_La_law_729 rfl (by first | rfl | decide) (by decide) rfl ?_
                                                    refine V_goto X 18 d_La_law_732 (by decide) ?_
                                                    refine V_sub (lv' := [(0, Value.ref b), (1, Value.ref (ad 0)), (2, Value.ref (ad 91)), (3, Value.int (l3 + (5 : Int32)))]) [1, 2, 3, 0] rfl ?_
                                                    exact ih (l3 + (5 : Int32)) s138 h
                                                  · skip
                                                    refine V_iconst (v := 0) X d_La_law_727 (by decide) ?_
                                                    have h9 := wp_some h
                                                    exact hQ _ _ h9 (fun _ => by decide) _ _ d_La_law_728
                                                · skip
                                                  refine V_tableOut X 729 d_La_law_32 (by have z0 := sw_ne c2 (0) (by decide); have z1 := sw_ne c8 (1) (by decide); have z2 := sw_ne c14 (2) (by decide); have z3 := sw_ne c20 (3) (by decide); have z4 := sw_ne c26 (4) (by decide); have z5 := sw_ne c30 (5) (by decide); have z6 := sw_ne c35 (6) (by decide); have z7 := sw_ne c39 (7) (by decide); have z8 := sw_ne c45 (8) (by decide); have z9 := sw_ne c51 (9) (by decide); have z10 := sw_ne c57 (10) (by decide); have z11 := sw_ne c63 (11) (by decide); have z12 := sw_ne c69 (12) (by decide); have z13 := sw_ne c75 (13) (by decide); have z14 := sw_ne c81 (14) (by decide); have z15 := sw_ne c86 (15) (by decide); have z16 := sw_ne c106 (16) (by decide); have z17 := sw_ne c112 (17) (by decide); have z18 := sw_ne c118 (18) (by decide); have z19 := sw_ne c124 (19) (by decide); have z20 := sw_ne c130 (20) (by decide); have z21 := sw_ne c134 (21) (by decide); omega) (by decide) ?_
                                                  refine V_iinc X 3 (l3 + (5 : Int32)) [(3, Value.int (l3 + (5 : Int32))), (0, Value.ref b), (1, Value.ref (ad 0)), (2, Value.ref (ad 91))] d_La_law_729 rfl (by first | rfl | decide) (by decide) rfl ?_
                                                  refine V_goto X 18 d_La_law_732 (by decide) ?_
                                                  refine V_sub (lv' := [(0, Value.ref b), (1, Value.ref (ad 0)), (2, Value.ref (ad 91)), (3, Value.int (l3 + (5 : Int32)))]) [1, 2, 3, 0] rfl ?_
                                                  exact ih (l3 + (5 : Int32)) σ h
set_option maxHeartbeats 4000000 in
set_option maxRecDepth 100000 in
theorem La_law_ok {p : Program} {l : Launch} {e : Env} {R : Room} {s : State} {m : MethodId} {args : Array Value} {below : List Frame} {meth : Method} {c : Code} {D : va_G} {ad : Nat → Nat} {cI cB : ClassId} {A : Nat → Prop} {cells slots : Nat} {Q : State → Prop} (X : Cx p R s m args meth c R_law code 4 1000 D ad cI cB A cells slots) {b L : Nat} {xs : Nat → Int32} (HX : va_X b L xs s s.heap ∧ b < s.heap.size ∧ ¬ A b) (fu : Nat) (σ : Sg) {K : Int32 × Sg → Prop} (hQ : RI p l e R s m args below meth c 4 D ad cI cB A cells slots Q code true K) (h : wpO (La_law fu xs L σ) K) : V p l e R s m args below meth c 4 D A cells slots Q (wl ad cI cB σ) 18 [(0, Value.ref b), (1, Value.ref (ad 0)), (2, Value.ref (ad 91)), (3, Value.int (0 : Int32))] [] := by
  rw [La_law] at h
  refine La_law_L18_ok X HX fu _ hQ (fun l3_140 s141 h => ?_) fu (0 : Int32) σ h
  refine V_iconst (v := 1) X d_La_law_735 (by decide) ?_
  have h9 := wp_some h
  exact hQ _ _ h9 (fun _ => by decide) _ _ d_La_law_736
