def y_St_coder : MethodName := ⟨"java/lang/String", "coder", "()B"⟩
theorem mt_St_coder : Mt y_St_coder prog_17_method_152_code 1 (some .byte) 0 := ⟨gt_of 582 (by decide +kernel) rfl, gt_of 19 (by decide +kernel) rfl, ⟨by decide +kernel, by decide +kernel⟩, by decide +kernel, by decide⟩
theorem ms_St_coder : Cond.instanceMethod y_St_coder ∈ gtbl ∧ Cond.selects "java/lang/String" y_St_coder y_St_coder ∈ gtbl := ⟨gt_of 580 (by decide +kernel) rfl, gt_of 581 (by decide +kernel) rfl⟩
def y_St_length : MethodName := ⟨"java/lang/String", "length", "()I"⟩
theorem mt_St_length : Mt y_St_length prog_17_method_54_code 1 (some .int) 0 := ⟨gt_of 578 (by decide +kernel) rfl, gt_of 19 (by decide +kernel) rfl, ⟨by decide +kernel, by decide +kernel⟩, by decide +kernel, by decide⟩
theorem ms_St_length : Cond.instanceMethod y_St_length ∈ gtbl ∧ Cond.selects "java/lang/String" y_St_length y_St_length ∈ gtbl := ⟨gt_of 576 (by decide +kernel) rfl, gt_of 577 (by decide +kernel) rfl⟩
def y_St_isLatin1 : MethodName := ⟨"java/lang/String", "isLatin1", "()Z"⟩
theorem mt_St_isLatin1 : Mt y_St_isLatin1 prog_17_method_154_code 1 (some .boolean) 0 := ⟨gt_of 572 (by decide +kernel) rfl, gt_of 19 (by decide +kernel) rfl, ⟨by decide +kernel, by decide +kernel⟩, by decide +kernel, by decide⟩
theorem ms_St_isLatin1 : Cond.instanceMethod y_St_isLatin1 ∈ gtbl ∧ Cond.selects "java/lang/String" y_St_isLatin1 y_St_isLatin1 ∈ gtbl := ⟨gt_of 570 (by decide +kernel) rfl, gt_of 571 (by decide +kernel) rfl⟩
def y_Lt_canEncode : MethodName := ⟨"java/lang/StringLatin1", "canEncode", "(I)Z"⟩
theorem mt_Lt_canEncode : Mt y_Lt_canEncode prog_18_method_4_code 1 (some .boolean) 1 := ⟨gt_of 588 (by decide +kernel) rfl, gt_of 20 (by decide +kernel) rfl, ⟨by decide +kernel, by decide +kernel⟩, by decide +kernel, by decide⟩
theorem ms_Lt_canEncode : Cond.static y_Lt_canEncode ∈ gtbl := gt_of 587 (by decide +kernel) rfl
def y_Lt_indexOfChar : MethodName := ⟨"java/lang/StringLatin1", "indexOfChar", "([BIII)I"⟩
theorem mt_Lt_indexOfChar : Mt y_Lt_indexOfChar prog_18_method_23_code 6 (some .int) 4 := ⟨gt_of 593 (by decide +kernel) rfl, gt_of 20 (by decide +kernel) rfl, ⟨by decide +kernel, by decide +kernel⟩, by decide +kernel, by decide⟩
theorem ms_Lt_indexOfChar : Cond.static y_Lt_indexOfChar ∈ gtbl := gt_of 592 (by decide +kernel) rfl
def y_Lt_indexOf : MethodName := ⟨"java/lang/StringLatin1", "indexOf", "([BIII)I"⟩
theorem mt_Lt_indexOf : Mt y_Lt_indexOf prog_18_method_22_code 4 (some .int) 4 := ⟨gt_of 585 (by decide +kernel) rfl, gt_of 20 (by decide +kernel) rfl, ⟨by decide +kernel, by decide +kernel⟩, by decide +kernel, by decide⟩
theorem ms_Lt_indexOf : Cond.static y_Lt_indexOf ∈ gtbl := gt_of 584 (by decide +kernel) rfl
def y_St_indexOf2 : MethodName := ⟨"java/lang/String", "indexOf", "(II)I"⟩
theorem mt_St_indexOf2 : Mt y_St_indexOf2 prog_17_method_80_code 3 (some .int) 2 := ⟨gt_of 568 (by decide +kernel) rfl, gt_of 19 (by decide +kernel) rfl, ⟨by decide +kernel, by decide +kernel⟩, by decide +kernel, by decide⟩
theorem ms_St_indexOf2 : Cond.instanceMethod y_St_indexOf2 ∈ gtbl ∧ Cond.selects "java/lang/String" y_St_indexOf2 y_St_indexOf2 ∈ gtbl := ⟨gt_of 566 (by decide +kernel) rfl, gt_of 567 (by decide +kernel) rfl⟩
def y_St_indexOf : MethodName := ⟨"java/lang/String", "indexOf", "(I)I"⟩
theorem mt_St_indexOf : Mt y_St_indexOf prog_17_method_79_code 2 (some .int) 1 := ⟨gt_of 564 (by decide +kernel) rfl, gt_of 19 (by decide +kernel) rfl, ⟨by decide +kernel, by decide +kernel⟩, by decide +kernel, by decide⟩
theorem ms_St_indexOf : Cond.instanceMethod y_St_indexOf ∈ gtbl ∧ Cond.selects "java/lang/String" y_St_indexOf y_St_indexOf ∈ gtbl := ⟨gt_of 562 (by decide +kernel) rfl, gt_of 563 (by decide +kernel) rfl⟩
theorem ml_St_335 : Cond.methodLink "java/lang/String" 335 y_St_coder ∈ gtbl := gt_of 579 (by decide +kernel) rfl
theorem ml_St_492 : Cond.methodLink "java/lang/String" 492 y_St_isLatin1 ∈ gtbl := gt_of 569 (by decide +kernel) rfl
theorem ml_St_505 : Cond.methodLink "java/lang/String" 505 y_St_length ∈ gtbl := gt_of 575 (by decide +kernel) rfl
theorem ml_St_633 : Cond.methodLink "java/lang/String" 633 y_St_indexOf2 ∈ gtbl := gt_of 565 (by decide +kernel) rfl
theorem ml_St_637 : Cond.methodLink "java/lang/String" 637 y_Lt_indexOf ∈ gtbl := gt_of 583 (by decide +kernel) rfl
theorem ml_Lt_38 : Cond.methodLink "java/lang/StringLatin1" 38 Lib.Math.min.name ∈ gtbl := gt_of 590 (by decide +kernel) rfl
theorem ml_Lt_88 : Cond.methodLink "java/lang/StringLatin1" 88 y_Lt_canEncode ∈ gtbl := gt_of 586 (by decide +kernel) rfl
theorem ml_Lt_92 : Cond.methodLink "java/lang/StringLatin1" 92 Lib.Math.max.name ∈ gtbl := gt_of 589 (by decide +kernel) rfl
theorem ml_Lt_95 : Cond.methodLink "java/lang/StringLatin1" 95 y_Lt_indexOfChar ∈ gtbl := gt_of 591 (by decide +kernel) rfl
theorem d_St_coder_0 : decode prog_17_method_152_code 0 = .ok (.getstatic 38, 3) := by decide +kernel
theorem d_St_coder_3 : decode prog_17_method_152_code 3 = .ok (.ifCond .eq 10, 3) := by decide +kernel
theorem d_St_coder_6 : decode prog_17_method_152_code 6 = .ok (.aload_n 0, 1) := by decide +kernel
theorem d_St_coder_7 : decode prog_17_method_152_code 7 = .ok (.getfield 15, 3) := by decide +kernel
theorem d_St_coder_10 : decode prog_17_method_152_code 10 = .ok (.goto 4, 3) := by decide +kernel
theorem d_St_coder_13 : decode prog_17_method_152_code 13 = .ok (.iconst 1, 1) := by decide +kernel
theorem d_St_coder_14 : decode prog_17_method_152_code 14 = .ok (.ireturn, 1) := by decide +kernel
theorem d_St_length_0 : decode prog_17_method_54_code 0 = .ok (.aload_n 0, 1) := by decide +kernel
theorem d_St_length_1 : decode prog_17_method_54_code 1 = .ok (.getfield 9, 3) := by decide +kernel
theorem d_St_length_4 : decode prog_17_method_54_code 4 = .ok (.arraylength, 1) := by decide +kernel
theorem d_St_length_5 : decode prog_17_method_54_code 5 = .ok (.aload_n 0, 1) := by decide +kernel
theorem d_St_length_6 : decode prog_17_method_54_code 6 = .ok (.invokevirtual 335, 3) := by decide +kernel
theorem d_St_length_9 : decode prog_17_method_54_code 9 = .ok (.ishr, 1) := by decide +kernel
theorem d_St_length_10 : decode prog_17_method_54_code 10 = .ok (.ireturn, 1) := by decide +kernel
theorem d_St_isLatin1_0 : decode prog_17_method_154_code 0 = .ok (.getstatic 38, 3) := by decide +kernel
theorem d_St_isLatin1_3 : decode prog_17_method_154_code 3 = .ok (.ifCond .eq 14, 3) := by decide +kernel
theorem d_St_isLatin1_6 : decode prog_17_method_154_code 6 = .ok (.aload_n 0, 1) := by decide +kernel
theorem d_St_isLatin1_7 : decode prog_17_method_154_code 7 = .ok (.getfield 15, 3) := by decide +kernel
theorem d_St_isLatin1_10 : decode prog_17_method_154_code 10 = .ok (.ifCond .ne 7, 3) := by decide +kernel
theorem d_St_isLatin1_13 : decode prog_17_method_154_code 13 = .ok (.iconst 1, 1) := by decide +kernel
theorem d_St_isLatin1_14 : decode prog_17_method_154_code 14 = .ok (.goto 4, 3) := by decide +kernel
theorem d_St_isLatin1_17 : decode prog_17_method_154_code 17 = .ok (.iconst 0, 1) := by decide +kernel
theorem d_St_isLatin1_18 : decode prog_17_method_154_code 18 = .ok (.ireturn, 1) := by decide +kernel
theorem d_Lt_canEncode_0 : decode prog_18_method_4_code 0 = .ok (.iload_n 0, 1) := by decide +kernel
theorem d_Lt_canEncode_1 : decode prog_18_method_4_code 1 = .ok (.ifCond .lt 14, 3) := by decide +kernel
theorem d_Lt_canEncode_4 : decode prog_18_method_4_code 4 = .ok (.iload_n 0, 1) := by decide +kernel
theorem d_Lt_canEncode_5 : decode prog_18_method_4_code 5 = .ok (.sipush 255, 3) := by decide +kernel
theorem d_Lt_canEncode_8 : decode prog_18_method_4_code 8 = .ok (.if_icmp .gt 7, 3) := by decide +kernel
theorem d_Lt_canEncode_11 : decode prog_18_method_4_code 11 = .ok (.iconst 1, 1) := by decide +kernel
theorem d_Lt_canEncode_12 : decode prog_18_method_4_code 12 = .ok (.goto 4, 3) := by decide +kernel
theorem d_Lt_canEncode_15 : decode prog_18_method_4_code 15 = .ok (.iconst 0, 1) := by decide +kernel
theorem d_Lt_canEncode_16 : decode prog_18_method_4_code 16 = .ok (.ireturn, 1) := by decide +kernel
theorem d_Lt_indexOfChar_0 : decode prog_18_method_23_code 0 = .ok (.iload_n 1, 1) := by decide +kernel
theorem d_Lt_indexOfChar_1 : decode prog_18_method_23_code 1 = .ok (.i2b, 1) := by decide +kernel
theorem d_Lt_indexOfChar_2 : decode prog_18_method_23_code 2 = .ok (.istore 4, 2) := by decide +kernel
theorem d_Lt_indexOfChar_4 : decode prog_18_method_23_code 4 = .ok (.iload_n 2, 1) := by decide +kernel
theorem d_Lt_indexOfChar_5 : decode prog_18_method_23_code 5 = .ok (.istore 5, 2) := by decide +kernel
theorem d_Lt_indexOfChar_7 : decode prog_18_method_23_code 7 = .ok (.iload 5, 2) := by decide +kernel
theorem d_Lt_indexOfChar_9 : decode prog_18_method_23_code 9 = .ok (.iload_n 3, 1) := by decide +kernel
theorem d_Lt_indexOfChar_10 : decode prog_18_method_23_code 10 = .ok (.if_icmp .ge 21, 3) := by decide +kernel
theorem d_Lt_indexOfChar_13 : decode prog_18_method_23_code 13 = .ok (.aload_n 0, 1) := by decide +kernel
theorem d_Lt_indexOfChar_14 : decode prog_18_method_23_code 14 = .ok (.iload 5, 2) := by decide +kernel
theorem d_Lt_indexOfChar_16 : decode prog_18_method_23_code 16 = .ok (.baload, 1) := by decide +kernel
theorem d_Lt_indexOfChar_17 : decode prog_18_method_23_code 17 = .ok (.iload 4, 2) := by decide +kernel
theorem d_Lt_indexOfChar_19 : decode prog_18_method_23_code 19 = .ok (.if_icmp .ne 6, 3) := by decide +kernel
theorem d_Lt_indexOfChar_22 : decode prog_18_method_23_code 22 = .ok (.iload 5, 2) := by decide +kernel
theorem d_Lt_indexOfChar_24 : decode prog_18_method_23_code 24 = .ok (.ireturn, 1) := by decide +kernel
theorem d_Lt_indexOfChar_25 : decode prog_18_method_23_code 25 = .ok (.iinc 5 1, 3) := by decide +kernel
theorem d_Lt_indexOfChar_28 : decode prog_18_method_23_code 28 = .ok (.goto (-21), 3) := by decide +kernel
theorem d_Lt_indexOfChar_31 : decode prog_18_method_23_code 31 = .ok (.iconst (-1), 1) := by decide +kernel
theorem d_Lt_indexOfChar_32 : decode prog_18_method_23_code 32 = .ok (.ireturn, 1) := by decide +kernel
theorem d_Lt_indexOf_0 : decode prog_18_method_22_code 0 = .ok (.iload_n 1, 1) := by decide +kernel
theorem d_Lt_indexOf_1 : decode prog_18_method_22_code 1 = .ok (.invokestatic 88, 3) := by decide +kernel
theorem d_Lt_indexOf_4 : decode prog_18_method_22_code 4 = .ok (.ifCond .ne 5, 3) := by decide +kernel
theorem d_Lt_indexOf_7 : decode prog_18_method_22_code 7 = .ok (.iconst (-1), 1) := by decide +kernel
theorem d_Lt_indexOf_8 : decode prog_18_method_22_code 8 = .ok (.ireturn, 1) := by decide +kernel
theorem d_Lt_indexOf_9 : decode prog_18_method_22_code 9 = .ok (.iload_n 2, 1) := by decide +kernel
theorem d_Lt_indexOf_10 : decode prog_18_method_22_code 10 = .ok (.iconst 0, 1) := by decide +kernel
theorem d_Lt_indexOf_11 : decode prog_18_method_22_code 11 = .ok (.invokestatic 92, 3) := by decide +kernel
theorem d_Lt_indexOf_14 : decode prog_18_method_22_code 14 = .ok (.istore_n 2, 1) := by decide +kernel
theorem d_Lt_indexOf_15 : decode prog_18_method_22_code 15 = .ok (.iload_n 3, 1) := by decide +kernel
theorem d_Lt_indexOf_16 : decode prog_18_method_22_code 16 = .ok (.aload_n 0, 1) := by decide +kernel
theorem d_Lt_indexOf_17 : decode prog_18_method_22_code 17 = .ok (.arraylength, 1) := by decide +kernel
theorem d_Lt_indexOf_18 : decode prog_18_method_22_code 18 = .ok (.invokestatic 38, 3) := by decide +kernel
theorem d_Lt_indexOf_21 : decode prog_18_method_22_code 21 = .ok (.istore_n 3, 1) := by decide +kernel
theorem d_Lt_indexOf_22 : decode prog_18_method_22_code 22 = .ok (.iload_n 2, 1) := by decide +kernel
theorem d_Lt_indexOf_23 : decode prog_18_method_22_code 23 = .ok (.iload_n 3, 1) := by decide +kernel
theorem d_Lt_indexOf_24 : decode prog_18_method_22_code 24 = .ok (.if_icmp .lt 5, 3) := by decide +kernel
theorem d_Lt_indexOf_27 : decode prog_18_method_22_code 27 = .ok (.iconst (-1), 1) := by decide +kernel
theorem d_Lt_indexOf_28 : decode prog_18_method_22_code 28 = .ok (.ireturn, 1) := by decide +kernel
theorem d_Lt_indexOf_29 : decode prog_18_method_22_code 29 = .ok (.aload_n 0, 1) := by decide +kernel
theorem d_Lt_indexOf_30 : decode prog_18_method_22_code 30 = .ok (.iload_n 1, 1) := by decide +kernel
theorem d_Lt_indexOf_31 : decode prog_18_method_22_code 31 = .ok (.iload_n 2, 1) := by decide +kernel
theorem d_Lt_indexOf_32 : decode prog_18_method_22_code 32 = .ok (.iload_n 3, 1) := by decide +kernel
theorem d_Lt_indexOf_33 : decode prog_18_method_22_code 33 = .ok (.invokestatic 95, 3) := by decide +kernel
theorem d_Lt_indexOf_36 : decode prog_18_method_22_code 36 = .ok (.ireturn, 1) := by decide +kernel
theorem d_St_indexOf2_0 : decode prog_17_method_80_code 0 = .ok (.aload_n 0, 1) := by decide +kernel
theorem d_St_indexOf2_1 : decode prog_17_method_80_code 1 = .ok (.invokevirtual 492, 3) := by decide +kernel
theorem d_St_indexOf2_4 : decode prog_17_method_80_code 4 = .ok (.ifCond .eq 19, 3) := by decide +kernel
theorem d_St_indexOf2_7 : decode prog_17_method_80_code 7 = .ok (.aload_n 0, 1) := by decide +kernel
theorem d_St_indexOf2_8 : decode prog_17_method_80_code 8 = .ok (.getfield 9, 3) := by decide +kernel
theorem d_St_indexOf2_11 : decode prog_17_method_80_code 11 = .ok (.iload_n 1, 1) := by decide +kernel
theorem d_St_indexOf2_12 : decode prog_17_method_80_code 12 = .ok (.iload_n 2, 1) := by decide +kernel
theorem d_St_indexOf2_13 : decode prog_17_method_80_code 13 = .ok (.aload_n 0, 1) := by decide +kernel
theorem d_St_indexOf2_14 : decode prog_17_method_80_code 14 = .ok (.invokevirtual 505, 3) := by decide +kernel
theorem d_St_indexOf2_17 : decode prog_17_method_80_code 17 = .ok (.invokestatic 637, 3) := by decide +kernel
theorem d_St_indexOf2_20 : decode prog_17_method_80_code 20 = .ok (.goto 16, 3) := by decide +kernel
theorem d_St_indexOf2_23 : decode prog_17_method_80_code 23 = .ok (.aload_n 0, 1) := by decide +kernel
theorem d_St_indexOf2_24 : decode prog_17_method_80_code 24 = .ok (.getfield 9, 3) := by decide +kernel
theorem d_St_indexOf2_27 : decode prog_17_method_80_code 27 = .ok (.iload_n 1, 1) := by decide +kernel
theorem d_St_indexOf2_28 : decode prog_17_method_80_code 28 = .ok (.iload_n 2, 1) := by decide +kernel
theorem d_St_indexOf2_29 : decode prog_17_method_80_code 29 = .ok (.aload_n 0, 1) := by decide +kernel
theorem d_St_indexOf2_30 : decode prog_17_method_80_code 30 = .ok (.invokevirtual 505, 3) := by decide +kernel
theorem d_St_indexOf2_33 : decode prog_17_method_80_code 33 = .ok (.invokestatic 640, 3) := by decide +kernel
theorem d_St_indexOf2_36 : decode prog_17_method_80_code 36 = .ok (.ireturn, 1) := by decide +kernel
theorem d_St_indexOf_0 : decode prog_17_method_79_code 0 = .ok (.aload_n 0, 1) := by decide +kernel
theorem d_St_indexOf_1 : decode prog_17_method_79_code 1 = .ok (.iload_n 1, 1) := by decide +kernel
theorem d_St_indexOf_2 : decode prog_17_method_79_code 2 = .ok (.iconst 0, 1) := by decide +kernel
theorem d_St_indexOf_3 : decode prog_17_method_79_code 3 = .ok (.invokevirtual 633, 3) := by decide +kernel
theorem d_St_indexOf_6 : decode prog_17_method_79_code 6 = .ok (.ireturn, 1) := by decide +kernel
def kByte (j : Nat) : Int32 := ([99, 109, 117, 111, 97] : List Int32).getD j 0
section VSTRS
variable {p : Program} {l : Launch} {e : Env} {R : Room} {s : State} {m : MethodId} {args : Array Value} {below : List Frame} {meth : Method} {c : Code} {own : String} {cc : ByteArray} {nL d : Nat} {D : va_G} {ad : Nat → Nat} {cI cB : ClassId} {A : Nat → Prop} {cells slots : Nat} {Q : State → Prop} {ws : va_W} {σ : Sg} {pc : Nat} {lv : List (Nat × Value)} {st : List Value}
theorem V_sgetV (X : Cx p R s m args meth c "java/lang/String" cc nL d D ad cI cB A cells slots) (hd : decode cc pc = .ok (.getfield 9, 3)) (k : V p l e R s m args below meth c nL D A cells slots Q ws (pc + 3) lv (.ref (ad 1001) :: st)) : V p l e R s m args below meth c nL D A cells slots Q ws pc lv (.ref (ad 1000) :: st) :=
  fun H locs ls hP hD hS hl => vk_getf X.1 X.2.1 (X.2.2.2.2.2.2.2.1.2.1.1 0 (by decide)).2.2.1 hS X.2.2.2.1 (X.2.2.2.2.1 _ (gt_of (w := Cond.fieldLink "java/lang/String" 9 "java/lang/String" "value" "[B") 762 (by decide +kernel) rfl)) (fun _ h9 => h9) hd (k H locs ls hP hD hS hl)
theorem V_sgetC (X : Cx p R s m args meth c "java/lang/String" cc nL d D ad cI cB A cells slots) (hd : decode cc pc = .ok (.getfield 15, 3)) (k : V p l e R s m args below meth c nL D A cells slots Q ws (pc + 3) lv (.int 0 :: st)) : V p l e R s m args below meth c nL D A cells slots Q ws pc lv (.ref (ad 1000) :: st) :=
  fun H locs ls hP hD hS hl => vk_getf X.1 X.2.1 (X.2.2.2.2.2.2.2.1.2.1.1 0 (by decide)).2.1 hS X.2.2.2.1 (X.2.2.2.2.1 _ (gt_of (w := Cond.fieldLink "java/lang/String" 15 "java/lang/String" "coder" "B") 761 (by decide +kernel) rfl)) (fun _ h9 => h9) hd (k H locs ls hP hD hS hl)
theorem V_gets (X : Cx p R s m args meth c "java/lang/String" cc nL d D ad cI cB A cells slots) (hd : decode cc pc = .ok (.getstatic 38, 3)) (k : V p l e R s m args below meth c nL D A cells slots Q ws (pc + 3) lv (.int 1 :: st)) : V p l e R s m args below meth c nL D A cells slots Q ws pc lv st :=
  fun H locs ls hP hD hS hl => va_gets X.1 X.2.1 X.2.2.2.2.2.2.2.1.2.2.2 hS X.2.2.2.1 (X.2.2.2.2.1 _ (gt_of (w := Cond.fieldLink "java/lang/String" 38 "java/lang/String" "COMPACT_STRINGS" "Z") 573 (by decide +kernel) rfl)) (fun _ h9 => h9) hd (k H locs ls hP hD hS hl)
theorem V_salen (X : Cx p R s m args meth c own cc nL d D ad cI cB A cells slots) (hd : decode cc pc = .ok (.arraylength, 1)) (k : V p l e R s m args below meth c nL D A cells slots Q ws (pc + 1) lv (.int 5 :: st)) : V p l e R s m args below meth c nL D A cells slots Q ws pc lv (.ref (ad 1001) :: st) :=
  fun H locs ls hP hD hS hl => va_tlen X.1 X.2.1 (X.2.2.2.2.2.2.2.1.2.1.1 0 (by decide)).2.2.2 hS (by decide) hd (k H locs ls hP hD hS hl)
theorem V_sbald (X : Cx p R s m args meth c own cc nL d D ad cI cB A cells slots) {i : Int32} {α : Type} {A1 : Option α} {K : α → Prop} (hd : decode cc pc = .ok (.baload, 1)) (h : wpO (if inb i 5 = true then A1 else none) K)
    (kk : wpO A1 K → V p l e R s m args below meth c nL D A cells slots Q ws (pc + 1) lv (.int (kByte (ix i)) :: st)) : V p l e R s m args below meth c nL D A cells slots Q ws pc lv (.int i :: .ref (ad 1001) :: st) :=
  fun H locs ls hP hD hS hl => va_tb X.1 X.2.1 (X.2.2.2.2.2.2.2.1.2.1.1 0 (by decide)).2.2.2 hS (inb_vp (wp_if h).1) rfl hd (kk (wp_if h).2 H locs ls hP hD hS hl)
theorem C_VS (X : Cx p R s m args meth c own cc nL d D ad cI cB A cells slots) {y : MethodName} {b : ByteArray} {mL : Nat} {ret : Option FieldType} {n dc idx : Nat} {σ' : Sg} {rv : (Nat → Nat) → Option Value} {av : (Nat → Nat) → List Value} (As : List Value) {rest : List Value} (mt : Mt y b mL ret n) (ms : Cond.instanceMethod y ∈ gtbl ∧ Cond.selects "java/lang/String" y y ∈ gtbl) (ml : Cond.methodLink own idx y ∈ gtbl) (hE : Evc y b mL ret dc av σ σ' rv) (hav : av ad = .ref (ad 1000) :: As) (hn : As.length = n) (hdc : dc + 1 ≤ d) (hr8 : (rest.map fun v => v.category).sum ≤ 8) (hd : decode cc pc = .ok (.invokevirtual idx, 3)) :
    CallOK p l e R s m args below meth c nL D ad cI cB A cells slots σ σ' pc (As.reverse ++ .ref (ad 1000) :: rest) rest (rv ad) := by
  intro H locs ls hP hD hS hsz
  have hM := hE l D ad cI cB H.size
  rw [hav] at hM
  exact ⟨_, va_runV (As := As) (rest := rest) ⟨X.1, X.2.1, X.2.2.1, X.2.2.2.1, X.2.2.2.2.1⟩ hM ⟨jv_callB X mt hdc (X.2.2.2.2.1 _ ml), X.2.2.2.2.1 _ ms.1, X.2.2.2.2.1 _ ms.2⟩ ⟨Pre.blind, vk_recv (i := 0) X.2.2.2.2.2.2.2.1.2.1 (by decide) hS, jv_pre X hP hD hS⟩ rfl hn hsz rfl (by simpa [JFrame.monitorRoom] using hr8) hd ⟨X.2.2.2.2.2.2.2.2.1.2.2.1, X.2.2.2.2.2.2.2.2.1.2.2.2⟩⟩
end VSTRS
theorem isb_narB {v : Int32} (h : isb v = true) : narrow .byte (.int v) = .int v := by
  simp only [isb, Bool.or_eq_true, beq_iff_eq] at h
  rcases h with rfl | rfl <;> decide +kernel
theorem Evc_ofB {y : MethodName} {b : ByteArray} {mL d : Nat} {av : (Nat → Nat) → List Value} {σ σ' : Sg} {r : Int32} (hy : plainName y.cls = true) (hlen : ∀ ad, (lg_sl (av ad)).length ≤ mL)
    (body : ∀ (p : Program) (l : Launch) (e : Env) (R : Room) (s : State) (m : MethodId) (args : Array Value) (below : List Frame) (meth : Method) (c : Code) (D : va_G) (ad : Nat → Nat) (cI cB : ClassId) (A : Nat → Prop) (Q : State → Prop), Cx p R s m args meth c y.cls b mL d D ad cI cB A 0 0 → RI p l e R s m args below meth c mL D ad cI cB A 0 0 Q b true (fun q => q = (r, σ')) →
      V p l e R s m args below meth c mL D A 0 0 Q (wl ad cI cB σ) 0 (lv_args 0 (av ad)) []) :
    Evc y b mL (some .byte) d av σ σ' (fun _ => some (.int r)) :=
  Evc_of hy hlen (fun p l e R s m args below meth c D ad cI cB A X hr hq => body p l e R s m args below meth c D ad cI cB A _ X (by
    intro r1 σ1 e1 hz pc lv hd H locs ls hP hD hS hl
    cases e1
    exact W.zret (v := r) X.1 X.2.1 hr (isb_narB (hz rfl)) (fun t ht _ => (hq t H locs ht hP hD hS).1) hS.2.2 hd X.2.2.2.2.2.2.2.2.2))

def St_coder : Option Int32 := some (0 : Int32)
def St_length : Option Int32 := bindV (St_coder) fun r1 => some ((5 : Int32) >>> (r1 &&& 31))
def St_isLatin1 : Option Int32 := some (1 : Int32)
def Lt_canEncode (a0 : Int32) : Option Int32 := if a0 < 0 then (some (0 : Int32)) else (if (255 : Int32) < a0 then (some (0 : Int32)) else (some (1 : Int32)))
def Lt_indexOfChar_L7 (fu : Nat) (l3 : Int32) (l4 : Int32) (kont : (Int32 → Option Int32)) : Nat → Int32 → Option Int32
  | 0, _ => none
  | n + 1, l5 => if l3 ≤ l5 then (kont l5) else (if inb l5 5 = true then (if ¬ (kByte (ix l5)) = l4 then (Lt_indexOfChar_L7 fu l3 l4 kont n (l5 + (1 : Int32))) else (some l5)) else none)
def Lt_indexOfChar (fu : Nat) (a1 : Int32) (a2 : Int32) (a3 : Int32) : Option Int32 := Lt_indexOfChar_L7 fu a3 a1.toInt8.toInt32 (fun l5_3 => some (-1 : Int32)) fu a2
def Lt_indexOf (fu : Nat) (a1 : Int32) (a2 : Int32) (a3 : Int32) : Option Int32 := bindV (Lt_canEncode a1) fun r1 => if ¬ r1 = 0 then (if (if a2 < (0 : Int32) then (0 : Int32) else a2) < (if (5 : Int32) < a3 then (5 : Int32) else a3) then (bindV (Lt_indexOfChar fu a1 (if a2 < (0 : Int32) then (0 : Int32) else a2) (if (5 : Int32) < a3 then (5 : Int32) else a3)) fun r4 => some r4) else (some (-1 : Int32))) else (some (-1 : Int32))
def St_indexOf2 (fu : Nat) (a0 : Int32) (a1 : Int32) : Option Int32 := bindV (St_isLatin1) fun r1 => if r1 = 0 then (bindV (St_length) fun r3 => none) else (bindV (St_length) fun r4 => bindV (Lt_indexOf fu a0 a1 r4) fun r5 => some r5)
def St_indexOf (fu : Nat) (a0 : Int32) : Option Int32 := bindV (St_indexOf2 fu a0 (0 : Int32)) fun r1 => some r1
set_option maxHeartbeats 4000000 in
set_option maxRecDepth 100000 in
theorem k_St_coder (σ : Sg) (r : Int32) (h : St_coder = some r) : Evc y_St_coder prog_17_method_152_code 1 (some .byte) 1 (fun ad => [Value.ref (ad 1000)]) σ σ (fun _ => some (.int r)) := by
  refine Evc_ofB (by decide) (fun ad => Nat.le_of_ble_eq_true rfl) (fun p l e R s m args below meth c D ad cI cB A Q X hQ => ?_)
  have X : Cx p R s m args meth c "java/lang/String" prog_17_method_152_code 1 1 D ad cI cB A 0 0 := X
  have hQ := hQ.pure
  have h : wpO (St_coder) (fun q => q = r) := ⟨_, h, rfl⟩
  rw [St_coder] at h
  refine V_sub (lv' := [(0, Value.ref (ad 1000))]) [0] rfl ?_
  refine V_gets X d_St_coder_0 ?_
  refine V_if_eqF X d_St_coder_3 13 (by decide) (by decide) ?_
  refine V_aload_n X 0 d_St_coder_6 rfl ?_
  refine V_sgetC X d_St_coder_7 ?_
  refine V_goto X 14 d_St_coder_10 (by decide) ?_
  have h9 := wp_some h
  exact hQ _ h9 (fun _ => by decide) _ _ d_St_coder_14
set_option maxHeartbeats 4000000 in
set_option maxRecDepth 100000 in
theorem k_St_length (σ : Sg) (r : Int32) (h : St_length = some r) : Evc y_St_length prog_17_method_54_code 1 (some .int) 2 (fun ad => [Value.ref (ad 1000)]) σ σ (fun _ => some (.int r)) := by
  refine Evc_ofI (by decide) (fun ad => Nat.le_of_ble_eq_true rfl) (fun p l e R s m args below meth c D ad cI cB A Q X hQ => ?_)
  have X : Cx p R s m args meth c "java/lang/String" prog_17_method_54_code 1 2 D ad cI cB A 0 0 := X
  have hQ := hQ.pure
  have h : wpO (St_length) (fun q => q = r) := ⟨_, h, rfl⟩
  rw [St_length] at h
  refine V_sub (lv' := [(0, Value.ref (ad 1000))]) [0] rfl ?_
  refine V_aload_n X 0 d_St_length_0 rfl ?_
  refine V_sgetV X d_St_length_1 ?_
  refine V_salen X d_St_length_4 ?_
  refine V_aload_n X 0 d_St_length_5 rfl ?_
  refine V_cI X h (fun r1 q => C_VS X [] mt_St_coder ms_St_coder ml_St_335 (k_St_coder σ r1 q) rfl rfl (by omega) (Nat.le_of_ble_eq_true rfl) d_St_length_6) (fun r1 h => ?_)
  refine V_ishr X d_St_length_9 ?_
  have h9 := wp_some h
  exact hQ _ h9 (fun h9 => absurd h9 (by decide)) _ _ d_St_length_10
set_option maxHeartbeats 4000000 in
set_option maxRecDepth 100000 in
theorem k_St_isLatin1 (σ : Sg) (r : Int32) (h : St_isLatin1 = some r) : Evc y_St_isLatin1 prog_17_method_154_code 1 (some .boolean) 1 (fun ad => [Value.ref (ad 1000)]) σ σ (fun _ => some (.int r)) := by
  refine Evc_ofZ (by decide) (fun ad => Nat.le_of_ble_eq_true rfl) (fun p l e R s m args below meth c D ad cI cB A Q X hQ => ?_)
  have X : Cx p R s m args meth c "java/lang/String" prog_17_method_154_code 1 1 D ad cI cB A 0 0 := X
  have hQ := hQ.pure
  have h : wpO (St_isLatin1) (fun q => q = r) := ⟨_, h, rfl⟩
  rw [St_isLatin1] at h
  refine V_sub (lv' := [(0, Value.ref (ad 1000))]) [0] rfl ?_
  refine V_gets X d_St_isLatin1_0 ?_
  refine V_if_eqF X d_St_isLatin1_3 17 (by decide) (by decide) ?_
  refine V_aload_n X 0 d_St_isLatin1_6 rfl ?_
  refine V_sgetC X d_St_isLatin1_7 ?_
  refine V_if_neF X d_St_isLatin1_10 17 (by decide) (by decide) ?_
  refine V_iconst (v := 1) X d_St_isLatin1_13 (by decide) ?_
  refine V_goto X 18 d_St_isLatin1_14 (by decide) ?_
  have h9 := wp_some h
  exact hQ _ h9 (fun _ => by decide) _ _ d_St_isLatin1_18
set_option maxHeartbeats 4000000 in
set_option maxRecDepth 100000 in
theorem k_Lt_canEncode (σ : Sg) (a0 : Int32) (r : Int32) (h : Lt_canEncode a0 = some r) : Evc y_Lt_canEncode prog_18_method_4_code 1 (some .boolean) 1 (fun ad => [Value.int a0]) σ σ (fun _ => some (.int r)) := by
  refine Evc_ofZ (by decide) (fun ad => Nat.le_of_ble_eq_true rfl) (fun p l e R s m args below meth c D ad cI cB A Q X hQ => ?_)
  have X : Cx p R s m args meth c "java/lang/StringLatin1" prog_18_method_4_code 1 1 D ad cI cB A 0 0 := X
  have hQ := hQ.pure
  have h : wpO (Lt_canEncode a0) (fun q => q = r) := ⟨_, h, rfl⟩
  rw [Lt_canEncode] at h
  refine V_sub (lv' := [(0, Value.int a0)]) [0] rfl ?_
  refine V_iload_n X 0 d_Lt_canEncode_0 rfl ?_
  refine V_if_lt X 15 d_Lt_canEncode_1 (by decide) h (fun c1 h => ?_) (fun c1 h => ?_)
  · skip
    refine V_iconst (v := 0) X d_Lt_canEncode_15 (by decide) ?_
    have h9 := wp_some h
    exact hQ _ h9 (fun _ => by decide) _ _ d_Lt_canEncode_16
  · skip
    refine V_iload_n X 0 d_Lt_canEncode_4 rfl ?_
    refine V_sipush (v := 255) X d_Lt_canEncode_5 (by decide) ?_
    refine V_icmp_gt X 15 d_Lt_canEncode_8 (by decide) h (fun c2 h => ?_) (fun c2 h => ?_)
    · skip
      refine V_iconst (v := 0) X d_Lt_canEncode_15 (by decide) ?_
      have h9 := wp_some h
      exact hQ _ h9 (fun _ => by decide) _ _ d_Lt_canEncode_16
    · skip
      refine V_iconst (v := 1) X d_Lt_canEncode_11 (by decide) ?_
      refine V_goto X 16 d_Lt_canEncode_12 (by decide) ?_
      have h9 := wp_some h
      exact hQ _ h9 (fun _ => by decide) _ _ d_Lt_canEncode_16
set_option maxHeartbeats 4000000 in
set_option maxRecDepth 100000 in
theorem Lt_indexOfChar_L7_ok {p : Program} {l : Launch} {e : Env} {R : Room} {s : State} {m : MethodId} {args : Array Value} {below : List Frame} {meth : Method} {c : Code} {D : va_G} {ad : Nat → Nat} {cI cB : ClassId} {A : Nat → Prop} {cells slots : Nat} {Q : State → Prop} (X : Cx p R s m args meth c "java/lang/StringLatin1" prog_18_method_23_code 6 1 D ad cI cB A cells slots) (fu : Nat) (l3 : Int32) (l4 : Int32) (σ : Sg) (kont : (Int32 → Option Int32)) {K : Int32 → Prop} (hQ : RP p l e R s m args below meth c 6 D ad cI cB A cells slots Q prog_18_method_23_code false σ K) (hk : ∀ (l5 : Int32), wpO (kont l5) K → V p l e R s m args below meth c 6 D A cells slots Q (wl ad cI cB σ) 31 [(0, Value.ref (ad 1001)), (3, Value.int l3), (4, Value.int l4), (5, Value.int l5)] []) : ∀ (n : Nat) (l5 : Int32), wpO (Lt_indexOfChar_L7 fu l3 l4 kont n l5) K → V p l e R s m args below meth c 6 D A cells slots Q (wl ad cI cB σ) 7 [(0, Value.ref (ad 1001)), (3, Value.int l3), (4, Value.int l4), (5, Value.int l5)] [] := by
  intro n
  induction n with
  | zero =>
    intro l5 h
    exact (wp_none h).elim
  | succ n ih =>
    intro l5 h
    rw [Lt_indexOfChar_L7] at h
    refine V_iload X 3 d_Lt_indexOfChar_7 rfl ?_
    refine V_iload_n X 1 d_Lt_indexOfChar_9 rfl ?_
    refine V_icmp_ge X 31 d_Lt_indexOfChar_10 (by decide) h (fun c1 h => ?_) (fun c1 h => ?_)
    · skip
      exact hk l5 h
    · skip
      refine V_aload_n X 0 d_Lt_indexOfChar_13 rfl ?_
      refine V_iload X 3 d_Lt_indexOfChar_14 rfl ?_
      refine V_sbald X d_Lt_indexOfChar_16 h (fun h => ?_)
      refine V_iload X 2 d_Lt_indexOfChar_17 rfl ?_
      refine V_icmp_ne X 25 d_Lt_indexOfChar_19 (by decide) h (fun c2 h => ?_) (fun c2 h => ?_)
      · skip
        refine V_iinc X 3 (l5 + (1 : Int32)) [(5, Value.int (l5 + (1 : Int32))), (0, Value.ref (ad 1001)), (3, Value.int l3), (4, Value.int l4)] d_Lt_indexOfChar_25 rfl (by first | rfl | decide) (by decide) rfl ?_
        refine V_goto X 7 d_Lt_indexOfChar_28 (by decide) ?_
        refine V_sub (lv' := [(0, Value.ref (ad 1001)), (3, Value.int l3), (4, Value.int l4), (5, Value.int (l5 + (1 : Int32)))]) [1, 2, 3, 0] rfl ?_
        exact ih (l5 + (1 : Int32)) h
      · skip
        refine V_iload X 3 d_Lt_indexOfChar_22 rfl ?_
        have h9 := wp_some h
        exact hQ _ h9 (fun h9 => absurd h9 (by decide)) _ _ d_Lt_indexOfChar_24
set_option maxHeartbeats 4000000 in
set_option maxRecDepth 100000 in
theorem k_Lt_indexOfChar (fu : Nat) (σ : Sg) (a1 : Int32) (a2 : Int32) (a3 : Int32) (r : Int32) (h : Lt_indexOfChar fu a1 a2 a3 = some r) : Evc y_Lt_indexOfChar prog_18_method_23_code 6 (some .int) 1 (fun ad => [Value.ref (ad 1001), Value.int a1, Value.int a2, Value.int a3]) σ σ (fun _ => some (.int r)) := by
  refine Evc_ofI (by decide) (fun ad => Nat.le_of_ble_eq_true rfl) (fun p l e R s m args below meth c D ad cI cB A Q X hQ => ?_)
  have X : Cx p R s m args meth c "java/lang/StringLatin1" prog_18_method_23_code 6 1 D ad cI cB A 0 0 := X
  have hQ := hQ.pure
  have h : wpO (Lt_indexOfChar fu a1 a2 a3) (fun q => q = r) := ⟨_, h, rfl⟩
  rw [Lt_indexOfChar] at h
  refine V_sub (lv' := [(0, Value.ref (ad 1001)), (1, Value.int a1), (2, Value.int a2), (3, Value.int a3)]) [0, 1, 2, 3] rfl ?_
  refine V_iload_n X 1 d_Lt_indexOfChar_0 rfl ?_
  refine V_i2b X d_Lt_indexOfChar_1 ?_
  refine V_istore X [(4, Value.int a1.toInt8.toInt32), (0, Value.ref (ad 1001)), (1, Value.int a1), (2, Value.int a2), (3, Value.int a3)] d_Lt_indexOfChar_2 (by decide) rfl ?_
  refine V_iload_n X 3 d_Lt_indexOfChar_4 rfl ?_
  refine V_istore X [(5, Value.int a2), (4, Value.int a1.toInt8.toInt32), (0, Value.ref (ad 1001)), (1, Value.int a1), (2, Value.int a2), (3, Value.int a3)] d_Lt_indexOfChar_5 (by decide) rfl ?_
  refine V_sub (lv' := [(0, Value.ref (ad 1001)), (3, Value.int a3), (4, Value.int a1.toInt8.toInt32), (5, Value.int a2)]) [2, 5, 1, 0] rfl ?_
  refine Lt_indexOfChar_L7_ok X fu a3 a1.toInt8.toInt32 σ _ hQ (fun l5_3 h => ?_) fu a2 h
  refine V_iconst (v := -1) X d_Lt_indexOfChar_31 (by decide) ?_
  have h9 := wp_some h
  exact hQ _ h9 (fun h9 => absurd h9 (by decide)) _ _ d_Lt_indexOfChar_32
set_option maxHeartbeats 4000000 in
set_option maxRecDepth 100000 in
theorem k_Lt_indexOf (fu : Nat) (σ : Sg) (a1 : Int32) (a2 : Int32) (a3 : Int32) (r : Int32) (h : Lt_indexOf fu a1 a2 a3 = some r) : Evc y_Lt_indexOf prog_18_method_22_code 4 (some .int) 2 (fun ad => [Value.ref (ad 1001), Value.int a1, Value.int a2, Value.int a3]) σ σ (fun _ => some (.int r)) := by
  refine Evc_ofI (by decide) (fun ad => Nat.le_of_ble_eq_true rfl) (fun p l e R s m args below meth c D ad cI cB A Q X hQ => ?_)
  have X : Cx p R s m args meth c "java/lang/StringLatin1" prog_18_method_22_code 4 2 D ad cI cB A 0 0 := X
  have hQ := hQ.pure
  have h : wpO (Lt_indexOf fu a1 a2 a3) (fun q => q = r) := ⟨_, h, rfl⟩
  rw [Lt_indexOf] at h
  refine V_sub (lv' := [(0, Value.ref (ad 1001)), (1, Value.int a1), (2, Value.int a2), (3, Value.int a3)]) [0, 1, 2, 3] rfl ?_
  refine V_iload_n X 1 d_Lt_indexOf_0 rfl ?_
  refine V_cI X h (fun r1 q => C_S X [Value.int a1] mt_Lt_canEncode ms_Lt_canEncode ml_Lt_88 (k_Lt_canEncode σ a1 r1 q) rfl rfl (by omega) (Nat.le_of_ble_eq_true rfl) d_Lt_indexOf_1) (fun r1 h => ?_)
  refine V_if_ne X 9 d_Lt_indexOf_4 (by decide) h (fun c2 h => ?_) (fun c2 h => ?_)
  · skip
    refine V_iload_n X 2 d_Lt_indexOf_9 rfl ?_
    refine V_iconst (v := 0) X d_Lt_indexOf_10 (by decide) ?_
    refine V_mmax X ml_Lt_92 d_Lt_indexOf_11 (by omega) (Nat.le_of_ble_eq_true rfl) ?_
    refine V_istore_n X [(2, Value.int (if a2 < (0 : Int32) then (0 : Int32) else a2)), (0, Value.ref (ad 1001)), (1, Value.int a1), (3, Value.int a3)] d_Lt_indexOf_14 (by decide) rfl ?_
    refine V_iload_n X 3 d_Lt_indexOf_15 rfl ?_
    refine V_aload_n X 1 d_Lt_indexOf_16 rfl ?_
    refine V_salen X d_Lt_indexOf_17 ?_
    refine V_mmin X ml_Lt_38 d_Lt_indexOf_18 (by omega) (Nat.le_of_ble_eq_true rfl) ?_
    refine V_istore_n X [(3, Value.int (if (5 : Int32) < a3 then (5 : Int32) else a3)), (2, Value.int (if a2 < (0 : Int32) then (0 : Int32) else a2)), (0, Value.ref (ad 1001)), (1, Value.int a1)] d_Lt_indexOf_21 (by decide) rfl ?_
    refine V_iload_n X 1 d_Lt_indexOf_22 rfl ?_
    refine V_iload_n X 0 d_Lt_indexOf_23 rfl ?_
    refine V_icmp_lt X 29 d_Lt_indexOf_24 (by decide) h (fun c3 h => ?_) (fun c3 h => ?_)
    · skip
      refine V_aload_n X 2 d_Lt_indexOf_29 rfl ?_
      refine V_iload_n X 3 d_Lt_indexOf_30 rfl ?_
      refine V_iload_n X 1 d_Lt_indexOf_31 rfl ?_
      refine V_iload_n X 0 d_Lt_indexOf_32 rfl ?_
      refine V_cI X h (fun r4 q => C_S X [Value.ref (ad 1001), Value.int a1, Value.int (if a2 < (0 : Int32) then (0 : Int32) else a2), Value.int (if (5 : Int32) < a3 then (5 : Int32) else a3)] mt_Lt_indexOfChar ms_Lt_indexOfChar ml_Lt_95 (k_Lt_indexOfChar fu σ a1 (if a2 < (0 : Int32) then (0 : Int32) else a2) (if (5 : Int32) < a3 then (5 : Int32) else a3) r4 q) rfl rfl (by omega) (Nat.le_of_ble_eq_true rfl) d_Lt_indexOf_33) (fun r4 h => ?_)
      have h9 := wp_some h
      exact hQ _ h9 (fun h9 => absurd h9 (by decide)) _ _ d_Lt_indexOf_36
    · skip
      refine V_iconst (v := -1) X d_Lt_indexOf_27 (by decide) ?_
      have h9 := wp_some h
      exact hQ _ h9 (fun h9 => absurd h9 (by decide)) _ _ d_Lt_indexOf_28
  · skip
    refine V_iconst (v := -1) X d_Lt_indexOf_7 (by decide) ?_
    have h9 := wp_some h
    exact hQ _ h9 (fun h9 => absurd h9 (by decide)) _ _ d_Lt_indexOf_8
set_option maxHeartbeats 4000000 in
set_option maxRecDepth 100000 in
theorem k_St_indexOf2 (fu : Nat) (σ : Sg) (a0 : Int32) (a1 : Int32) (r : Int32) (h : St_indexOf2 fu a0 a1 = some r) : Evc y_St_indexOf2 prog_17_method_80_code 3 (some .int) 3 (fun ad => [Value.ref (ad 1000), Value.int a0, Value.int a1]) σ σ (fun _ => some (.int r)) := by
  refine Evc_ofI (by decide) (fun ad => Nat.le_of_ble_eq_true rfl) (fun p l e R s m args below meth c D ad cI cB A Q X hQ => ?_)
  have X : Cx p R s m args meth c "java/lang/String" prog_17_method_80_code 3 3 D ad cI cB A 0 0 := X
  have hQ := hQ.pure
  have h : wpO (St_indexOf2 fu a0 a1) (fun q => q = r) := ⟨_, h, rfl⟩
  rw [St_indexOf2] at h
  refine V_sub (lv' := [(0, Value.ref (ad 1000)), (1, Value.int a0), (2, Value.int a1)]) [0, 1, 2] rfl ?_
  refine V_aload_n X 0 d_St_indexOf2_0 rfl ?_
  refine V_cI X h (fun r1 q => C_VS X [] mt_St_isLatin1 ms_St_isLatin1 ml_St_492 (k_St_isLatin1 σ r1 q) rfl rfl (by omega) (Nat.le_of_ble_eq_true rfl) d_St_indexOf2_1) (fun r1 h => ?_)
  refine V_if_eq X 23 d_St_indexOf2_4 (by decide) h (fun c2 h => ?_) (fun c2 h => ?_)
  · skip
    refine V_aload_n X 0 d_St_indexOf2_23 rfl ?_
    refine V_sgetV X d_St_indexOf2_24 ?_
    refine V_iload_n X 1 d_St_indexOf2_27 rfl ?_
    refine V_iload_n X 2 d_St_indexOf2_28 rfl ?_
    refine V_aload_n X 0 d_St_indexOf2_29 rfl ?_
    refine V_cI X h (fun r3 q => C_VS X [] mt_St_length ms_St_length ml_St_505 (k_St_length σ r3 q) rfl rfl (by omega) (Nat.le_of_ble_eq_true rfl) d_St_indexOf2_30) (fun r3 h => ?_)
    exact (wp_none h).elim
  · skip
    refine V_aload_n X 0 d_St_indexOf2_7 rfl ?_
    refine V_sgetV X d_St_indexOf2_8 ?_
    refine V_iload_n X 1 d_St_indexOf2_11 rfl ?_
    refine V_iload_n X 2 d_St_indexOf2_12 rfl ?_
    refine V_aload_n X 0 d_St_indexOf2_13 rfl ?_
    refine V_cI X h (fun r4 q => C_VS X [] mt_St_length ms_St_length ml_St_505 (k_St_length σ r4 q) rfl rfl (by omega) (Nat.le_of_ble_eq_true rfl) d_St_indexOf2_14) (fun r4 h => ?_)
    refine V_cI X h (fun r5 q => C_S X [Value.ref (ad 1001), Value.int a0, Value.int a1, Value.int r4] mt_Lt_indexOf ms_Lt_indexOf ml_St_637 (k_Lt_indexOf fu σ a0 a1 r4 r5 q) rfl rfl (by omega) (Nat.le_of_ble_eq_true rfl) d_St_indexOf2_17) (fun r5 h => ?_)
    refine V_goto X 36 d_St_indexOf2_20 (by decide) ?_
    have h9 := wp_some h
    exact hQ _ h9 (fun h9 => absurd h9 (by decide)) _ _ d_St_indexOf2_36
set_option maxHeartbeats 4000000 in
set_option maxRecDepth 100000 in
theorem k_St_indexOf (fu : Nat) (σ : Sg) (a0 : Int32) (r : Int32) (h : St_indexOf fu a0 = some r) : Evc y_St_indexOf prog_17_method_79_code 2 (some .int) 4 (fun ad => [Value.ref (ad 1000), Value.int a0]) σ σ (fun _ => some (.int r)) := by
  refine Evc_ofI (by decide) (fun ad => Nat.le_of_ble_eq_true rfl) (fun p l e R s m args below meth c D ad cI cB A Q X hQ => ?_)
  have X : Cx p R s m args meth c "java/lang/String" prog_17_method_79_code 2 4 D ad cI cB A 0 0 := X
  have hQ := hQ.pure
  have h : wpO (St_indexOf fu a0) (fun q => q = r) := ⟨_, h, rfl⟩
  rw [St_indexOf] at h
  refine V_sub (lv' := [(0, Value.ref (ad 1000)), (1, Value.int a0)]) [0, 1] rfl ?_
  refine V_aload_n X 0 d_St_indexOf_0 rfl ?_
  refine V_iload_n X 1 d_St_indexOf_1 rfl ?_
  refine V_iconst (v := 0) X d_St_indexOf_2 (by decide) ?_
  refine V_cI X h (fun r1 q => C_VS X [Value.int a0, Value.int (0 : Int32)] mt_St_indexOf2 ms_St_indexOf2 ml_St_633 (k_St_indexOf2 fu σ a0 (0 : Int32) r1 q) rfl rfl (by omega) (Nat.le_of_ble_eq_true rfl) d_St_indexOf_3) (fun r1 h => ?_)
  have h9 := wp_some h
  exact hQ _ h9 (fun h9 => absurd h9 (by decide)) _ _ d_St_indexOf_6
theorem bindV_some' {α β : Type} (a : α) (g : α → Option β) : bindV (some a) g = g a := rfl
theorem kix_lo : ∀ i, i < 256 → (match St_indexOf 10 (nI i) with | some r => r == kIndex (nI i) | none => false) = true := by decide +kernel
theorem St_indexOf_is (x : Int32) : St_indexOf 10 x = some (kIndex x) := by
  by_cases h : x.toUInt32.toNat < 256
  · have e : x = nI x.toUInt32.toNat := by
      apply Int32.toBitVec_inj.mp
      show x.toBitVec = BitVec.ofNat 32 x.toBitVec.toNat
      rw [BitVec.ofNat_toNat]
      simp
    have h1 := kix_lo _ h
    rw [← e] at h1
    revert h1
    cases St_indexOf 10 x with
    | none => intro h1; cases h1
    | some r => intro h1; rw [eq_of_beq h1]
  · have ne : ∀ n, n < 256 → x ≠ nI n := by
      rintro n hn rfl
      apply h
      have : (nI n).toUInt32.toNat = n := by
        show (BitVec.ofNat 32 n).toNat = n
        rw [BitVec.toNat_ofNat]
        omega
      omega
    have hc : Lt_canEncode x = some 0 := by
      rw [Lt_canEncode]
      by_cases h0 : x < 0
      · rw [if_pos h0]
      · rw [if_neg h0]
        by_cases h1 : (255 : Int32) < x
        · rw [if_pos h1]
        · exfalso
          obtain ⟨j, hj, rfl⟩ := nI_of h0
          have h2 : ¬ 255 < j := fun z => h1 ((nI_ltI (a := 255) (by omega) hj).mpr z)
          exact ne j (by omega) rfl
    have hk : kIndex x = -1 := by
      have e99 : ¬ x = 99 := ne 99 (by decide)
      have e109 : ¬ x = 109 := ne 109 (by decide)
      have e117 : ¬ x = 117 := ne 117 (by decide)
      have e111 : ¬ x = 111 := ne 111 (by decide)
      have e97 : ¬ x = 97 := ne 97 (by decide)
      rw [kIndex, if_neg e99, if_neg e109, if_neg e117, if_neg e111, if_neg e97]
    rw [hk, St_indexOf, St_indexOf2, St_isLatin1, bindV_some', if_neg (by decide), St_length, St_coder, bindV_some', bindV_some', Lt_indexOf, hc, bindV_some', if_neg (by decide), bindV_some', bindV_some']
/-! THE ONE CALL of a text's method: indexOf on the constant -/
theorem V_kidx {p : Program} {l : Launch} {e : Env} {R : Room} {s : State} {m : MethodId} {args : Array Value} {below : List Frame} {meth : Method} {c : Code} {own : String} {cc : ByteArray} {nL d : Nat} {D : va_G} {ad : Nat → Nat} {cI cB : ClassId} {A : Nat → Prop} {cells slots : Nat} {Q : State → Prop} {σ : Sg} {pc : Nat} {lv : List (Nat × Value)} {rest : List Value} (X : Cx p R s m args meth c own cc nL d D ad cI cB A cells slots) {idx : Nat} {x : Int32} (ml : Cond.methodLink own idx ⟨"java/lang/String", "indexOf", "(I)I"⟩ ∈ gtbl) (hd : decode cc pc = .ok (.invokevirtual idx, 3)) (h1 : 6 ≤ d) (hr8 : (rest.map fun v => v.category).sum ≤ 8) (k : V p l e R s m args below meth c nL D A cells slots Q (wl ad cI cB σ) (pc + 3) lv (.int (kIndex x) :: rest)) : V p l e R s m args below meth c nL D A cells slots Q (wl ad cI cB σ) pc lv (.int x :: .ref (ad 1000) :: rest) :=
  V_call X (C_VS X [Value.int x] mt_St_indexOf ms_St_indexOf ml (k_St_indexOf 10 σ x (kIndex x) (St_indexOf_is x)) rfl rfl (by omega) hr8 hd) k

