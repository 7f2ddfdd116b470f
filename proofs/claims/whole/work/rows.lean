section
-- ===== PART A: goes FIRST, ahead of the names: the tables' words, and 'selects' of the private methods out of them =====
/-- a private method of a class that the tables say can be made, by its rows of tables_1 -/
def lw_okq (q : MethodName × Nat) : Prop := (q.1.cls ≠ "java/lang/invoke/MethodHandle" ∧ q.1.cls ≠ "java/lang/invoke/VarHandle") ∧ Cond.instantiable q.1.cls q.2 ∈ tables_1 ∧ Cond.privateMethod q.1 ∈ tables_1 ∧ Cond.instanceMethod q.1 ∈ tables_1
theorem lw_p0 : lw_okq (⟨"MistletoeCourt$Reader", "takes", "(I)Z"⟩, 4) := ⟨⟨by decide +kernel, by decide +kernel⟩, List.mem_of_getElem? (i := 53) (by decide +kernel), List.mem_of_getElem? (i := 298) (by decide +kernel), List.mem_of_getElem? (i := 299) (by decide +kernel)⟩
theorem lw_p1 : lw_okq (⟨"MistletoeCourt$Reader", "takesDigitOfTree", "(I)Z"⟩, 4) := ⟨⟨by decide +kernel, by decide +kernel⟩, List.mem_of_getElem? (i := 53) (by decide +kernel), List.mem_of_getElem? (i := 302) (by decide +kernel), List.mem_of_getElem? (i := 303) (by decide +kernel)⟩
theorem lw_p2 : lw_okq (⟨"MistletoeCourt$Reader", "goesOn", "(ZI)Z"⟩, 4) := ⟨⟨by decide +kernel, by decide +kernel⟩, List.mem_of_getElem? (i := 53) (by decide +kernel), List.mem_of_getElem? (i := 309) (by decide +kernel), List.mem_of_getElem? (i := 310) (by decide +kernel)⟩
theorem lw_p3 : lw_okq (⟨"MistletoeCourt$Reader", "takesTreeEnd", "(I)Z"⟩, 4) := ⟨⟨by decide +kernel, by decide +kernel⟩, List.mem_of_getElem? (i := 53) (by decide +kernel), List.mem_of_getElem? (i := 313) (by decide +kernel), List.mem_of_getElem? (i := 314) (by decide +kernel)⟩
theorem lw_p4 : lw_okq (⟨"MistletoeCourt$Reader", "takesHang", "(I)Z"⟩, 4) := ⟨⟨by decide +kernel, by decide +kernel⟩, List.mem_of_getElem? (i := 53) (by decide +kernel), List.mem_of_getElem? (i := 404) (by decide +kernel), List.mem_of_getElem? (i := 405) (by decide +kernel)⟩
theorem lw_p5 : lw_okq (⟨"MistletoeCourt$Guesser", "leftAtWorst", "(III)I"⟩, 1) := ⟨⟨by decide +kernel, by decide +kernel⟩, List.mem_of_getElem? (i := 144) (by decide +kernel), List.mem_of_getElem? (i := 555) (by decide +kernel), List.mem_of_getElem? (i := 556) (by decide +kernel)⟩
theorem lw_p6 : lw_okq (⟨"MistletoeCourt", "isRead", "()Z"⟩, 11) := ⟨⟨by decide +kernel, by decide +kernel⟩, List.mem_of_getElem? (i := 21) (by decide +kernel), List.mem_of_getElem? (i := 591) (by decide +kernel), List.mem_of_getElem? (i := 592) (by decide +kernel)⟩
theorem lw_p7 : lw_okq (⟨"MistletoeCourt$Planner", "placeFrom", "(III)V"⟩, 6) := ⟨⟨by decide +kernel, by decide +kernel⟩, List.mem_of_getElem? (i := 154) (by decide +kernel), List.mem_of_getElem? (i := 651) (by decide +kernel), List.mem_of_getElem? (i := 652) (by decide +kernel)⟩
theorem lw_p8 : lw_okq (⟨"MistletoeCourt$Planner", "canBeBetter", "(III)Z"⟩, 6) := ⟨⟨by decide +kernel, by decide +kernel⟩, List.mem_of_getElem? (i := 154) (by decide +kernel), List.mem_of_getElem? (i := 655) (by decide +kernel), List.mem_of_getElem? (i := 656) (by decide +kernel)⟩
theorem lw_p9 : lw_okq (⟨"MistletoeCourt$Planner", "placeAtEachTree", "(III)V"⟩, 6) := ⟨⟨by decide +kernel, by decide +kernel⟩, List.mem_of_getElem? (i := 154) (by decide +kernel), List.mem_of_getElem? (i := 670) (by decide +kernel), List.mem_of_getElem? (i := 671) (by decide +kernel)⟩
theorem lw_p10 : lw_okq (⟨"MistletoeCourt$Contest", "bestLead", "(I)I"⟩, 5) := ⟨⟨by decide +kernel, by decide +kernel⟩, List.mem_of_getElem? (i := 181) (by decide +kernel), List.mem_of_getElem? (i := 701) (by decide +kernel), List.mem_of_getElem? (i := 702) (by decide +kernel)⟩
theorem lw_p11 : lw_okq (⟨"MistletoeCourt$Contest", "costOf", "(I)I"⟩, 5) := ⟨⟨by decide +kernel, by decide +kernel⟩, List.mem_of_getElem? (i := 181) (by decide +kernel), List.mem_of_getElem? (i := 705) (by decide +kernel), List.mem_of_getElem? (i := 706) (by decide +kernel)⟩
theorem lw_p12 : lw_okq (⟨"MistletoeCourt$Foresight", "draw", "(I)I"⟩, 3) := ⟨⟨by decide +kernel, by decide +kernel⟩, List.mem_of_getElem? (i := 205) (by decide +kernel), List.mem_of_getElem? (i := 775) (by decide +kernel), List.mem_of_getElem? (i := 776) (by decide +kernel)⟩
theorem lw_p13 : lw_okq (⟨"MistletoeCourtModel", "read", "()I"⟩, 46) := ⟨⟨by decide +kernel, by decide +kernel⟩, List.mem_of_getElem? (i := 843) (by decide +kernel), List.mem_of_getElem? (i := 1003) (by decide +kernel), List.mem_of_getElem? (i := 1004) (by decide +kernel)⟩
theorem lw_p14 : lw_okq (⟨"MistletoeCourtModel", "isFigure", "(III)Z"⟩, 46) := ⟨⟨by decide +kernel, by decide +kernel⟩, List.mem_of_getElem? (i := 843) (by decide +kernel), List.mem_of_getElem? (i := 1007) (by decide +kernel), List.mem_of_getElem? (i := 1008) (by decide +kernel)⟩
theorem lw_p15 : lw_okq (⟨"MistletoeCourtModel", "at", "(I)I"⟩, 46) := ⟨⟨by decide +kernel, by decide +kernel⟩, List.mem_of_getElem? (i := 843) (by decide +kernel), List.mem_of_getElem? (i := 1011) (by decide +kernel), List.mem_of_getElem? (i := 1012) (by decide +kernel)⟩
def lw_privs_1 : List (MethodName × Nat) := [(⟨"MistletoeCourt$Reader", "takes", "(I)Z"⟩, 4), (⟨"MistletoeCourt$Reader", "takesDigitOfTree", "(I)Z"⟩, 4), (⟨"MistletoeCourt$Reader", "goesOn", "(ZI)Z"⟩, 4), (⟨"MistletoeCourt$Reader", "takesTreeEnd", "(I)Z"⟩, 4), (⟨"MistletoeCourt$Reader", "takesHang", "(I)Z"⟩, 4), (⟨"MistletoeCourt$Guesser", "leftAtWorst", "(III)I"⟩, 1), (⟨"MistletoeCourt", "isRead", "()Z"⟩, 11), (⟨"MistletoeCourt$Planner", "placeFrom", "(III)V"⟩, 6), (⟨"MistletoeCourt$Planner", "canBeBetter", "(III)Z"⟩, 6), (⟨"MistletoeCourt$Planner", "placeAtEachTree", "(III)V"⟩, 6), (⟨"MistletoeCourt$Contest", "bestLead", "(I)I"⟩, 5), (⟨"MistletoeCourt$Contest", "costOf", "(I)I"⟩, 5), (⟨"MistletoeCourt$Foresight", "draw", "(I)I"⟩, 3), (⟨"MistletoeCourtModel", "read", "()I"⟩, 46), (⟨"MistletoeCourtModel", "isFigure", "(III)Z"⟩, 46), (⟨"MistletoeCourtModel", "at", "(I)I"⟩, 46)]
theorem lw_r1 : ∀ q ∈ lw_privs_1, lw_okq q := List.forall_mem_cons.mpr ⟨lw_p0, List.forall_mem_cons.mpr ⟨lw_p1, List.forall_mem_cons.mpr ⟨lw_p2, List.forall_mem_cons.mpr ⟨lw_p3, List.forall_mem_cons.mpr ⟨lw_p4, List.forall_mem_cons.mpr ⟨lw_p5, List.forall_mem_cons.mpr ⟨lw_p6, List.forall_mem_cons.mpr ⟨lw_p7, List.forall_mem_cons.mpr ⟨lw_p8, List.forall_mem_cons.mpr ⟨lw_p9, List.forall_mem_cons.mpr ⟨lw_p10, List.forall_mem_cons.mpr ⟨lw_p11, List.forall_mem_cons.mpr ⟨lw_p12, List.forall_mem_cons.mpr ⟨lw_p13, List.forall_mem_cons.mpr ⟨lw_p14, List.forall_mem_cons.mpr ⟨lw_p15, fun _ h => absurd h List.not_mem_nil⟩⟩⟩⟩⟩⟩⟩⟩⟩⟩⟩⟩⟩⟩⟩⟩
theorem lw_p16 : lw_okq (⟨"MistletoeCourtModel", "readCases", "(I)I"⟩, 46) := ⟨⟨by decide +kernel, by decide +kernel⟩, List.mem_of_getElem? (i := 843) (by decide +kernel), List.mem_of_getElem? (i := 1015) (by decide +kernel), List.mem_of_getElem? (i := 1016) (by decide +kernel)⟩
theorem lw_p17 : lw_okq (⟨"MistletoeCourtModel", "readCase", "(I)I"⟩, 46) := ⟨⟨by decide +kernel, by decide +kernel⟩, List.mem_of_getElem? (i := 843) (by decide +kernel), List.mem_of_getElem? (i := 1019) (by decide +kernel), List.mem_of_getElem? (i := 1020) (by decide +kernel)⟩
theorem lw_p18 : lw_okq (⟨"MistletoeCourtModel", "isTree", "(I)Z"⟩, 46) := ⟨⟨by decide +kernel, by decide +kernel⟩, List.mem_of_getElem? (i := 843) (by decide +kernel), List.mem_of_getElem? (i := 1034) (by decide +kernel), List.mem_of_getElem? (i := 1035) (by decide +kernel)⟩
theorem lw_p19 : lw_okq (⟨"MistletoeCourtModel", "treeNow", "(II)I"⟩, 46) := ⟨⟨by decide +kernel, by decide +kernel⟩, List.mem_of_getElem? (i := 843) (by decide +kernel), List.mem_of_getElem? (i := 1038) (by decide +kernel), List.mem_of_getElem? (i := 1039) (by decide +kernel)⟩
theorem lw_p20 : lw_okq (⟨"MistletoeCourtModel", "mayRight", "(II)Z"⟩, 46) := ⟨⟨by decide +kernel, by decide +kernel⟩, List.mem_of_getElem? (i := 843) (by decide +kernel), List.mem_of_getElem? (i := 1042) (by decide +kernel), List.mem_of_getElem? (i := 1043) (by decide +kernel)⟩
theorem lw_p21 : lw_okq (⟨"MistletoeCourtModel", "isOpen", "(II)Z"⟩, 46) := ⟨⟨by decide +kernel, by decide +kernel⟩, List.mem_of_getElem? (i := 843) (by decide +kernel), List.mem_of_getElem? (i := 1046) (by decide +kernel), List.mem_of_getElem? (i := 1047) (by decide +kernel)⟩
theorem lw_p22 : lw_okq (⟨"MistletoeCourtModel", "cost", "(I)I"⟩, 46) := ⟨⟨by decide +kernel, by decide +kernel⟩, List.mem_of_getElem? (i := 843) (by decide +kernel), List.mem_of_getElem? (i := 1053) (by decide +kernel), List.mem_of_getElem? (i := 1054) (by decide +kernel)⟩
theorem lw_p23 : lw_okq (⟨"MistletoeCourtModel", "straight", "(I)I"⟩, 46) := ⟨⟨by decide +kernel, by decide +kernel⟩, List.mem_of_getElem? (i := 843) (by decide +kernel), List.mem_of_getElem? (i := 1057) (by decide +kernel), List.mem_of_getElem? (i := 1058) (by decide +kernel)⟩
theorem lw_p24 : lw_okq (⟨"MistletoeCourtModel", "isCase", "(I)Z"⟩, 46) := ⟨⟨by decide +kernel, by decide +kernel⟩, List.mem_of_getElem? (i := 843) (by decide +kernel), List.mem_of_getElem? (i := 1065) (by decide +kernel), List.mem_of_getElem? (i := 1066) (by decide +kernel)⟩
theorem lw_p25 : lw_okq (⟨"MistletoeCourtModel", "suitNow", "(II)I"⟩, 46) := ⟨⟨by decide +kernel, by decide +kernel⟩, List.mem_of_getElem? (i := 843) (by decide +kernel), List.mem_of_getElem? (i := 1069) (by decide +kernel), List.mem_of_getElem? (i := 1070) (by decide +kernel)⟩
theorem lw_p26 : lw_okq (⟨"MistletoeCourtModel", "allOn", "(I)I"⟩, 46) := ⟨⟨by decide +kernel, by decide +kernel⟩, List.mem_of_getElem? (i := 843) (by decide +kernel), List.mem_of_getElem? (i := 1073) (by decide +kernel), List.mem_of_getElem? (i := 1074) (by decide +kernel)⟩
theorem lw_p27 : lw_okq (⟨"MistletoeCourtModel", "needsOf", "(I)I"⟩, 46) := ⟨⟨by decide +kernel, by decide +kernel⟩, List.mem_of_getElem? (i := 843) (by decide +kernel), List.mem_of_getElem? (i := 1080) (by decide +kernel), List.mem_of_getElem? (i := 1081) (by decide +kernel)⟩
theorem lw_p28 : lw_okq (⟨"MistletoeCourtModel", "costWith", "(II)I"⟩, 46) := ⟨⟨by decide +kernel, by decide +kernel⟩, List.mem_of_getElem? (i := 843) (by decide +kernel), List.mem_of_getElem? (i := 1084) (by decide +kernel), List.mem_of_getElem? (i := 1085) (by decide +kernel)⟩
theorem lw_p29 : lw_okq (⟨"MistletoeCourtModel", "tryFor", "(I)I"⟩, 46) := ⟨⟨by decide +kernel, by decide +kernel⟩, List.mem_of_getElem? (i := 843) (by decide +kernel), List.mem_of_getElem? (i := 1088) (by decide +kernel), List.mem_of_getElem? (i := 1089) (by decide +kernel)⟩
theorem lw_p30 : lw_okq (⟨"MistletoeCourtModel", "goYear", "()V"⟩, 46) := ⟨⟨by decide +kernel, by decide +kernel⟩, List.mem_of_getElem? (i := 843) (by decide +kernel), List.mem_of_getElem? (i := 1105) (by decide +kernel), List.mem_of_getElem? (i := 1106) (by decide +kernel)⟩
theorem lw_p31 : lw_okq (⟨"MistletoeCourtModel", "worthIn", "(I)I"⟩, 46) := ⟨⟨by decide +kernel, by decide +kernel⟩, List.mem_of_getElem? (i := 843) (by decide +kernel), List.mem_of_getElem? (i := 1121) (by decide +kernel), List.mem_of_getElem? (i := 1122) (by decide +kernel)⟩
def lw_privs_2 : List (MethodName × Nat) := [(⟨"MistletoeCourtModel", "readCases", "(I)I"⟩, 46), (⟨"MistletoeCourtModel", "readCase", "(I)I"⟩, 46), (⟨"MistletoeCourtModel", "isTree", "(I)Z"⟩, 46), (⟨"MistletoeCourtModel", "treeNow", "(II)I"⟩, 46), (⟨"MistletoeCourtModel", "mayRight", "(II)Z"⟩, 46), (⟨"MistletoeCourtModel", "isOpen", "(II)Z"⟩, 46), (⟨"MistletoeCourtModel", "cost", "(I)I"⟩, 46), (⟨"MistletoeCourtModel", "straight", "(I)I"⟩, 46), (⟨"MistletoeCourtModel", "isCase", "(I)Z"⟩, 46), (⟨"MistletoeCourtModel", "suitNow", "(II)I"⟩, 46), (⟨"MistletoeCourtModel", "allOn", "(I)I"⟩, 46), (⟨"MistletoeCourtModel", "needsOf", "(I)I"⟩, 46), (⟨"MistletoeCourtModel", "costWith", "(II)I"⟩, 46), (⟨"MistletoeCourtModel", "tryFor", "(I)I"⟩, 46), (⟨"MistletoeCourtModel", "goYear", "()V"⟩, 46), (⟨"MistletoeCourtModel", "worthIn", "(I)I"⟩, 46)]
theorem lw_r2 : ∀ q ∈ lw_privs_2, lw_okq q := List.forall_mem_cons.mpr ⟨lw_p16, List.forall_mem_cons.mpr ⟨lw_p17, List.forall_mem_cons.mpr ⟨lw_p18, List.forall_mem_cons.mpr ⟨lw_p19, List.forall_mem_cons.mpr ⟨lw_p20, List.forall_mem_cons.mpr ⟨lw_p21, List.forall_mem_cons.mpr ⟨lw_p22, List.forall_mem_cons.mpr ⟨lw_p23, List.forall_mem_cons.mpr ⟨lw_p24, List.forall_mem_cons.mpr ⟨lw_p25, List.forall_mem_cons.mpr ⟨lw_p26, List.forall_mem_cons.mpr ⟨lw_p27, List.forall_mem_cons.mpr ⟨lw_p28, List.forall_mem_cons.mpr ⟨lw_p29, List.forall_mem_cons.mpr ⟨lw_p30, List.forall_mem_cons.mpr ⟨lw_p31, fun _ h => absurd h List.not_mem_nil⟩⟩⟩⟩⟩⟩⟩⟩⟩⟩⟩⟩⟩⟩⟩⟩
theorem lw_p32 : lw_okq (⟨"MistletoeCourtModel", "planNow", "(I)I"⟩, 46) := ⟨⟨by decide +kernel, by decide +kernel⟩, List.mem_of_getElem? (i := 843) (by decide +kernel), List.mem_of_getElem? (i := 1129) (by decide +kernel), List.mem_of_getElem? (i := 1130) (by decide +kernel)⟩
theorem lw_p33 : lw_okq (⟨"MistletoeCourtModel", "canBe", "()Z"⟩, 46) := ⟨⟨by decide +kernel, by decide +kernel⟩, List.mem_of_getElem? (i := 843) (by decide +kernel), List.mem_of_getElem? (i := 1133) (by decide +kernel), List.mem_of_getElem? (i := 1134) (by decide +kernel)⟩
theorem lw_p34 : lw_okq (⟨"MistletoeCourtModel", "nextRow", "()Z"⟩, 46) := ⟨⟨by decide +kernel, by decide +kernel⟩, List.mem_of_getElem? (i := 843) (by decide +kernel), List.mem_of_getElem? (i := 1137) (by decide +kernel), List.mem_of_getElem? (i := 1138) (by decide +kernel)⟩
theorem lw_p35 : lw_okq (⟨"MistletoeCourtModel", "gameNow", "(II)I"⟩, 46) := ⟨⟨by decide +kernel, by decide +kernel⟩, List.mem_of_getElem? (i := 843) (by decide +kernel), List.mem_of_getElem? (i := 1145) (by decide +kernel), List.mem_of_getElem? (i := 1146) (by decide +kernel)⟩
theorem lw_p36 : lw_okq (⟨"MistletoeCourtModel", "bestNext", "(II)I"⟩, 46) := ⟨⟨by decide +kernel, by decide +kernel⟩, List.mem_of_getElem? (i := 843) (by decide +kernel), List.mem_of_getElem? (i := 1149) (by decide +kernel), List.mem_of_getElem? (i := 1150) (by decide +kernel)⟩
theorem lw_p37 : lw_okq (⟨"MistletoeCourtModel", "mayNext", "(III)Z"⟩, 46) := ⟨⟨by decide +kernel, by decide +kernel⟩, List.mem_of_getElem? (i := 843) (by decide +kernel), List.mem_of_getElem? (i := 1153) (by decide +kernel), List.mem_of_getElem? (i := 1154) (by decide +kernel)⟩
theorem lw_p38 : lw_okq (⟨"MistletoeCourtModel", "costIn", "(I)I"⟩, 46) := ⟨⟨by decide +kernel, by decide +kernel⟩, List.mem_of_getElem? (i := 843) (by decide +kernel), List.mem_of_getElem? (i := 1157) (by decide +kernel), List.mem_of_getElem? (i := 1158) (by decide +kernel)⟩
theorem lw_p39 : lw_okq (⟨"MistletoeCourtModel", "oddsNow", "(IIII)I"⟩, 46) := ⟨⟨by decide +kernel, by decide +kernel⟩, List.mem_of_getElem? (i := 843) (by decide +kernel), List.mem_of_getElem? (i := 1165) (by decide +kernel), List.mem_of_getElem? (i := 1166) (by decide +kernel)⟩
theorem lw_p40 : lw_okq (⟨"MistletoeCourtModel", "centuriesNow", "(III)I"⟩, 46) := ⟨⟨by decide +kernel, by decide +kernel⟩, List.mem_of_getElem? (i := 843) (by decide +kernel), List.mem_of_getElem? (i := 1184) (by decide +kernel), List.mem_of_getElem? (i := 1185) (by decide +kernel)⟩
theorem lw_p41 : lw_okq (⟨"MistletoeCourtModel", "draw", "(I)I"⟩, 46) := ⟨⟨by decide +kernel, by decide +kernel⟩, List.mem_of_getElem? (i := 843) (by decide +kernel), List.mem_of_getElem? (i := 1188) (by decide +kernel), List.mem_of_getElem? (i := 1189) (by decide +kernel)⟩
theorem lw_p42 : lw_okq (⟨"MistletoeCourtModel", "howMany", "(I)I"⟩, 46) := ⟨⟨by decide +kernel, by decide +kernel⟩, List.mem_of_getElem? (i := 843) (by decide +kernel), List.mem_of_getElem? (i := 1208) (by decide +kernel), List.mem_of_getElem? (i := 1209) (by decide +kernel)⟩
theorem lw_p43 : lw_okq (⟨"MistletoeCourtModel", "ofTrees", "(I)I"⟩, 46) := ⟨⟨by decide +kernel, by decide +kernel⟩, List.mem_of_getElem? (i := 843) (by decide +kernel), List.mem_of_getElem? (i := 1212) (by decide +kernel), List.mem_of_getElem? (i := 1213) (by decide +kernel)⟩
theorem lw_p44 : lw_okq (⟨"MistletoeCourtModel", "mix", "(J)V"⟩, 46) := ⟨⟨by decide +kernel, by decide +kernel⟩, List.mem_of_getElem? (i := 843) (by decide +kernel), List.mem_of_getElem? (i := 1221) (by decide +kernel), List.mem_of_getElem? (i := 1222) (by decide +kernel)⟩
def lw_privs_3 : List (MethodName × Nat) := [(⟨"MistletoeCourtModel", "planNow", "(I)I"⟩, 46), (⟨"MistletoeCourtModel", "canBe", "()Z"⟩, 46), (⟨"MistletoeCourtModel", "nextRow", "()Z"⟩, 46), (⟨"MistletoeCourtModel", "gameNow", "(II)I"⟩, 46), (⟨"MistletoeCourtModel", "bestNext", "(II)I"⟩, 46), (⟨"MistletoeCourtModel", "mayNext", "(III)Z"⟩, 46), (⟨"MistletoeCourtModel", "costIn", "(I)I"⟩, 46), (⟨"MistletoeCourtModel", "oddsNow", "(IIII)I"⟩, 46), (⟨"MistletoeCourtModel", "centuriesNow", "(III)I"⟩, 46), (⟨"MistletoeCourtModel", "draw", "(I)I"⟩, 46), (⟨"MistletoeCourtModel", "howMany", "(I)I"⟩, 46), (⟨"MistletoeCourtModel", "ofTrees", "(I)I"⟩, 46), (⟨"MistletoeCourtModel", "mix", "(J)V"⟩, 46)]
theorem lw_r3 : ∀ q ∈ lw_privs_3, lw_okq q := List.forall_mem_cons.mpr ⟨lw_p32, List.forall_mem_cons.mpr ⟨lw_p33, List.forall_mem_cons.mpr ⟨lw_p34, List.forall_mem_cons.mpr ⟨lw_p35, List.forall_mem_cons.mpr ⟨lw_p36, List.forall_mem_cons.mpr ⟨lw_p37, List.forall_mem_cons.mpr ⟨lw_p38, List.forall_mem_cons.mpr ⟨lw_p39, List.forall_mem_cons.mpr ⟨lw_p40, List.forall_mem_cons.mpr ⟨lw_p41, List.forall_mem_cons.mpr ⟨lw_p42, List.forall_mem_cons.mpr ⟨lw_p43, List.forall_mem_cons.mpr ⟨lw_p44, fun _ h => absurd h List.not_mem_nil⟩⟩⟩⟩⟩⟩⟩⟩⟩⟩⟩⟩⟩
def lw_privs : List (MethodName × Nat) := lw_privs_1 ++ (lw_privs_2 ++ (lw_privs_3))
def lw_tbl : List Cond := k2_sels lw_privs ++ tables_1
theorem lw_privs_ok : ∀ q ∈ lw_privs, lw_okq q := by
  show ∀ q ∈ lw_privs_1 ++ (lw_privs_2 ++ (lw_privs_3)), lw_okq q
  exact List.forall_mem_append.mpr ⟨lw_r1, List.forall_mem_append.mpr ⟨lw_r2, lw_r3⟩⟩
end
section
/-! THE FRAME: after the constructors the heap has a fixed shape of 116 cells; the state is what the ints, the arrays and the longs hold -/
def gtbl : List Cond := lw_tbl.filter goodWord
theorem gt_of {w : Cond} (i : Nat) (h : lw_tbl[i]? = some w) (hg : goodWord w = true) : w ∈ gtbl := List.mem_filter.mpr ⟨List.mem_of_getElem? h, hg⟩
def jR0 : String := "MistletoeCourt"
def jT0 : u_T := fun k => match k with
  | 0 => ("MistletoeCourt", "page", "LMistletoeCourt$Page;", true)
  | 1 => ("MistletoeCourt", "reader", "LMistletoeCourt$Reader;", true)
  | 2 => ("MistletoeCourt", "now", "LMistletoeCourt$Shire;", true)
  | 3 => ("MistletoeCourt", "kept", "LMistletoeCourt$Shire;", true)
  | 4 => ("MistletoeCourt", "guesser", "LMistletoeCourt$Guesser;", true)
  | 5 => ("MistletoeCourt", "planner", "LMistletoeCourt$Planner;", true)
  | 6 => ("MistletoeCourt", "contest", "LMistletoeCourt$Contest;", true)
  | 7 => ("MistletoeCourt", "foresight", "LMistletoeCourt$Foresight;", true)
  | 8 => ("MistletoeCourt", "isKept", "Z", false)
  | 9 => ("MistletoeCourt", "readings", "I", false)
  | _ => ("MistletoeCourt", "plans", "I", false)
def jt0 : Nat → FieldType := fun k => match k with
  | 0 => .object "MistletoeCourt$Page"
  | 1 => .object "MistletoeCourt$Reader"
  | 2 => .object "MistletoeCourt$Shire"
  | 3 => .object "MistletoeCourt$Shire"
  | 4 => .object "MistletoeCourt$Guesser"
  | 5 => .object "MistletoeCourt$Planner"
  | 6 => .object "MistletoeCourt$Contest"
  | 7 => .object "MistletoeCourt$Foresight"
  | 8 => .boolean
  | 9 => .int
  | _ => .int
theorem jn0 : ∀ a, a < 11 → ∀ b, b < 11 → a ≠ b → (jT0 a).2.1 ≠ (jT0 b).2.1 := by decide +kernel
theorem jk0 : ∀ k, k < 11 → parseFieldDescriptor (jT0 k).2.2.1 = some (jt0 k) := by decide +kernel
theorem ji0 : ∀ w ∈ u_ws jR0 jT0 11, w ∈ gtbl := by decide +kernel
def jR1 : String := "MistletoeCourt$Page"
def jT1 : u_T := fun k => match k with
  | 0 => ("MistletoeCourt$Page", "codes", "LMistletoeCourt$Row;", true)
  | _ => ("MistletoeCourt$Page", "size", "I", false)
def jt1 : Nat → FieldType := fun k => match k with
  | 0 => .object "MistletoeCourt$Row"
  | _ => .int
theorem jn1 : ∀ a, a < 2 → ∀ b, b < 2 → a ≠ b → (jT1 a).2.1 ≠ (jT1 b).2.1 := by decide +kernel
theorem jk1 : ∀ k, k < 2 → parseFieldDescriptor (jT1 k).2.2.1 = some (jt1 k) := by decide +kernel
theorem ji1 : ∀ w ∈ u_ws jR1 jT1 2, w ∈ gtbl := by decide +kernel
def jR2 : String := "MistletoeCourt$Reader"
def jT2 : u_T := fun k => match k with
  | 0 => ("MistletoeCourt$Reader", "page", "LMistletoeCourt$Page;", true)
  | 1 => ("MistletoeCourt$Reader", "part", "I", false)
  | 2 => ("MistletoeCourt$Reader", "trees", "I", false)
  | _ => ("MistletoeCourt$Reader", "suits", "I", false)
def jt2 : Nat → FieldType := fun k => match k with
  | 0 => .object "MistletoeCourt$Page"
  | 1 => .int
  | 2 => .int
  | _ => .int
theorem jn2 : ∀ a, a < 4 → ∀ b, b < 4 → a ≠ b → (jT2 a).2.1 ≠ (jT2 b).2.1 := by decide +kernel
theorem jk2 : ∀ k, k < 4 → parseFieldDescriptor (jT2 k).2.2.1 = some (jt2 k) := by decide +kernel
theorem ji2 : ∀ w ∈ u_ws jR2 jT2 4, w ∈ gtbl := by decide +kernel
def jR3 : String := "MistletoeCourt$Shire"
def jT3 : u_T := fun k => match k with
  | 0 => ("MistletoeCourt$Shire", "trees", "I", false)
  | 1 => ("MistletoeCourt$Shire", "suits", "I", false)
  | 2 => ("MistletoeCourt$Shire", "berries", "LMistletoeCourt$Row;", true)
  | 3 => ("MistletoeCourt$Shire", "birds", "LMistletoeCourt$Row;", true)
  | 4 => ("MistletoeCourt$Shire", "kinds", "LMistletoeCourt$Row;", true)
  | 5 => ("MistletoeCourt$Shire", "needs", "LMistletoeCourt$Row;", true)
  | 6 => ("MistletoeCourt$Shire", "worths", "LMistletoeCourt$Row;", true)
  | 7 => ("MistletoeCourt$Shire", "hangs", "LMistletoeCourt$Row;", true)
  | 8 => ("MistletoeCourt$Shire", "straight", "LMistletoeCourt$Row;", true)
  | 9 => ("MistletoeCourt$Shire", "below", "LMistletoeCourt$Row;", true)
  | 10 => ("MistletoeCourt$Shire", "sightings", "LMistletoeCourt$Sightings;", true)
  | 11 => ("MistletoeCourt$Shire", "righted", "I", false)
  | 12 => ("MistletoeCourt$Shire", "years", "I", false)
  | _ => ("MistletoeCourt$Shire", "rightings", "I", false)
def jt3 : Nat → FieldType := fun k => match k with
  | 0 => .int
  | 1 => .int
  | 2 => .object "MistletoeCourt$Row"
  | 3 => .object "MistletoeCourt$Row"
  | 4 => .object "MistletoeCourt$Row"
  | 5 => .object "MistletoeCourt$Row"
  | 6 => .object "MistletoeCourt$Row"
  | 7 => .object "MistletoeCourt$Row"
  | 8 => .object "MistletoeCourt$Row"
  | 9 => .object "MistletoeCourt$Row"
  | 10 => .object "MistletoeCourt$Sightings"
  | 11 => .int
  | 12 => .int
  | _ => .int
theorem jn3 : ∀ a, a < 14 → ∀ b, b < 14 → a ≠ b → (jT3 a).2.1 ≠ (jT3 b).2.1 := by decide +kernel
theorem jk3 : ∀ k, k < 14 → parseFieldDescriptor (jT3 k).2.2.1 = some (jt3 k) := by decide +kernel
theorem ji3 : ∀ w ∈ u_ws jR3 jT3 14, w ∈ gtbl := by decide +kernel
def jR4 : String := "MistletoeCourt$Sightings"
def jT4 : u_T := fun k => match k with
  | 0 => ("MistletoeCourt$Sightings", "suits", "LMistletoeCourt$Row;", true)
  | 1 => ("MistletoeCourt$Sightings", "berries", "LMistletoeCourt$Row;", true)
  | 2 => ("MistletoeCourt$Sightings", "enough", "LMistletoeCourt$Row;", true)
  | _ => ("MistletoeCourt$Sightings", "size", "I", false)
def jt4 : Nat → FieldType := fun k => match k with
  | 0 => .object "MistletoeCourt$Row"
  | 1 => .object "MistletoeCourt$Row"
  | 2 => .object "MistletoeCourt$Row"
  | _ => .int
theorem jn4 : ∀ a, a < 4 → ∀ b, b < 4 → a ≠ b → (jT4 a).2.1 ≠ (jT4 b).2.1 := by decide +kernel
theorem jk4 : ∀ k, k < 4 → parseFieldDescriptor (jT4 k).2.2.1 = some (jt4 k) := by decide +kernel
theorem ji4 : ∀ w ∈ u_ws jR4 jT4 4, w ∈ gtbl := by decide +kernel
def jR5 : String := "MistletoeCourt$Guesser"
def jT5 : u_T := fun k => match k with
  | _ => ("MistletoeCourt$Guesser", "shire", "LMistletoeCourt$Shire;", true)
def jt5 : Nat → FieldType := fun k => match k with
  | _ => .object "MistletoeCourt$Shire"
theorem jn5 : ∀ a, a < 1 → ∀ b, b < 1 → a ≠ b → (jT5 a).2.1 ≠ (jT5 b).2.1 := by decide +kernel
theorem jk5 : ∀ k, k < 1 → parseFieldDescriptor (jT5 k).2.2.1 = some (jt5 k) := by decide +kernel
theorem ji5 : ∀ w ∈ u_ws jR5 jT5 1, w ∈ gtbl := by decide +kernel
def jR6 : String := "MistletoeCourt$Planner"
def jT6 : u_T := fun k => match k with
  | 0 => ("MistletoeCourt$Planner", "shire", "LMistletoeCourt$Shire;", true)
  | 1 => ("MistletoeCourt$Planner", "left", "LMistletoeCourt$Row;", true)
  | 2 => ("MistletoeCourt$Planner", "places", "LMistletoeCourt$Row;", true)
  | 3 => ("MistletoeCourt$Planner", "bestPlaces", "LMistletoeCourt$Row;", true)
  | 4 => ("MistletoeCourt$Planner", "bestHolds", "I", false)
  | _ => ("MistletoeCourt$Planner", "bestSpent", "I", false)
def jt6 : Nat → FieldType := fun k => match k with
  | 0 => .object "MistletoeCourt$Shire"
  | 1 => .object "MistletoeCourt$Row"
  | 2 => .object "MistletoeCourt$Row"
  | 3 => .object "MistletoeCourt$Row"
  | 4 => .int
  | _ => .int
theorem jn6 : ∀ a, a < 6 → ∀ b, b < 6 → a ≠ b → (jT6 a).2.1 ≠ (jT6 b).2.1 := by decide +kernel
theorem jk6 : ∀ k, k < 6 → parseFieldDescriptor (jT6 k).2.2.1 = some (jt6 k) := by decide +kernel
theorem ji6 : ∀ w ∈ u_ws jR6 jT6 6, w ∈ gtbl := by decide +kernel
def jR7 : String := "MistletoeCourt$Contest"
def jT7 : u_T := fun k => match k with
  | 0 => ("MistletoeCourt$Contest", "shire", "LMistletoeCourt$Shire;", true)
  | 1 => ("MistletoeCourt$Contest", "leads", "LMistletoeCourt$Row;", true)
  | 2 => ("MistletoeCourt$Contest", "costs", "LMistletoeCourt$Row;", true)
  | 3 => ("MistletoeCourt$Contest", "berries", "I", false)
  | _ => ("MistletoeCourt$Contest", "opening", "I", false)
def jt7 : Nat → FieldType := fun k => match k with
  | 0 => .object "MistletoeCourt$Shire"
  | 1 => .object "MistletoeCourt$Row"
  | 2 => .object "MistletoeCourt$Row"
  | 3 => .int
  | _ => .int
theorem jn7 : ∀ a, a < 5 → ∀ b, b < 5 → a ≠ b → (jT7 a).2.1 ≠ (jT7 b).2.1 := by decide +kernel
theorem jk7 : ∀ k, k < 5 → parseFieldDescriptor (jT7 k).2.2.1 = some (jt7 k) := by decide +kernel
theorem ji7 : ∀ w ∈ u_ws jR7 jT7 5, w ∈ gtbl := by decide +kernel
def jR8 : String := "MistletoeCourt$Foresight"
def jT8 : u_T := fun k => match k with
  | 0 => ("MistletoeCourt$Foresight", "real", "LMistletoeCourt$Shire;", true)
  | 1 => ("MistletoeCourt$Foresight", "would", "LMistletoeCourt$Shire;", true)
  | _ => ("MistletoeCourt$Foresight", "seed", "J", false)
def jt8 : Nat → FieldType := fun k => match k with
  | 0 => .object "MistletoeCourt$Shire"
  | 1 => .object "MistletoeCourt$Shire"
  | _ => .long
theorem jn8 : ∀ a, a < 3 → ∀ b, b < 3 → a ≠ b → (jT8 a).2.1 ≠ (jT8 b).2.1 := by decide +kernel
theorem jk8 : ∀ k, k < 3 → parseFieldDescriptor (jT8 k).2.2.1 = some (jt8 k) := by decide +kernel
theorem ji8 : ∀ w ∈ u_ws jR8 jT8 3, w ∈ gtbl := by decide +kernel
def jR9 : String := "MistletoeCourt$Row"
def jT9 : u_T := fun k => match k with
  | _ => ("MistletoeCourt$Row", "cells", "[I", true)
def jt9 : Nat → FieldType := fun k => match k with
  | _ => .array .int
theorem jn9 : ∀ a, a < 1 → ∀ b, b < 1 → a ≠ b → (jT9 a).2.1 ≠ (jT9 b).2.1 := by decide +kernel
theorem jk9 : ∀ k, k < 1 → parseFieldDescriptor (jT9 k).2.2.1 = some (jt9 k) := by decide +kernel
theorem ji9 : ∀ w ∈ u_ws jR9 jT9 1, w ∈ gtbl := by decide +kernel
def jR10 : String := "MistletoeCourtModel"
def jT10 : u_T := fun k => match k with
  | 0 => ("MistletoeCourtModel", "shires", "I", false)
  | 1 => ("MistletoeCourtModel", "trees", "I", false)
  | 2 => ("MistletoeCourtModel", "cases", "I", false)
  | 3 => ("MistletoeCourtModel", "berriesOf", "[I", true)
  | 4 => ("MistletoeCourtModel", "birdsOf", "[I", true)
  | 5 => ("MistletoeCourtModel", "kindOf", "[I", true)
  | 6 => ("MistletoeCourtModel", "needOf", "[I", true)
  | 7 => ("MistletoeCourtModel", "worthOf", "[I", true)
  | 8 => ("MistletoeCourtModel", "hangsOn", "[I", true)
  | 9 => ("MistletoeCourtModel", "righted", "I", false)
  | 10 => ("MistletoeCourtModel", "often", "I", false)
  | 11 => ("MistletoeCourtModel", "years", "I", false)
  | 12 => ("MistletoeCourtModel", "asks", "I", false)
  | 13 => ("MistletoeCourtModel", "seen", "I", false)
  | 14 => ("MistletoeCourtModel", "seenSuit", "[I", true)
  | 15 => ("MistletoeCourtModel", "seenBerries", "[I", true)
  | 16 => ("MistletoeCourtModel", "seenEnough", "[I", true)
  | 17 => ("MistletoeCourtModel", "pageLength", "I", false)
  | 18 => ("MistletoeCourtModel", "page", "[B", true)
  | 19 => ("MistletoeCourtModel", "isWhole", "Z", false)
  | 20 => ("MistletoeCourtModel", "newTrees", "I", false)
  | 21 => ("MistletoeCourtModel", "newCases", "I", false)
  | 22 => ("MistletoeCourtModel", "row", "[I", true)
  | 23 => ("MistletoeCourtModel", "bestRow", "[I", true)
  | 24 => ("MistletoeCourtModel", "left", "[I", true)
  | 25 => ("MistletoeCourtModel", "done", "I", false)
  | 26 => ("MistletoeCourtModel", "plucked", "I", false)
  | 27 => ("MistletoeCourtModel", "moreBy", "[I", true)
  | 28 => ("MistletoeCourtModel", "ways", "[I", true)
  | 29 => ("MistletoeCourtModel", "nextWays", "[I", true)
  | 30 => ("MistletoeCourtModel", "seedNow", "J", false)
  | 31 => ("MistletoeCourtModel", "savedBerries", "[I", true)
  | 32 => ("MistletoeCourtModel", "isKept", "Z", false)
  | 33 => ("MistletoeCourtModel", "keptShire", "I", false)
  | 34 => ("MistletoeCourtModel", "keptRighted", "I", false)
  | 35 => ("MistletoeCourtModel", "keptOften", "I", false)
  | 36 => ("MistletoeCourtModel", "keptYears", "I", false)
  | 37 => ("MistletoeCourtModel", "keptSeen", "I", false)
  | 38 => ("MistletoeCourtModel", "keptBerries", "[I", true)
  | 39 => ("MistletoeCourtModel", "keptBirds", "[I", true)
  | 40 => ("MistletoeCourtModel", "keptNeed", "[I", true)
  | 41 => ("MistletoeCourtModel", "keptWorth", "[I", true)
  | 42 => ("MistletoeCourtModel", "keptSuit", "[I", true)
  | 43 => ("MistletoeCourtModel", "keptTried", "[I", true)
  | 44 => ("MistletoeCourtModel", "keptEnough", "[I", true)
  | _ => ("MistletoeCourtModel", "h", "J", false)
def jt10 : Nat → FieldType := fun k => match k with
  | 0 => .int
  | 1 => .int
  | 2 => .int
  | 3 => .array .int
  | 4 => .array .int
  | 5 => .array .int
  | 6 => .array .int
  | 7 => .array .int
  | 8 => .array .int
  | 9 => .int
  | 10 => .int
  | 11 => .int
  | 12 => .int
  | 13 => .int
  | 14 => .array .int
  | 15 => .array .int
  | 16 => .array .int
  | 17 => .int
  | 18 => .array .byte
  | 19 => .boolean
  | 20 => .int
  | 21 => .int
  | 22 => .array .int
  | 23 => .array .int
  | 24 => .array .int
  | 25 => .int
  | 26 => .int
  | 27 => .array .int
  | 28 => .array .int
  | 29 => .array .int
  | 30 => .long
  | 31 => .array .int
  | 32 => .boolean
  | 33 => .int
  | 34 => .int
  | 35 => .int
  | 36 => .int
  | 37 => .int
  | 38 => .array .int
  | 39 => .array .int
  | 40 => .array .int
  | 41 => .array .int
  | 42 => .array .int
  | 43 => .array .int
  | 44 => .array .int
  | _ => .long
theorem jn10 : ∀ a, a < 46 → ∀ b, b < 46 → a ≠ b → (jT10 a).2.1 ≠ (jT10 b).2.1 := by decide +kernel
theorem jk10 : ∀ k, k < 46 → parseFieldDescriptor (jT10 k).2.2.1 = some (jt10 k) := by decide +kernel
theorem ji10 : ∀ w ∈ u_ws jR10 jT10 46, w ∈ gtbl := by decide +kernel
abbrev classes : List vw_C := [(jR0, jT0, 11), (jR1, jT1, 2), (jR2, jT2, 4), (jR3, jT3, 14), (jR4, jT4, 4), (jR5, jT5, 1), (jR6, jT6, 6), (jR7, jT7, 5), (jR8, jT8, 3), (jR9, jT9, 1), (jR10, jT10, 46)]
def jv_cls (k : Nat) : Nat := ([0, 1, 9, 100, 2, 3, 9, 100, 9, 100, 9, 100, 9, 100, 9, 100, 9, 100, 9, 100, 9, 100, 4, 9, 100, 9, 100, 9, 100, 3, 9, 100, 9, 100, 9, 100, 9, 100, 9, 100, 9, 100, 9, 100, 9, 100, 4, 9, 100, 9, 100, 9, 100, 5, 6, 9, 100, 9, 100, 9, 100, 7, 9, 100, 9, 100, 8, 3, 9, 100, 9, 100, 9, 100, 9, 100, 9, 100, 9, 100, 9, 100, 9, 100, 4, 9, 100, 9, 100, 9, 100, 10, 100, 100, 100, 100, 100, 100, 100, 100, 100, 101, 100, 100, 100, 100, 100, 100, 100, 100, 100, 100, 100, 100, 100, 100] : List Nat).getD k 99
def jv_ln (k : Nat) : Nat := ([0, 0, 0, 46, 0, 0, 0, 3, 0, 3, 0, 7, 0, 7, 0, 7, 0, 7, 0, 7, 0, 7, 0, 0, 8, 0, 8, 0, 8, 0, 0, 3, 0, 3, 0, 7, 0, 7, 0, 7, 0, 7, 0, 7, 0, 7, 0, 0, 8, 0, 8, 0, 8, 0, 0, 0, 3, 0, 7, 0, 7, 0, 0, 128, 0, 7, 0, 0, 0, 3, 0, 3, 0, 7, 0, 7, 0, 7, 0, 7, 0, 7, 0, 7, 0, 0, 8, 0, 8, 0, 8, 0, 3, 3, 7, 7, 7, 7, 8, 8, 8, 46, 7, 7, 3, 128, 21, 21, 3, 3, 3, 7, 7, 8, 8, 8] : List Nat).getD k 0
def jv_rf (k j : Nat) : Nat := (([[1, 4, 5, 29, 53, 54, 61, 66, 0, 0, 0], [2, 0], [3], [], [1, 0, 0, 0], [0, 0, 6, 8, 10, 12, 14, 16, 18, 20, 22, 0, 0, 0], [7], [], [9], [], [11], [], [13], [], [15], [], [17], [], [19], [], [21], [], [23, 25, 27, 0], [24], [], [26], [], [28], [], [0, 0, 30, 32, 34, 36, 38, 40, 42, 44, 46, 0, 0, 0], [31], [], [33], [], [35], [], [37], [], [39], [], [41], [], [43], [], [45], [], [47, 49, 51, 0], [48], [], [50], [], [52], [], [5], [5, 55, 57, 59, 0, 0], [56], [], [58], [], [60], [], [5, 62, 64, 0, 0], [63], [], [65], [], [5, 67, 0], [0, 0, 68, 70, 72, 74, 76, 78, 80, 82, 84, 0, 0, 0], [69], [], [71], [], [73], [], [75], [], [77], [], [79], [], [81], [], [83], [], [85, 87, 89, 0], [86], [], [88], [], [90], [], [0, 0, 0, 92, 93, 94, 95, 96, 97, 0, 0, 0, 0, 0, 98, 99, 100, 0, 101, 0, 0, 0, 102, 103, 104, 0, 0, 105, 106, 107, 0, 108, 0, 0, 0, 0, 0, 0, 109, 110, 111, 112, 113, 114, 115, 0], [], [], [], [], [], [], [], [], [], [], [], [], [], [], [], [], [], [], [], [], [], [], [], []] : List (List Nat)).getD k []).getD j 0
def jv_ty (c j : Nat) : Nat := (([[1, 1, 1, 1, 1, 1, 1, 1, 0, 0, 0], [1, 0], [1, 0, 0, 0], [0, 0, 1, 1, 1, 1, 1, 1, 1, 1, 1, 0, 0, 0], [1, 1, 1, 0], [1], [1, 1, 1, 1, 0, 0], [1, 1, 1, 0, 0], [1, 1, 2], [1], [0, 0, 0, 1, 1, 1, 1, 1, 1, 0, 0, 0, 0, 0, 1, 1, 1, 0, 1, 0, 0, 0, 1, 1, 1, 0, 0, 1, 1, 1, 2, 1, 0, 0, 0, 0, 0, 0, 1, 1, 1, 1, 1, 1, 1, 2]] : List (List Nat)).getD c []).getD j 0
def jv_nf (c : Nat) : Nat := ([11, 2, 4, 14, 4, 1, 6, 5, 3, 1, 46] : List Nat).getD c 0
theorem jl_row : ∀ k, k < 116 → jv_cls k = 9 → k + 1 < 116 ∧ jv_cls (k + 1) = 100 ∧ jv_rf k 0 = k + 1 := by decide +kernel
theorem jl_sh2 : ∀ k, k < 116 → jv_cls k = 3 → k + 1 < 116 ∧ jv_cls (k + 1) = 9 ∧ jv_rf k 2 = k + 1 := by decide +kernel
theorem jl_sh3 : ∀ k, k < 116 → jv_cls k = 3 → k + 3 < 116 ∧ jv_cls (k + 3) = 9 ∧ jv_rf k 3 = k + 3 := by decide +kernel
theorem jl_sh4 : ∀ k, k < 116 → jv_cls k = 3 → k + 5 < 116 ∧ jv_cls (k + 5) = 9 ∧ jv_rf k 4 = k + 5 := by decide +kernel
theorem jl_sh5 : ∀ k, k < 116 → jv_cls k = 3 → k + 7 < 116 ∧ jv_cls (k + 7) = 9 ∧ jv_rf k 5 = k + 7 := by decide +kernel
theorem jl_sh6 : ∀ k, k < 116 → jv_cls k = 3 → k + 9 < 116 ∧ jv_cls (k + 9) = 9 ∧ jv_rf k 6 = k + 9 := by decide +kernel
theorem jl_sh7 : ∀ k, k < 116 → jv_cls k = 3 → k + 11 < 116 ∧ jv_cls (k + 11) = 9 ∧ jv_rf k 7 = k + 11 := by decide +kernel
theorem jl_sh8 : ∀ k, k < 116 → jv_cls k = 3 → k + 13 < 116 ∧ jv_cls (k + 13) = 9 ∧ jv_rf k 8 = k + 13 := by decide +kernel
theorem jl_sh9 : ∀ k, k < 116 → jv_cls k = 3 → k + 15 < 116 ∧ jv_cls (k + 15) = 9 ∧ jv_rf k 9 = k + 15 := by decide +kernel
theorem jl_sh10 : ∀ k, k < 116 → jv_cls k = 3 → k + 17 < 116 ∧ jv_cls (k + 17) = 4 ∧ jv_rf k 10 = k + 17 := by decide +kernel
theorem jl_si0 : ∀ k, k < 116 → jv_cls k = 4 → k + 1 < 116 ∧ jv_cls (k + 1) = 9 ∧ jv_rf k 0 = k + 1 := by decide +kernel
theorem jl_si1 : ∀ k, k < 116 → jv_cls k = 4 → k + 3 < 116 ∧ jv_cls (k + 3) = 9 ∧ jv_rf k 1 = k + 3 := by decide +kernel
theorem jl_si2 : ∀ k, k < 116 → jv_cls k = 4 → k + 5 < 116 ∧ jv_cls (k + 5) = 9 ∧ jv_rf k 2 = k + 5 := by decide +kernel
end
section
/-! THE STATE: ints, arrays, longs, each by its cell; THE WORLD that it makes; THE JUDGEMENT V; its rows -/
abbrev Sg : Type := (Nat → Nat → Int32) × (Nat → Nat → Int32) × (Nat → Nat → Int64)
def gF (σ : Sg) (k j : Nat) : Int32 := σ.1 k j
def gA (σ : Sg) (k i : Nat) : Int32 := σ.2.1 k i
def gL (σ : Sg) (k j : Nat) : Int64 := σ.2.2 k j
def sF (σ : Sg) (k j : Nat) (v : Int32) : Sg := (fun a b => if a = k ∧ b = j then v else σ.1 a b, σ.2)
def sA (σ : Sg) (k i : Nat) (v : Int32) : Sg := (σ.1, fun a b => if a = k ∧ b = i then v else σ.2.1 a b, σ.2.2)
def sL (σ : Sg) (k j : Nat) (v : Int64) : Sg := (σ.1, σ.2.1, fun a b => if a = k ∧ b = j then v else σ.2.2 a b)
def jv_fv (ad : Nat → Nat) (σ : Sg) (c k j : Nat) : Value := if jv_ty c j = 0 then .int (gF σ k j) else if jv_ty c j = 1 then .ref (ad (jv_rf k j)) else .long (gL σ k j)
def jv_fs (ad : Nat → Nat) (σ : Sg) (c k : Nat) : List Value := (List.range (jv_nf c)).map (jv_fv ad σ c k)
def jv_ce (ad : Nat → Nat) (cI cB : ClassId) (σ : Sg) (k : Nat) : va_E := if jv_cls k = 100 then .inl (cI, jv_ln k, .inl (σ.2.1 k)) else if jv_cls k = 101 then .inl (cB, jv_ln k, .inl (σ.2.1 k)) else .inr (jv_cls k, jv_fs ad σ (jv_cls k) k)
def wl (ad : Nat → Nat) (cI cB : ClassId) (σ : Sg) : va_W := (List.range 116).map (fun k => (ad k, jv_ce ad cI cB σ k))
theorem wl_get {ad : Nat → Nat} {cI cB : ClassId} {σ : Sg} {k : Nat} (hk : k < 116) : (wl ad cI cB σ)[k]? = some (ad k, jv_ce ad cI cB σ k) := by
  simp [wl, hk]
theorem wl_out {ad : Nat → Nat} {cI cB : ClassId} {σ : Sg} {k : Nat} {q : Nat × va_E} (h : (wl ad cI cB σ)[k]? = some q) : k < 116 ∧ q = (ad k, jv_ce ad cI cB σ k) := by
  have hk : k < 116 := by
    have h1 := (List.getElem?_eq_some_iff.mp h).1
    simpa [wl] using h1
  rw [wl_get hk] at h
  exact ⟨hk, (Option.some.inj h).symm⟩
theorem wl_set {ad : Nat → Nat} {cI cB : ClassId} {σ σ' : Sg} {k : Nat} {e : va_E} (hk : k < 116) (h1 : jv_ce ad cI cB σ' k = e) (h2 : ∀ j, j < 116 → j ≠ k → jv_ce ad cI cB σ' j = jv_ce ad cI cB σ j) : (wl ad cI cB σ).set k (ad k, e) = wl ad cI cB σ' := by
  apply List.ext_getElem?
  intro j
  by_cases hj : j < 116
  · rw [wl_get hj, List.getElem?_set]
    by_cases e1 : k = j
    · subst e1
      simp [wl, hk, h1]
    · rw [if_neg e1, wl_get hj, h2 j hj (Ne.symm e1)]
  · rw [List.getElem?_eq_none (by simp [wl]; omega), List.getElem?_eq_none (by simp [wl]; omega)]
theorem jv_ceO {ad : Nat → Nat} {cI cB : ClassId} {σ : Sg} {k c : Nat} (hc : jv_cls k = c) (h : c < 11) : jv_ce ad cI cB σ k = .inr (c, jv_fs ad σ c k) := by
  subst hc
  rw [jv_ce, if_neg (by omega), if_neg (by omega)]
theorem jv_ceI {ad : Nat → Nat} {cI cB : ClassId} {σ : Sg} {k : Nat} (hc : jv_cls k = 100) : jv_ce ad cI cB σ k = .inl (cI, jv_ln k, .inl (σ.2.1 k)) := by
  rw [jv_ce, if_pos hc]
theorem jv_ceB {ad : Nat → Nat} {cI cB : ClassId} {σ : Sg} {k : Nat} (hc : jv_cls k = 101) : jv_ce ad cI cB σ k = .inl (cB, jv_ln k, .inl (σ.2.1 k)) := by
  rw [jv_ce, if_neg (by omega), if_pos hc]
theorem jv_fsAt {ad : Nat → Nat} {σ : Sg} {c k j : Nat} (hj : j < jv_nf c) : (jv_fs ad σ c k)[j]? = some (jv_fv ad σ c k j) := by
  simp [jv_fs, hj]
theorem jv_fsSet {ad : Nat → Nat} {σ σ' : Sg} {c k j : Nat} {v : Value} (hj : j < jv_nf c) (h1 : jv_fv ad σ' c k j = v) (h2 : ∀ i, i ≠ j → jv_fv ad σ' c k i = jv_fv ad σ c k i) : (jv_fs ad σ c k).set j v = jv_fs ad σ' c k := by
  apply List.ext_getElem?
  intro i
  by_cases hi : i < jv_nf c
  · rw [jv_fsAt hi, List.getElem?_set]
    by_cases e1 : j = i
    · subst e1
      simp [jv_fs, hj, h1]
    · rw [if_neg e1, jv_fsAt hi, h2 i (Ne.symm e1)]
  · rw [List.getElem?_eq_none (by simp [jv_fs]; omega), List.getElem?_eq_none (by simp [jv_fs]; omega)]
theorem jv_ceOther {ad : Nat → Nat} {cI cB : ClassId} {σ σ' : Sg} {i : Nat} (h1 : ∀ j, gF σ' i j = gF σ i j) (h2 : σ'.2.1 i = σ.2.1 i) (h3 : ∀ j, gL σ' i j = gL σ i j) : jv_ce ad cI cB σ' i = jv_ce ad cI cB σ i := by
  have e : jv_fs ad σ' (jv_cls i) i = jv_fs ad σ (jv_cls i) i := by
    have e0 : jv_fv ad σ' (jv_cls i) i = jv_fv ad σ (jv_cls i) i := by
      funext j
      simp only [jv_fv, h1, h3]
    rw [jv_fs, jv_fs, e0]
  rw [jv_ce, jv_ce, h2, e]
/-- which cells a method may change -/
def Aw (ad : Nat → Nat) (sz : Nat) : Nat → Prop := fun q => (∃ k, k < 116 ∧ q = ad k) ∨ sz ≤ q
/-- what lies outside: the one String constant, a static, the links to private members of nest mates -/
def Sx (ad : Nat → Nat) (B : Nat → Prop) (U : State) : Prop :=
  (∀ (a : String) (i : Nat) (x : MethodName) (h : String), Cond.methodLinkNest a i x h ∈ lw_tbl → va_Nw (.methodLinkNest a i x h) U) ∧ vk_S 1 [5] [[99, 109, 117, 111, 97]] (fun _ => ad 1000) (fun _ => ad 1001) B U U.heap ∧ vk_R "MistletoeCourt$Reader" 54 "cmuoa" (ad 1000) U ∧ va_Z "java/lang/String" "COMPACT_STRINGS" "Z" (.int 1) B U U.heap
theorem Sx.calling {ad : Nat → Nat} {B : Nat → Prop} {U : State} (g : JFrame) (mk : MethodId) (a : Array Value) (h : Sx ad B U) : Sx ad B (U.calling g mk a) :=
  ⟨fun a i x hh hm => va_Nw.same rfl rfl (h.1 a i x hh hm), vk_S.moved (u := U) (U := U.calling g mk a) (Vm.Alike.refl U.vm) h.2.1, vk_R.same (u := U) (U := U.calling g mk a) rfl h.2.2.1, va_Z.moved (u := U) (U := U.calling g mk a) (Vm.Alike.refl U.vm) h.2.2.2⟩
theorem Sx.go {ad : Nat → Nat} {A B : Nat → Prop} {s U : State} {H : Heap} {locs : List Loc} (h : Sx ad A s) (hS : va_S A s.heap H locs) (hU : U.heap = H) (hW : s.WarmedH U.vm) (hAB : ∀ q, B q → A q) : Sx ad B U := by
  refine ⟨fun a i x hh hm => va_Nw.warmM hW (h.1 a i x hh hm), ?_, h.2.2.1.warm hW, ?_⟩
  · rw [hU]
    exact ((h.2.1.kept hS.2.1).narrow hAB).moved hW.alike
  · rw [hU]
    exact ((h.2.2.2.kept hS.2.1).narrow hAB).moved hW.alike
/-- a method's start -/
def Pre (D : va_G) (ad : Nat → Nat) (cI cB : ClassId) (ws : va_W) (sz : Nat) (av : List Value) : Array Value → State → Prop :=
  va_Pc av (fun U => U.heap.size = sz ∧ va_P D classes ws U.heap ∧ va_K D classes [(cI, .int), (cB, .byte)] U ∧ va_D (fun _ => True) ws ∧ Sx ad (Aw ad sz) U)
/-- a method's end -/
def Pst (D : va_G) (ws : va_W) (A : Nat → Prop) (rv : Option Value) : Array Value → State → Outcome → State → Prop :=
  fun _ st oc t => (oc = .returned rv ∧ va_P D classes ws t.heap ∧ va_D A ws) ∧ va_F A st t
theorem Pre.blind {D : va_G} {ad : Nat → Nat} {cI cB : ClassId} {ws : va_W} {sz : Nat} {av : List Value} : FrameBlind (Pre D ad cI cB ws sz av) :=
  fun a U g mk q => ⟨q.1, q.2.1, q.2.2.1, va_K.moved (u := U) (U := U.calling g mk a) (Vm.Alike.refl U.vm) q.2.2.2.1, q.2.2.2.2.1, q.2.2.2.2.2.calling g mk a⟩
/-- the contract of a method: from this state, with these arguments, this answer and that state -/
def Evc (y : MethodName) (b : ByteArray) (mL : Nat) (ret : Option FieldType) (d : Nat) (av : (Nat → Nat) → List Value) (σ σ' : Sg) (rv : (Nat → Nat) → Option Value) : Prop :=
  ∀ (l : Launch) (D : va_G) (ad : Nat → Nat) (cI cB : ClassId) (sz : Nat), Met l y (Cond.code y b mL ret :: gtbl) { frames := d, cells := 0, slots := 0, locals := 64 * d } (Pre D ad cI cB (wl ad cI cB σ) sz (av ad)) (Pst D (wl ad cI cB σ') (Aw ad sz) (rv ad)) 0 0 (Aw ad sz)
/-- what a method's body knows -/
def Cx (p : Program) (R : Room) (s : State) (m : MethodId) (args : Array Value) (meth : Method) (c : Code) (own : String) (cc : ByteArray) (nL d : Nat) (D : va_G) (ad : Nat → Nat) (cI cB : ClassId) (A : Nat → Prop) (cells slots : Nat) : Prop :=
  p.tables.exec = Jvm.exec ∧ c.code = cc ∧ c.maxLocals = nL ∧ s.vm.findClass own = some m.cls ∧ (∀ w ∈ gtbl, w.before args s = true) ∧ va_K D classes [(cI, .int), (cB, .byte)] s ∧ (∀ q, s.heap.size ≤ q → A q) ∧ Sx ad A s ∧ (d ≤ R.frames ∧ 64 * d ≤ R.locals ∧ cells ≤ R.cells ∧ slots ≤ R.slots) ∧ meth.locks = false
def V (p : Program) (l : Launch) (e : Env) (R : Room) (s : State) (m : MethodId) (args : Array Value) (below : List Frame) (meth : Method) (c : Code) (nL : Nat) (D : va_G) (A : Nat → Prop) (cells slots : Nat) (Q : State → Prop) (ws : va_W) (pc : Nat) (lv : List (Nat × Value)) (st : List Value) : Prop :=
  ∀ (H : Heap) (locs : List Loc) (ls : Array Slot), va_P D classes ws H → va_D A ws → va_S A s.heap H locs → lv_has ls nL lv → W p l e R s m args below meth c H locs cells slots Q (F0 m pc ls st)
/-- a computation that answers, and its answer is so -/
def wpO {α : Type} (x : Option α) (K : α → Prop) : Prop := ∃ a, x = some a ∧ K a
def inb (i : Int32) (n : Nat) : Bool := decide (0 ≤ i.toInt ∧ i.toInt < (n : Int))
def ix (i : Int32) : Nat := i.toNatClampNeg
def isb (v : Int32) : Bool := v == 0 || v == 1
def bindP {α β : Type} (f : Option (α × Sg)) (g : α → Sg → Option β) : Option β := match f with
  | none => none
  | some q => g q.1 q.2
def bindV {α β : Type} (f : Option α) (g : α → Option β) : Option β := match f with
  | none => none
  | some q => g q
theorem wp_P {α β : Type} {f : Option (α × Sg)} {g : α → Sg → Option β} {K : β → Prop} (h : wpO (bindP f g) K) : ∃ r σ, f = some (r, σ) ∧ wpO (g r σ) K := by
  cases f with
  | none => obtain ⟨a, h1, -⟩ := h; cases h1
  | some q => exact ⟨q.1, q.2, rfl, h⟩
theorem wp_V {α β : Type} {f : Option α} {g : α → Option β} {K : β → Prop} (h : wpO (bindV f g) K) : ∃ r, f = some r ∧ wpO (g r) K := by
  cases f with
  | none => obtain ⟨a, h1, -⟩ := h; cases h1
  | some q => exact ⟨q, rfl, h⟩
theorem wp_none {β : Type} {K : β → Prop} (h : wpO (none : Option β) K) : False := by
  obtain ⟨a, h1, -⟩ := h
  cases h1
theorem wp_if {β : Type} {b : Bool} {x : Option β} {K : β → Prop} (h : wpO (if b = true then x else none) K) : b = true ∧ wpO x K := by
  by_cases hb : b = true
  · rw [if_pos hb] at h; exact ⟨hb, h⟩
  · rw [if_neg hb] at h; exact (wp_none h).elim
theorem wp_nz {β : Type} {q : Prop} [Decidable q] {x : Option β} {K : β → Prop} (h : wpO (if q then none else x) K) : ¬ q ∧ wpO x K := by
  by_cases hb : q
  · rw [if_pos hb] at h; exact (wp_none h).elim
  · rw [if_neg hb] at h; exact ⟨hb, h⟩
theorem wp_some {β : Type} {x : β} {K : β → Prop} (h : wpO (some x) K) : K x := by
  obtain ⟨a, h1, h2⟩ := h
  cases h1
  exact h2
theorem inb_vp {i : Int32} {n : Nat} (h : inb i n = true) : vp_in i n := vp_in_iff.mpr (of_decide_eq_true h)
theorem isb_nar {v : Int32} (h : isb v = true) : narrow .boolean (.int v) = .int v ∧ fits .boolean (.int v) = true := by
  simp only [isb, Bool.or_eq_true, beq_iff_eq] at h
  rcases h with rfl | rfl <;> exact ⟨by decide +kernel, by decide +kernel⟩
theorem sw_ne {x v : Int32} (h : ¬ x = v) (z : Int) (hv : v.toInt = z) : x.toInt ≠ z := fun e => h (Int32.toInt_inj.mp (e.trans hv.symm))
section VROWS
variable {p : Program} {l : Launch} {e : Env} {R : Room} {s : State} {m : MethodId} {args : Array Value} {below : List Frame} {meth : Method} {c : Code} {own : String} {cc : ByteArray} {nL d : Nat} {D : va_G} {ad : Nat → Nat} {cI cB : ClassId} {A : Nat → Prop} {cells slots : Nat} {Q : State → Prop} {ws : va_W} {σ : Sg} {pc : Nat} {lv lv' : List (Nat × Value)} {st : List Value}
theorem V_sub (ks : List Nat) (h : lv_pick lv ks = lv') (k : V p l e R s m args below meth c nL D A cells slots Q ws pc lv' st) : V p l e R s m args below meth c nL D A cells slots Q ws pc lv st :=
  fun H locs ls hP hD hS hl => k H locs ls hP hD hS (lv_sub hl ks h)
theorem V_iconst (X : Cx p R s m args meth c own cc nL d D ad cI cB A cells slots) {n : Int} {v : Int32} (hd : decode cc pc = .ok (.iconst n, 1)) (hv : Int32.ofInt n = v) (k : V p l e R s m args below meth c nL D A cells slots Q ws (pc + 1) lv (.int v :: st)) : V p l e R s m args below meth c nL D A cells slots Q ws pc lv st :=
  fun H locs ls hP hD hS hl => lv_iconst X.1 X.2.1 hd hv (k H locs ls hP hD hS hl)
theorem V_bipush (X : Cx p R s m args meth c own cc nL d D ad cI cB A cells slots) {n : Int} {v : Int32} (hd : decode cc pc = .ok (.bipush n, 2)) (hv : (Int8.ofInt n).toInt32 = v) (k : V p l e R s m args below meth c nL D A cells slots Q ws (pc + 2) lv (.int v :: st)) : V p l e R s m args below meth c nL D A cells slots Q ws pc lv st :=
  fun H locs ls hP hD hS hl => lv_bipush X.1 X.2.1 hd hv (k H locs ls hP hD hS hl)
theorem V_sipush (X : Cx p R s m args meth c own cc nL d D ad cI cB A cells slots) {n : Int} {v : Int32} (hd : decode cc pc = .ok (.sipush n, 3)) (hv : (Int16.ofInt n).toInt32 = v) (k : V p l e R s m args below meth c nL D A cells slots Q ws (pc + 3) lv (.int v :: st)) : V p l e R s m args below meth c nL D A cells slots Q ws pc lv st :=
  fun H locs ls hP hD hS hl => lv_sipush X.1 X.2.1 hd hv (k H locs ls hP hD hS hl)
theorem V_ldc (X : Cx p R s m args meth c own cc nL d D ad cI cB A cells slots) {i : Nat} {v : Int32} (hd : decode cc pc = .ok (.ldc i, 2)) (hw : Cond.constant own i v ∈ gtbl) (k : V p l e R s m args below meth c nL D A cells slots Q ws (pc + 2) lv (.int v :: st)) : V p l e R s m args below meth c nL D A cells slots Q ws pc lv st :=
  fun H locs ls hP hD hS hl => lv_ldc X.1 X.2.1 X.2.2.2.1 (X.2.2.2.2.1 _ hw) hd (k H locs ls hP hD hS hl)
theorem V_ldcw (X : Cx p R s m args meth c own cc nL d D ad cI cB A cells slots) {i : Nat} {v : Int32} (hd : decode cc pc = .ok (.ldc_w i, 3)) (hw : Cond.constant own i v ∈ gtbl) (k : V p l e R s m args below meth c nL D A cells slots Q ws (pc + 3) lv (.int v :: st)) : V p l e R s m args below meth c nL D A cells slots Q ws pc lv st :=
  fun H locs ls hP hD hS hl => lv_ldcw X.1 X.2.1 X.2.2.2.1 (X.2.2.2.2.1 _ hw) hd (k H locs ls hP hD hS hl)
theorem V_ldc2 (X : Cx p R s m args meth c own cc nL d D ad cI cB A cells slots) {i : Nat} {v : Int64} (hd : decode cc pc = .ok (.ldc2_w i, 3)) (hw : Cond.constantLong own i v ∈ gtbl) (k : V p l e R s m args below meth c nL D A cells slots Q ws (pc + 3) lv (.long v :: st)) : V p l e R s m args below meth c nL D A cells slots Q ws pc lv st :=
  fun H locs ls hP hD hS hl => lv_ldc2 X.1 X.2.1 X.2.2.2.1 (X.2.2.2.2.1 _ hw) hd (k H locs ls hP hD hS hl)
theorem V_ldcS (X : Cx p R s m args meth c "MistletoeCourt$Reader" cc nL d D ad cI cB A cells slots) (hd : decode cc pc = .ok (.ldc 54, 2)) (k : V p l e R s m args below meth c nL D A cells slots Q ws (pc + 2) lv (.ref (ad 1000) :: st)) : V p l e R s m args below meth c nL D A cells slots Q ws pc lv st :=
  fun H locs ls hP hD hS hl => va_ldcS X.1 X.2.1 X.2.2.2.1 X.2.2.2.2.2.2.2.1.2.2.1 hd (k H locs ls hP hD hS hl)
theorem V_iload_n (X : Cx p R s m args meth c own cc nL d D ad cI cB A cells slots) {i : Fin 4} (q : Nat) {x : Int32} (hd : decode cc pc = .ok (.iload_n i, 1)) (hq : lv[q]? = some ((i : Nat), .int x)) (k : V p l e R s m args below meth c nL D A cells slots Q ws (pc + 1) lv (.int x :: st)) : V p l e R s m args below meth c nL D A cells slots Q ws pc lv st :=
  fun H locs ls hP hD hS hl => lv_iload_n X.1 X.2.1 hd rfl (lv_at hl q hq) (k H locs ls hP hD hS hl)
theorem V_iload (X : Cx p R s m args meth c own cc nL d D ad cI cB A cells slots) {i : Nat} (q : Nat) {x : Int32} (hd : decode cc pc = .ok (.iload i, 2)) (hq : lv[q]? = some (i, .int x)) (k : V p l e R s m args below meth c nL D A cells slots Q ws (pc + 2) lv (.int x :: st)) : V p l e R s m args below meth c nL D A cells slots Q ws pc lv st :=
  fun H locs ls hP hD hS hl => lv_iload X.1 X.2.1 hd (lv_at hl q hq) (k H locs ls hP hD hS hl)
theorem V_lload_n (X : Cx p R s m args meth c own cc nL d D ad cI cB A cells slots) {i : Fin 4} (q : Nat) {x : Int64} (hd : decode cc pc = .ok (.lload_n i, 1)) (hq : lv[q]? = some ((i : Nat), .long x)) (k : V p l e R s m args below meth c nL D A cells slots Q ws (pc + 1) lv (.long x :: st)) : V p l e R s m args below meth c nL D A cells slots Q ws pc lv st :=
  fun H locs ls hP hD hS hl => lv_lload_n X.1 X.2.1 hd rfl (lv_at hl q hq) (k H locs ls hP hD hS hl)
theorem V_aload_n (X : Cx p R s m args meth c own cc nL d D ad cI cB A cells slots) {i : Fin 4} (q : Nat) {x : Nat} (hd : decode cc pc = .ok (.aload_n i, 1)) (hq : lv[q]? = some ((i : Nat), .ref x)) (k : V p l e R s m args below meth c nL D A cells slots Q ws (pc + 1) lv (.ref x :: st)) : V p l e R s m args below meth c nL D A cells slots Q ws pc lv st :=
  fun H locs ls hP hD hS hl => lv_aload_n X.1 X.2.1 hd rfl (lv_at hl q hq) (k H locs ls hP hD hS hl)
theorem V_istore_n (X : Cx p R s m args meth c own cc nL d D ad cI cB A cells slots) {i : Fin 4} {x : Int32} (lv' : List (Nat × Value)) (hd : decode cc pc = .ok (.istore_n i, 1)) (hn : (i : Nat) < nL) (hl' : ((i : Nat), Value.int x) :: lv.filter (fun q => !(q.1 == (i : Nat)) && !(q.1 + 1 == (i : Nat) && q.2.category == 2)) = lv') (k : V p l e R s m args below meth c nL D A cells slots Q ws (pc + 1) lv' st) : V p l e R s m args below meth c nL D A cells slots Q ws pc lv (.int x :: st) :=
  fun H locs ls hP hD hS hl => lv_istore_n X.1 X.2.1 hd rfl hl hn hl' (fun ls hl => k H locs ls hP hD hS hl)
theorem V_istore (X : Cx p R s m args meth c own cc nL d D ad cI cB A cells slots) {i : Nat} {x : Int32} (lv' : List (Nat × Value)) (hd : decode cc pc = .ok (.istore i, 2)) (hn : i < nL) (hl' : (i, Value.int x) :: lv.filter (fun q => !(q.1 == i) && !(q.1 + 1 == i && q.2.category == 2)) = lv') (k : V p l e R s m args below meth c nL D A cells slots Q ws (pc + 2) lv' st) : V p l e R s m args below meth c nL D A cells slots Q ws pc lv (.int x :: st) :=
  fun H locs ls hP hD hS hl => lv_istore X.1 X.2.1 hd hl hn hl' (fun ls hl => k H locs ls hP hD hS hl)
theorem V_lstore_n (X : Cx p R s m args meth c own cc nL d D ad cI cB A cells slots) {i : Fin 4} {x : Int64} (lv' : List (Nat × Value)) (hd : decode cc pc = .ok (.lstore_n i, 1)) (hn : (i : Nat) + 1 < nL) (hl' : ((i : Nat), Value.long x) :: lv.filter (fun q => !(q.1 == (i : Nat)) && (!(q.1 == (i : Nat) + 1) && !(q.1 + 1 == (i : Nat) && q.2.category == 2))) = lv') (k : V p l e R s m args below meth c nL D A cells slots Q ws (pc + 1) lv' st) : V p l e R s m args below meth c nL D A cells slots Q ws pc lv (.long x :: st) :=
  fun H locs ls hP hD hS hl => lv_lstore_n X.1 X.2.1 hd rfl hl hn hl' (fun ls hl => k H locs ls hP hD hS hl)
theorem V_astore_n (X : Cx p R s m args meth c own cc nL d D ad cI cB A cells slots) {i : Fin 4} {x : Nat} (lv' : List (Nat × Value)) (hd : decode cc pc = .ok (.astore_n i, 1)) (hn : (i : Nat) < nL) (hl' : ((i : Nat), Value.ref x) :: lv.filter (fun q => !(q.1 == (i : Nat)) && !(q.1 + 1 == (i : Nat) && q.2.category == 2)) = lv') (k : V p l e R s m args below meth c nL D A cells slots Q ws (pc + 1) lv' st) : V p l e R s m args below meth c nL D A cells slots Q ws pc lv (.ref x :: st) :=
  fun H locs ls hP hD hS hl => lv_astore_n X.1 X.2.1 hd rfl hl hn hl' (fun ls hl => k H locs ls hP hD hS hl)
theorem V_iinc (X : Cx p R s m args meth c own cc nL d D ad cI cB A cells slots) {i : Nat} {n : Int} {x : Int32} (q : Nat) (v : Int32) (lv' : List (Nat × Value)) (hd : decode cc pc = .ok (.iinc i n, 3)) (hq : lv[q]? = some (i, .int x)) (hv : x + Int32.ofInt n = v) (hn : i < nL) (hl' : (i, Value.int v) :: lv.filter (fun q => !(q.1 == i) && !(q.1 + 1 == i && q.2.category == 2)) = lv') (k : V p l e R s m args below meth c nL D A cells slots Q ws (pc + 3) lv' st) : V p l e R s m args below meth c nL D A cells slots Q ws pc lv st :=
  fun H locs ls hP hD hS hl => lv_iinc X.1 X.2.1 hd hl hq hv hn hl' (fun ls hl => k H locs ls hP hD hS hl)
theorem V_iadd (X : Cx p R s m args meth c own cc nL d D ad cI cB A cells slots) {x y : Int32} (hd : decode cc pc = .ok (.iadd, 1)) (k : V p l e R s m args below meth c nL D A cells slots Q ws (pc + 1) lv (.int (x + y) :: st)) : V p l e R s m args below meth c nL D A cells slots Q ws pc lv (.int y :: .int x :: st) :=
  fun H locs ls hP hD hS hl => lv_iadd X.1 X.2.1 hd (k H locs ls hP hD hS hl)
theorem V_isub (X : Cx p R s m args meth c own cc nL d D ad cI cB A cells slots) {x y : Int32} (hd : decode cc pc = .ok (.isub, 1)) (k : V p l e R s m args below meth c nL D A cells slots Q ws (pc + 1) lv (.int (x - y) :: st)) : V p l e R s m args below meth c nL D A cells slots Q ws pc lv (.int y :: .int x :: st) :=
  fun H locs ls hP hD hS hl => lv_isub X.1 X.2.1 hd (k H locs ls hP hD hS hl)
theorem V_imul (X : Cx p R s m args meth c own cc nL d D ad cI cB A cells slots) {x y : Int32} (hd : decode cc pc = .ok (.imul, 1)) (k : V p l e R s m args below meth c nL D A cells slots Q ws (pc + 1) lv (.int (x * y) :: st)) : V p l e R s m args below meth c nL D A cells slots Q ws pc lv (.int y :: .int x :: st) :=
  fun H locs ls hP hD hS hl => lv_imul X.1 X.2.1 hd (k H locs ls hP hD hS hl)
theorem V_iand (X : Cx p R s m args meth c own cc nL d D ad cI cB A cells slots) {x y : Int32} (hd : decode cc pc = .ok (.iand, 1)) (k : V p l e R s m args below meth c nL D A cells slots Q ws (pc + 1) lv (.int (x &&& y) :: st)) : V p l e R s m args below meth c nL D A cells slots Q ws pc lv (.int y :: .int x :: st) :=
  fun H locs ls hP hD hS hl => lv_iand X.1 X.2.1 hd (k H locs ls hP hD hS hl)
theorem V_ior (X : Cx p R s m args meth c own cc nL d D ad cI cB A cells slots) {x y : Int32} (hd : decode cc pc = .ok (.ior, 1)) (k : V p l e R s m args below meth c nL D A cells slots Q ws (pc + 1) lv (.int (x ||| y) :: st)) : V p l e R s m args below meth c nL D A cells slots Q ws pc lv (.int y :: .int x :: st) :=
  fun H locs ls hP hD hS hl => lv_ior X.1 X.2.1 hd (k H locs ls hP hD hS hl)
theorem V_ixor (X : Cx p R s m args meth c own cc nL d D ad cI cB A cells slots) {x y : Int32} (hd : decode cc pc = .ok (.ixor, 1)) (k : V p l e R s m args below meth c nL D A cells slots Q ws (pc + 1) lv (.int (x ^^^ y) :: st)) : V p l e R s m args below meth c nL D A cells slots Q ws pc lv (.int y :: .int x :: st) :=
  fun H locs ls hP hD hS hl => lv_ixor X.1 X.2.1 hd (k H locs ls hP hD hS hl)
theorem V_ishl (X : Cx p R s m args meth c own cc nL d D ad cI cB A cells slots) {x y : Int32} (hd : decode cc pc = .ok (.ishl, 1)) (k : V p l e R s m args below meth c nL D A cells slots Q ws (pc + 1) lv (.int (x <<< (y &&& 31)) :: st)) : V p l e R s m args below meth c nL D A cells slots Q ws pc lv (.int y :: .int x :: st) :=
  fun H locs ls hP hD hS hl => lv_ishl X.1 X.2.1 hd (k H locs ls hP hD hS hl)
theorem V_ishr (X : Cx p R s m args meth c own cc nL d D ad cI cB A cells slots) {x y : Int32} (hd : decode cc pc = .ok (.ishr, 1)) (k : V p l e R s m args below meth c nL D A cells slots Q ws (pc + 1) lv (.int (x >>> (y &&& 31)) :: st)) : V p l e R s m args below meth c nL D A cells slots Q ws pc lv (.int y :: .int x :: st) :=
  fun H locs ls hP hD hS hl => lv_ishr X.1 X.2.1 hd (k H locs ls hP hD hS hl)
theorem V_idiv (X : Cx p R s m args meth c own cc nL d D ad cI cB A cells slots) {x y : Int32} (hd : decode cc pc = .ok (.idiv, 1)) (hne : ¬ y = 0) (k : V p l e R s m args below meth c nL D A cells slots Q ws (pc + 1) lv (.int (x / y) :: st)) : V p l e R s m args below meth c nL D A cells slots Q ws pc lv (.int y :: .int x :: st) :=
  fun H locs ls hP hD hS hl => lv_idiv X.1 X.2.1 hd hne (k H locs ls hP hD hS hl)
theorem V_irem (X : Cx p R s m args meth c own cc nL d D ad cI cB A cells slots) {x y : Int32} (hd : decode cc pc = .ok (.irem, 1)) (hne : ¬ y = 0) (k : V p l e R s m args below meth c nL D A cells slots Q ws (pc + 1) lv (.int (x - x / y * y) :: st)) : V p l e R s m args below meth c nL D A cells slots Q ws pc lv (.int y :: .int x :: st) :=
  fun H locs ls hP hD hS hl => lv_irem X.1 X.2.1 hd hne (k H locs ls hP hD hS hl)
theorem V_ladd (X : Cx p R s m args meth c own cc nL d D ad cI cB A cells slots) {x y : Int64} (hd : decode cc pc = .ok (.ladd, 1)) (k : V p l e R s m args below meth c nL D A cells slots Q ws (pc + 1) lv (.long (x + y) :: st)) : V p l e R s m args below meth c nL D A cells slots Q ws pc lv (.long y :: .long x :: st) :=
  fun H locs ls hP hD hS hl => lv_ladd X.1 X.2.1 hd (k H locs ls hP hD hS hl)
theorem V_lmul (X : Cx p R s m args meth c own cc nL d D ad cI cB A cells slots) {x y : Int64} (hd : decode cc pc = .ok (.lmul, 1)) (k : V p l e R s m args below meth c nL D A cells slots Q ws (pc + 1) lv (.long (x * y) :: st)) : V p l e R s m args below meth c nL D A cells slots Q ws pc lv (.long y :: .long x :: st) :=
  fun H locs ls hP hD hS hl => lv_lmul X.1 X.2.1 hd (k H locs ls hP hD hS hl)
theorem V_land (X : Cx p R s m args meth c own cc nL d D ad cI cB A cells slots) {x y : Int64} (hd : decode cc pc = .ok (.land, 1)) (k : V p l e R s m args below meth c nL D A cells slots Q ws (pc + 1) lv (.long (x &&& y) :: st)) : V p l e R s m args below meth c nL D A cells slots Q ws pc lv (.long y :: .long x :: st) :=
  fun H locs ls hP hD hS hl => lv_land X.1 X.2.1 hd (k H locs ls hP hD hS hl)
theorem V_ldiv (X : Cx p R s m args meth c own cc nL d D ad cI cB A cells slots) {x y : Int64} (hd : decode cc pc = .ok (.ldiv, 1)) (hne : ¬ y = 0) (k : V p l e R s m args below meth c nL D A cells slots Q ws (pc + 1) lv (.long (x / y) :: st)) : V p l e R s m args below meth c nL D A cells slots Q ws pc lv (.long y :: .long x :: st) :=
  fun H locs ls hP hD hS hl => lv_ldiv X.1 X.2.1 hd hne (k H locs ls hP hD hS hl)
theorem V_lrem (X : Cx p R s m args meth c own cc nL d D ad cI cB A cells slots) {x y : Int64} (hd : decode cc pc = .ok (.lrem, 1)) (hne : ¬ y = 0) (k : V p l e R s m args below meth c nL D A cells slots Q ws (pc + 1) lv (.long (x - x / y * y) :: st)) : V p l e R s m args below meth c nL D A cells slots Q ws pc lv (.long y :: .long x :: st) :=
  fun H locs ls hP hD hS hl => lv_lrem X.1 X.2.1 hd hne (k H locs ls hP hD hS hl)
theorem V_iushr (X : Cx p R s m args meth c own cc nL d D ad cI cB A cells slots) {x y : Int32} (hd : decode cc pc = .ok (.iushr, 1)) (k : V p l e R s m args below meth c nL D A cells slots Q ws (pc + 1) lv (.int ((x.toUInt32 >>> (y.toUInt32 &&& Int32.toUInt32 31)).toInt32) :: st)) : V p l e R s m args below meth c nL D A cells slots Q ws pc lv (.int y :: .int x :: st) :=
  fun H locs ls hP hD hS hl => lv_iushr X.1 X.2.1 hd rfl (k H locs ls hP hD hS hl)
theorem V_ineg (X : Cx p R s m args meth c own cc nL d D ad cI cB A cells slots) {x : Int32} (hd : decode cc pc = .ok (.ineg, 1)) (k : V p l e R s m args below meth c nL D A cells slots Q ws (pc + 1) lv (.int (-x) :: st)) : V p l e R s m args below meth c nL D A cells slots Q ws pc lv (.int x :: st) :=
  fun H locs ls hP hD hS hl => lv_ineg X.1 X.2.1 hd (k H locs ls hP hD hS hl)
theorem V_i2l (X : Cx p R s m args meth c own cc nL d D ad cI cB A cells slots) {x : Int32} (hd : decode cc pc = .ok (.i2l, 1)) (k : V p l e R s m args below meth c nL D A cells slots Q ws (pc + 1) lv (.long (x.toInt64) :: st)) : V p l e R s m args below meth c nL D A cells slots Q ws pc lv (.int x :: st) :=
  fun H locs ls hP hD hS hl => lv_i2l X.1 X.2.1 hd rfl (k H locs ls hP hD hS hl)
theorem V_l2i (X : Cx p R s m args meth c own cc nL d D ad cI cB A cells slots) {x : Int64} (hd : decode cc pc = .ok (.l2i, 1)) (k : V p l e R s m args below meth c nL D A cells slots Q ws (pc + 1) lv (.int (x.toInt32) :: st)) : V p l e R s m args below meth c nL D A cells slots Q ws pc lv (.long x :: st) :=
  fun H locs ls hP hD hS hl => lv_l2i X.1 X.2.1 hd rfl (k H locs ls hP hD hS hl)
theorem V_i2b (X : Cx p R s m args meth c own cc nL d D ad cI cB A cells slots) {x : Int32} (hd : decode cc pc = .ok (.i2b, 1)) (k : V p l e R s m args below meth c nL D A cells slots Q ws (pc + 1) lv (.int (x.toInt8.toInt32) :: st)) : V p l e R s m args below meth c nL D A cells slots Q ws pc lv (.int x :: st) :=
  fun H locs ls hP hD hS hl => lv_i2b X.1 X.2.1 hd rfl (k H locs ls hP hD hS hl)
theorem V_i2c (X : Cx p R s m args meth c own cc nL d D ad cI cB A cells slots) {x : Int32} (hd : decode cc pc = .ok (.i2c, 1)) (k : V p l e R s m args below meth c nL D A cells slots Q ws (pc + 1) lv (.int ((x.toUInt32 % 65536).toInt32) :: st)) : V p l e R s m args below meth c nL D A cells slots Q ws pc lv (.int x :: st) :=
  fun H locs ls hP hD hS hl => lv_i2c X.1 X.2.1 hd rfl (k H locs ls hP hD hS hl)
theorem V_icmp_eq (X : Cx p R s m args meth c own cc nL d D ad cI cB A cells slots) {x y : Int32} {off : Int} (tgt : Nat) {α : Type} {A1 A2 : Option α} {K : α → Prop} (hd : decode cc pc = .ok (.if_icmp .eq off, 3)) (ht : (pc : Int) + off = (tgt : Int)) (h : wpO (if x = y then A1 else A2) K) (kt : x = y → wpO A1 K → V p l e R s m args below meth c nL D A cells slots Q ws tgt lv st) (kf : ¬ (x = y) → wpO A2 K → V p l e R s m args below meth c nL D A cells slots Q ws (pc + 3) lv st) : V p l e R s m args below meth c nL D A cells slots Q ws pc lv (.int y :: .int x :: st) :=
  fun H locs ls hP hD hS hl => lv_icmp_eq X.1 X.2.1 hd ht (fun q => kt q (by rw [if_pos q] at h; exact h) H locs ls hP hD hS hl) (fun q => kf q (by rw [if_neg q] at h; exact h) H locs ls hP hD hS hl)
theorem V_if_eq (X : Cx p R s m args meth c own cc nL d D ad cI cB A cells slots) {x : Int32} {off : Int} (tgt : Nat) {α : Type} {A1 A2 : Option α} {K : α → Prop} (hd : decode cc pc = .ok (.ifCond .eq off, 3)) (ht : (pc : Int) + off = (tgt : Int)) (h : wpO (if x = 0 then A1 else A2) K) (kt : x = 0 → wpO A1 K → V p l e R s m args below meth c nL D A cells slots Q ws tgt lv st) (kf : ¬ (x = 0) → wpO A2 K → V p l e R s m args below meth c nL D A cells slots Q ws (pc + 3) lv st) : V p l e R s m args below meth c nL D A cells slots Q ws pc lv (.int x :: st) :=
  fun H locs ls hP hD hS hl => lv_if_eq X.1 X.2.1 hd ht (fun q => kt q (by rw [if_pos q] at h; exact h) H locs ls hP hD hS hl) (fun q => kf q (by rw [if_neg q] at h; exact h) H locs ls hP hD hS hl)
theorem V_if_eqT (X : Cx p R s m args meth c own cc nL d D ad cI cB A cells slots) {x : Int32} {off : Int} (tgt : Nat) (hd : decode cc pc = .ok (.ifCond .eq off, 3)) (ht : (pc : Int) + off = (tgt : Int)) (hx : x = 0) (k : V p l e R s m args below meth c nL D A cells slots Q ws tgt lv st) : V p l e R s m args below meth c nL D A cells slots Q ws pc lv (.int x :: st) :=
  fun H locs ls hP hD hS hl => lv_if_eq X.1 X.2.1 hd ht (fun q => k H locs ls hP hD hS hl) (fun q => absurd hx q)
theorem V_if_eqF (X : Cx p R s m args meth c own cc nL d D ad cI cB A cells slots) {x : Int32} {off : Int} (hd : decode cc pc = .ok (.ifCond .eq off, 3)) (tgt : Nat) (ht : (pc : Int) + off = (tgt : Int)) (hx : ¬ (x = 0)) (k : V p l e R s m args below meth c nL D A cells slots Q ws (pc + 3) lv st) : V p l e R s m args below meth c nL D A cells slots Q ws pc lv (.int x :: st) :=
  fun H locs ls hP hD hS hl => lv_if_eq X.1 X.2.1 hd ht (fun q => absurd q hx) (fun q => k H locs ls hP hD hS hl)
theorem V_icmp_ne (X : Cx p R s m args meth c own cc nL d D ad cI cB A cells slots) {x y : Int32} {off : Int} (tgt : Nat) {α : Type} {A1 A2 : Option α} {K : α → Prop} (hd : decode cc pc = .ok (.if_icmp .ne off, 3)) (ht : (pc : Int) + off = (tgt : Int)) (h : wpO (if ¬ x = y then A1 else A2) K) (kt : ¬ x = y → wpO A1 K → V p l e R s m args below meth c nL D A cells slots Q ws tgt lv st) (kf : ¬ (¬ x = y) → wpO A2 K → V p l e R s m args below meth c nL D A cells slots Q ws (pc + 3) lv st) : V p l e R s m args below meth c nL D A cells slots Q ws pc lv (.int y :: .int x :: st) :=
  fun H locs ls hP hD hS hl => lv_icmp_ne X.1 X.2.1 hd ht (fun q => kt q (by rw [if_pos q] at h; exact h) H locs ls hP hD hS hl) (fun q => kf (fun z => z q) (by rw [if_neg (fun z => z q)] at h; exact h) H locs ls hP hD hS hl)
theorem V_if_ne (X : Cx p R s m args meth c own cc nL d D ad cI cB A cells slots) {x : Int32} {off : Int} (tgt : Nat) {α : Type} {A1 A2 : Option α} {K : α → Prop} (hd : decode cc pc = .ok (.ifCond .ne off, 3)) (ht : (pc : Int) + off = (tgt : Int)) (h : wpO (if ¬ x = 0 then A1 else A2) K) (kt : ¬ x = 0 → wpO A1 K → V p l e R s m args below meth c nL D A cells slots Q ws tgt lv st) (kf : ¬ (¬ x = 0) → wpO A2 K → V p l e R s m args below meth c nL D A cells slots Q ws (pc + 3) lv st) : V p l e R s m args below meth c nL D A cells slots Q ws pc lv (.int x :: st) :=
  fun H locs ls hP hD hS hl => lv_if_ne X.1 X.2.1 hd ht (fun q => kt q (by rw [if_pos q] at h; exact h) H locs ls hP hD hS hl) (fun q => kf (fun z => z q) (by rw [if_neg (fun z => z q)] at h; exact h) H locs ls hP hD hS hl)
theorem V_if_neT (X : Cx p R s m args meth c own cc nL d D ad cI cB A cells slots) {x : Int32} {off : Int} (tgt : Nat) (hd : decode cc pc = .ok (.ifCond .ne off, 3)) (ht : (pc : Int) + off = (tgt : Int)) (hx : ¬ x = 0) (k : V p l e R s m args below meth c nL D A cells slots Q ws tgt lv st) : V p l e R s m args below meth c nL D A cells slots Q ws pc lv (.int x :: st) :=
  fun H locs ls hP hD hS hl => lv_if_ne X.1 X.2.1 hd ht (fun q => k H locs ls hP hD hS hl) (fun q => absurd q hx)
theorem V_if_neF (X : Cx p R s m args meth c own cc nL d D ad cI cB A cells slots) {x : Int32} {off : Int} (hd : decode cc pc = .ok (.ifCond .ne off, 3)) (tgt : Nat) (ht : (pc : Int) + off = (tgt : Int)) (hx : ¬ (¬ x = 0)) (k : V p l e R s m args below meth c nL D A cells slots Q ws (pc + 3) lv st) : V p l e R s m args below meth c nL D A cells slots Q ws pc lv (.int x :: st) :=
  fun H locs ls hP hD hS hl => lv_if_ne X.1 X.2.1 hd ht (fun q => absurd q hx) (fun q => k H locs ls hP hD hS hl)
theorem V_icmp_lt (X : Cx p R s m args meth c own cc nL d D ad cI cB A cells slots) {x y : Int32} {off : Int} (tgt : Nat) {α : Type} {A1 A2 : Option α} {K : α → Prop} (hd : decode cc pc = .ok (.if_icmp .lt off, 3)) (ht : (pc : Int) + off = (tgt : Int)) (h : wpO (if x < y then A1 else A2) K) (kt : x < y → wpO A1 K → V p l e R s m args below meth c nL D A cells slots Q ws tgt lv st) (kf : ¬ (x < y) → wpO A2 K → V p l e R s m args below meth c nL D A cells slots Q ws (pc + 3) lv st) : V p l e R s m args below meth c nL D A cells slots Q ws pc lv (.int y :: .int x :: st) :=
  fun H locs ls hP hD hS hl => lv_icmp_lt X.1 X.2.1 hd ht (fun q => kt q (by rw [if_pos q] at h; exact h) H locs ls hP hD hS hl) (fun q => kf q (by rw [if_neg q] at h; exact h) H locs ls hP hD hS hl)
theorem V_if_lt (X : Cx p R s m args meth c own cc nL d D ad cI cB A cells slots) {x : Int32} {off : Int} (tgt : Nat) {α : Type} {A1 A2 : Option α} {K : α → Prop} (hd : decode cc pc = .ok (.ifCond .lt off, 3)) (ht : (pc : Int) + off = (tgt : Int)) (h : wpO (if x < 0 then A1 else A2) K) (kt : x < 0 → wpO A1 K → V p l e R s m args below meth c nL D A cells slots Q ws tgt lv st) (kf : ¬ (x < 0) → wpO A2 K → V p l e R s m args below meth c nL D A cells slots Q ws (pc + 3) lv st) : V p l e R s m args below meth c nL D A cells slots Q ws pc lv (.int x :: st) :=
  fun H locs ls hP hD hS hl => lv_if_lt X.1 X.2.1 hd ht (fun q => kt q (by rw [if_pos q] at h; exact h) H locs ls hP hD hS hl) (fun q => kf q (by rw [if_neg q] at h; exact h) H locs ls hP hD hS hl)
theorem V_if_ltT (X : Cx p R s m args meth c own cc nL d D ad cI cB A cells slots) {x : Int32} {off : Int} (tgt : Nat) (hd : decode cc pc = .ok (.ifCond .lt off, 3)) (ht : (pc : Int) + off = (tgt : Int)) (hx : x < 0) (k : V p l e R s m args below meth c nL D A cells slots Q ws tgt lv st) : V p l e R s m args below meth c nL D A cells slots Q ws pc lv (.int x :: st) :=
  fun H locs ls hP hD hS hl => lv_if_lt X.1 X.2.1 hd ht (fun q => k H locs ls hP hD hS hl) (fun q => absurd hx q)
theorem V_if_ltF (X : Cx p R s m args meth c own cc nL d D ad cI cB A cells slots) {x : Int32} {off : Int} (hd : decode cc pc = .ok (.ifCond .lt off, 3)) (tgt : Nat) (ht : (pc : Int) + off = (tgt : Int)) (hx : ¬ (x < 0)) (k : V p l e R s m args below meth c nL D A cells slots Q ws (pc + 3) lv st) : V p l e R s m args below meth c nL D A cells slots Q ws pc lv (.int x :: st) :=
  fun H locs ls hP hD hS hl => lv_if_lt X.1 X.2.1 hd ht (fun q => absurd q hx) (fun q => k H locs ls hP hD hS hl)
theorem V_icmp_ge (X : Cx p R s m args meth c own cc nL d D ad cI cB A cells slots) {x y : Int32} {off : Int} (tgt : Nat) {α : Type} {A1 A2 : Option α} {K : α → Prop} (hd : decode cc pc = .ok (.if_icmp .ge off, 3)) (ht : (pc : Int) + off = (tgt : Int)) (h : wpO (if y ≤ x then A1 else A2) K) (kt : y ≤ x → wpO A1 K → V p l e R s m args below meth c nL D A cells slots Q ws tgt lv st) (kf : ¬ (y ≤ x) → wpO A2 K → V p l e R s m args below meth c nL D A cells slots Q ws (pc + 3) lv st) : V p l e R s m args below meth c nL D A cells slots Q ws pc lv (.int y :: .int x :: st) :=
  fun H locs ls hP hD hS hl => lv_icmp_ge X.1 X.2.1 hd ht (fun q => kt q (by rw [if_pos q] at h; exact h) H locs ls hP hD hS hl) (fun q => kf q (by rw [if_neg q] at h; exact h) H locs ls hP hD hS hl)
theorem V_if_ge (X : Cx p R s m args meth c own cc nL d D ad cI cB A cells slots) {x : Int32} {off : Int} (tgt : Nat) {α : Type} {A1 A2 : Option α} {K : α → Prop} (hd : decode cc pc = .ok (.ifCond .ge off, 3)) (ht : (pc : Int) + off = (tgt : Int)) (h : wpO (if 0 ≤ x then A1 else A2) K) (kt : 0 ≤ x → wpO A1 K → V p l e R s m args below meth c nL D A cells slots Q ws tgt lv st) (kf : ¬ (0 ≤ x) → wpO A2 K → V p l e R s m args below meth c nL D A cells slots Q ws (pc + 3) lv st) : V p l e R s m args below meth c nL D A cells slots Q ws pc lv (.int x :: st) :=
  fun H locs ls hP hD hS hl => lv_if_ge X.1 X.2.1 hd ht (fun q => kt q (by rw [if_pos q] at h; exact h) H locs ls hP hD hS hl) (fun q => kf q (by rw [if_neg q] at h; exact h) H locs ls hP hD hS hl)
theorem V_if_geT (X : Cx p R s m args meth c own cc nL d D ad cI cB A cells slots) {x : Int32} {off : Int} (tgt : Nat) (hd : decode cc pc = .ok (.ifCond .ge off, 3)) (ht : (pc : Int) + off = (tgt : Int)) (hx : 0 ≤ x) (k : V p l e R s m args below meth c nL D A cells slots Q ws tgt lv st) : V p l e R s m args below meth c nL D A cells slots Q ws pc lv (.int x :: st) :=
  fun H locs ls hP hD hS hl => lv_if_ge X.1 X.2.1 hd ht (fun q => k H locs ls hP hD hS hl) (fun q => absurd hx q)
theorem V_if_geF (X : Cx p R s m args meth c own cc nL d D ad cI cB A cells slots) {x : Int32} {off : Int} (hd : decode cc pc = .ok (.ifCond .ge off, 3)) (tgt : Nat) (ht : (pc : Int) + off = (tgt : Int)) (hx : ¬ (0 ≤ x)) (k : V p l e R s m args below meth c nL D A cells slots Q ws (pc + 3) lv st) : V p l e R s m args below meth c nL D A cells slots Q ws pc lv (.int x :: st) :=
  fun H locs ls hP hD hS hl => lv_if_ge X.1 X.2.1 hd ht (fun q => absurd q hx) (fun q => k H locs ls hP hD hS hl)
theorem V_icmp_gt (X : Cx p R s m args meth c own cc nL d D ad cI cB A cells slots) {x y : Int32} {off : Int} (tgt : Nat) {α : Type} {A1 A2 : Option α} {K : α → Prop} (hd : decode cc pc = .ok (.if_icmp .gt off, 3)) (ht : (pc : Int) + off = (tgt : Int)) (h : wpO (if y < x then A1 else A2) K) (kt : y < x → wpO A1 K → V p l e R s m args below meth c nL D A cells slots Q ws tgt lv st) (kf : ¬ (y < x) → wpO A2 K → V p l e R s m args below meth c nL D A cells slots Q ws (pc + 3) lv st) : V p l e R s m args below meth c nL D A cells slots Q ws pc lv (.int y :: .int x :: st) :=
  fun H locs ls hP hD hS hl => lv_icmp_gt X.1 X.2.1 hd ht (fun q => kt q (by rw [if_pos q] at h; exact h) H locs ls hP hD hS hl) (fun q => kf q (by rw [if_neg q] at h; exact h) H locs ls hP hD hS hl)
theorem V_if_gt (X : Cx p R s m args meth c own cc nL d D ad cI cB A cells slots) {x : Int32} {off : Int} (tgt : Nat) {α : Type} {A1 A2 : Option α} {K : α → Prop} (hd : decode cc pc = .ok (.ifCond .gt off, 3)) (ht : (pc : Int) + off = (tgt : Int)) (h : wpO (if 0 < x then A1 else A2) K) (kt : 0 < x → wpO A1 K → V p l e R s m args below meth c nL D A cells slots Q ws tgt lv st) (kf : ¬ (0 < x) → wpO A2 K → V p l e R s m args below meth c nL D A cells slots Q ws (pc + 3) lv st) : V p l e R s m args below meth c nL D A cells slots Q ws pc lv (.int x :: st) :=
  fun H locs ls hP hD hS hl => lv_if_gt X.1 X.2.1 hd ht (fun q => kt q (by rw [if_pos q] at h; exact h) H locs ls hP hD hS hl) (fun q => kf q (by rw [if_neg q] at h; exact h) H locs ls hP hD hS hl)
theorem V_if_gtT (X : Cx p R s m args meth c own cc nL d D ad cI cB A cells slots) {x : Int32} {off : Int} (tgt : Nat) (hd : decode cc pc = .ok (.ifCond .gt off, 3)) (ht : (pc : Int) + off = (tgt : Int)) (hx : 0 < x) (k : V p l e R s m args below meth c nL D A cells slots Q ws tgt lv st) : V p l e R s m args below meth c nL D A cells slots Q ws pc lv (.int x :: st) :=
  fun H locs ls hP hD hS hl => lv_if_gt X.1 X.2.1 hd ht (fun q => k H locs ls hP hD hS hl) (fun q => absurd hx q)
theorem V_if_gtF (X : Cx p R s m args meth c own cc nL d D ad cI cB A cells slots) {x : Int32} {off : Int} (hd : decode cc pc = .ok (.ifCond .gt off, 3)) (tgt : Nat) (ht : (pc : Int) + off = (tgt : Int)) (hx : ¬ (0 < x)) (k : V p l e R s m args below meth c nL D A cells slots Q ws (pc + 3) lv st) : V p l e R s m args below meth c nL D A cells slots Q ws pc lv (.int x :: st) :=
  fun H locs ls hP hD hS hl => lv_if_gt X.1 X.2.1 hd ht (fun q => absurd q hx) (fun q => k H locs ls hP hD hS hl)
theorem V_icmp_le (X : Cx p R s m args meth c own cc nL d D ad cI cB A cells slots) {x y : Int32} {off : Int} (tgt : Nat) {α : Type} {A1 A2 : Option α} {K : α → Prop} (hd : decode cc pc = .ok (.if_icmp .le off, 3)) (ht : (pc : Int) + off = (tgt : Int)) (h : wpO (if x ≤ y then A1 else A2) K) (kt : x ≤ y → wpO A1 K → V p l e R s m args below meth c nL D A cells slots Q ws tgt lv st) (kf : ¬ (x ≤ y) → wpO A2 K → V p l e R s m args below meth c nL D A cells slots Q ws (pc + 3) lv st) : V p l e R s m args below meth c nL D A cells slots Q ws pc lv (.int y :: .int x :: st) :=
  fun H locs ls hP hD hS hl => lv_icmp_le X.1 X.2.1 hd ht (fun q => kt q (by rw [if_pos q] at h; exact h) H locs ls hP hD hS hl) (fun q => kf q (by rw [if_neg q] at h; exact h) H locs ls hP hD hS hl)
theorem V_if_le (X : Cx p R s m args meth c own cc nL d D ad cI cB A cells slots) {x : Int32} {off : Int} (tgt : Nat) {α : Type} {A1 A2 : Option α} {K : α → Prop} (hd : decode cc pc = .ok (.ifCond .le off, 3)) (ht : (pc : Int) + off = (tgt : Int)) (h : wpO (if x ≤ 0 then A1 else A2) K) (kt : x ≤ 0 → wpO A1 K → V p l e R s m args below meth c nL D A cells slots Q ws tgt lv st) (kf : ¬ (x ≤ 0) → wpO A2 K → V p l e R s m args below meth c nL D A cells slots Q ws (pc + 3) lv st) : V p l e R s m args below meth c nL D A cells slots Q ws pc lv (.int x :: st) :=
  fun H locs ls hP hD hS hl => lv_if_le X.1 X.2.1 hd ht (fun q => kt q (by rw [if_pos q] at h; exact h) H locs ls hP hD hS hl) (fun q => kf q (by rw [if_neg q] at h; exact h) H locs ls hP hD hS hl)
theorem V_if_leT (X : Cx p R s m args meth c own cc nL d D ad cI cB A cells slots) {x : Int32} {off : Int} (tgt : Nat) (hd : decode cc pc = .ok (.ifCond .le off, 3)) (ht : (pc : Int) + off = (tgt : Int)) (hx : x ≤ 0) (k : V p l e R s m args below meth c nL D A cells slots Q ws tgt lv st) : V p l e R s m args below meth c nL D A cells slots Q ws pc lv (.int x :: st) :=
  fun H locs ls hP hD hS hl => lv_if_le X.1 X.2.1 hd ht (fun q => k H locs ls hP hD hS hl) (fun q => absurd hx q)
theorem V_if_leF (X : Cx p R s m args meth c own cc nL d D ad cI cB A cells slots) {x : Int32} {off : Int} (hd : decode cc pc = .ok (.ifCond .le off, 3)) (tgt : Nat) (ht : (pc : Int) + off = (tgt : Int)) (hx : ¬ (x ≤ 0)) (k : V p l e R s m args below meth c nL D A cells slots Q ws (pc + 3) lv st) : V p l e R s m args below meth c nL D A cells slots Q ws pc lv (.int x :: st) :=
  fun H locs ls hP hD hS hl => lv_if_le X.1 X.2.1 hd ht (fun q => absurd q hx) (fun q => k H locs ls hP hD hS hl)
theorem V_goto (X : Cx p R s m args meth c own cc nL d D ad cI cB A cells slots) {off : Int} (tgt : Nat) (hd : decode cc pc = .ok (.goto off, 3)) (ht : (pc : Int) + off = (tgt : Int)) (k : V p l e R s m args below meth c nL D A cells slots Q ws tgt lv st) : V p l e R s m args below meth c nL D A cells slots Q ws pc lv st :=
  fun H locs ls hP hD hS hl => lv_goto X.1 X.2.1 hd ht (k H locs ls hP hD hS hl)
theorem V_dup (X : Cx p R s m args meth c own cc nL d D ad cI cB A cells slots) {v : Value} (hd : decode cc pc = .ok (.dup, 1)) (hv : v.category = 1) (k : V p l e R s m args below meth c nL D A cells slots Q ws (pc + 1) lv (v :: v :: st)) : V p l e R s m args below meth c nL D A cells slots Q ws pc lv (v :: st) :=
  fun H locs ls hP hD hS hl => lv_dup X.1 X.2.1 hd hv (k H locs ls hP hD hS hl)
theorem V_pop (X : Cx p R s m args meth c own cc nL d D ad cI cB A cells slots) {v : Value} (hd : decode cc pc = .ok (.pop, 1)) (hv : v.category = 1) (k : V p l e R s m args below meth c nL D A cells slots Q ws (pc + 1) lv st) : V p l e R s m args below meth c nL D A cells slots Q ws pc lv (v :: st) :=
  fun H locs ls hP hD hS hl => lv_pop X.1 X.2.1 hd hv (k H locs ls hP hD hS hl)
theorem V_dup2 (X : Cx p R s m args meth c own cc nL d D ad cI cB A cells slots) {v u : Value} (hd : decode cc pc = .ok (.dup2, 1)) (hv : v.category = 1) (hu : u.category = 1) (k : V p l e R s m args below meth c nL D A cells slots Q ws (pc + 1) lv (v :: u :: v :: u :: st)) : V p l e R s m args below meth c nL D A cells slots Q ws pc lv (v :: u :: st) :=
  fun H locs ls hP hD hS hl => lv_dup2_11 X.1 X.2.1 hd hv hu (k H locs ls hP hD hS hl)
theorem V_ifnonnull (X : Cx p R s m args meth c own cc nL d D ad cI cB A cells slots) {x : Nat} {off : Int} (tgt : Nat) (hd : decode cc pc = .ok (.ifnonnull off, 3)) (ht : (pc : Int) + off = (tgt : Int)) (k : V p l e R s m args below meth c nL D A cells slots Q ws tgt lv st) : V p l e R s m args below meth c nL D A cells slots Q ws pc lv (.ref x :: st) :=
  fun H locs ls hP hD hS hl => lv_ifnonnull X.1 X.2.1 hd ht (k H locs ls hP hD hS hl)
theorem V_tableOut (X : Cx p R s m args meth c own cc nL d D ad cI cB A cells slots) {dflt lo hi : Int} {offs : Array Int} {len : Nat} {x : Int32} (tgt : Nat) (hd : decode cc pc = .ok (.tableswitch dflt lo hi offs, len)) (hx : x.toInt < lo ∨ hi < x.toInt) (ht : (pc : Int) + dflt = (tgt : Int)) (k : V p l e R s m args below meth c nL D A cells slots Q ws tgt lv st) : V p l e R s m args below meth c nL D A cells slots Q ws pc lv (.int x :: st) :=
  fun H locs ls hP hD hS hl => lv_tableOut X.1 X.2.1 hd hx ht (k H locs ls hP hD hS hl)
theorem V_tableIn (X : Cx p R s m args meth c own cc nL d D ad cI cB A cells slots) {dflt lo hi : Int} {offs : Array Int} {len : Nat} {x : Int32} (off : Int) (tgt : Nat) (hd : decode cc pc = .ok (.tableswitch dflt lo hi offs, len)) (z : Int) (hx : x.toInt = z) (h1 : ¬ z < lo) (h2 : ¬ hi < z) (ho : offs[(z - lo).toNat]? = some off) (ht : (pc : Int) + off = (tgt : Int)) (k : V p l e R s m args below meth c nL D A cells slots Q ws tgt lv st) : V p l e R s m args below meth c nL D A cells slots Q ws pc lv (.int x :: st) := by
  subst hx
  exact fun H locs ls hP hD hS hl => lv_tableIn X.1 X.2.1 hd h1 h2 ho ht (k H locs ls hP hD hS hl)
theorem V_lookup (X : Cx p R s m args meth c own cc nL d D ad cI cB A cells slots) {dflt : Int} {ps : Array (Int × Int)} {len : Nat} {x : Int32} (off : Int) (tgt : Nat) (hd : decode cc pc = .ok (.lookupswitch dflt ps, len)) (hp : (ps.toList.zip (ps.toList.drop 1)).all (fun (a, next) => a.1 < next.1) = true) (ho : Op.lookupswitch.offset ps.toList dflt x.toInt = off) (ht : (pc : Int) + off = (tgt : Int)) (k : V p l e R s m args below meth c nL D A cells slots Q ws tgt lv st) : V p l e R s m args below meth c nL D A cells slots Q ws pc lv (.int x :: st) :=
  fun H locs ls hP hD hS hl => lv_lookup X.1 X.2.1 hd hp ho ht (k H locs ls hP hD hS hl)
theorem V_lcmp (X : Cx p R s m args meth c own cc nL d D ad cI cB A cells slots) {x y : Int64} (hd : decode cc pc = .ok (.lcmp, 1)) (k : V p l e R s m args below meth c nL D A cells slots Q ws (pc + 1) lv (.int (lg_cmp x y) :: st)) : V p l e R s m args below meth c nL D A cells slots Q ws pc lv (.long y :: .long x :: st) :=
  fun H locs ls hP hD hS hl => W.lcmp X.1 X.2.1 hd (k H locs ls hP hD hS hl)
/-- a field: q is its class's place, j its own -/
theorem V_get (X : Cx p R s m args meth c own cc nL d D ad cI cB A cells slots) (q j : Nat) {C : String} {T : u_T} {N idx k : Nat} (hq : classes[q]? = some (C, T, N)) (hin : ∀ w ∈ u_ws C T N, w ∈ gtbl) (hj : j < N) (hn : j < jv_nf q) (hl : Cond.fieldLink own idx (T j).1 (T j).2.1 (T j).2.2.1 ∈ gtbl) (hd : decode cc pc = .ok (.getfield idx, 3)) (hk : k < 116) (hc : jv_cls k = q) (hq11 : q < 11)
    (kk : V p l e R s m args below meth c nL D A cells slots Q (wl ad cI cB σ) (pc + 3) lv (jv_fv ad σ q k j :: st)) : V p l e R s m args below meth c nL D A cells slots Q (wl ad cI cB σ) pc lv (.ref (ad k) :: st) :=
  fun H locs ls hP hD hS hl' => va_get (D := D) (ci := q) (C := C) (T := T) (N := N) X.1 X.2.1 X.2.2.2.2.1 hin X.2.2.2.1 X.2.2.2.2.2.1 hP k (by rw [wl_get hk, jv_ceO hc hq11]) hq j hj (X.2.2.2.2.1 _ hl) (fun _ h9 => h9) (jv_fsAt hn) hd (kk H locs ls hP hD hS hl')
theorem jv_fvI {ad : Nat → Nat} {σ : Sg} {q k j : Nat} (h : jv_ty q j = 0) : jv_fv ad σ q k j = .int (gF σ k j) := by rw [jv_fv, if_pos h]
theorem jv_fvR {ad : Nat → Nat} {σ : Sg} {q k j : Nat} (h : jv_ty q j = 1) : jv_fv ad σ q k j = .ref (ad (jv_rf k j)) := by rw [jv_fv, if_neg (by omega), if_pos h]
theorem jv_fvL {ad : Nat → Nat} {σ : Sg} {q k j : Nat} (h : jv_ty q j = 2) : jv_fv ad σ q k j = .long (gL σ k j) := by rw [jv_fv, if_neg (by omega), if_neg (by omega)]
theorem V_getI (X : Cx p R s m args meth c own cc nL d D ad cI cB A cells slots) (q j : Nat) {C : String} {T : u_T} {N idx k : Nat} (hq : classes[q]? = some (C, T, N)) (hin : ∀ w ∈ u_ws C T N, w ∈ gtbl) (hj : j < N) (hn : j < jv_nf q) (ht : jv_ty q j = 0) (hl : Cond.fieldLink own idx (T j).1 (T j).2.1 (T j).2.2.1 ∈ gtbl) (hd : decode cc pc = .ok (.getfield idx, 3)) (hk : k < 116) (hc : jv_cls k = q) (hq11 : q < 11)
    (kk : V p l e R s m args below meth c nL D A cells slots Q (wl ad cI cB σ) (pc + 3) lv (.int (gF σ k j) :: st)) : V p l e R s m args below meth c nL D A cells slots Q (wl ad cI cB σ) pc lv (.ref (ad k) :: st) :=
  V_get X q j hq hin hj hn hl hd hk hc hq11 (by rw [jv_fvI ht]; exact kk)
theorem V_getR (X : Cx p R s m args meth c own cc nL d D ad cI cB A cells slots) (q j t : Nat) {C : String} {T : u_T} {N idx k : Nat} (hq : classes[q]? = some (C, T, N)) (hin : ∀ w ∈ u_ws C T N, w ∈ gtbl) (hj : j < N) (hn : j < jv_nf q) (ht : jv_ty q j = 1) (hl : Cond.fieldLink own idx (T j).1 (T j).2.1 (T j).2.2.1 ∈ gtbl) (hd : decode cc pc = .ok (.getfield idx, 3)) (hk : k < 116) (hc : jv_cls k = q) (hq11 : q < 11) (hr : jv_rf k j = t)
    (kk : V p l e R s m args below meth c nL D A cells slots Q (wl ad cI cB σ) (pc + 3) lv (.ref (ad t) :: st)) : V p l e R s m args below meth c nL D A cells slots Q (wl ad cI cB σ) pc lv (.ref (ad k) :: st) :=
  V_get X q j hq hin hj hn hl hd hk hc hq11 (by rw [jv_fvR ht, hr]; exact kk)
theorem V_getL (X : Cx p R s m args meth c own cc nL d D ad cI cB A cells slots) (q j : Nat) {C : String} {T : u_T} {N idx k : Nat} (hq : classes[q]? = some (C, T, N)) (hin : ∀ w ∈ u_ws C T N, w ∈ gtbl) (hj : j < N) (hn : j < jv_nf q) (ht : jv_ty q j = 2) (hl : Cond.fieldLink own idx (T j).1 (T j).2.1 (T j).2.2.1 ∈ gtbl) (hd : decode cc pc = .ok (.getfield idx, 3)) (hk : k < 116) (hc : jv_cls k = q) (hq11 : q < 11)
    (kk : V p l e R s m args below meth c nL D A cells slots Q (wl ad cI cB σ) (pc + 3) lv (.long (gL σ k j) :: st)) : V p l e R s m args below meth c nL D A cells slots Q (wl ad cI cB σ) pc lv (.ref (ad k) :: st) :=
  V_get X q j hq hin hj hn hl hd hk hc hq11 (by rw [jv_fvL ht]; exact kk)
theorem V_put (X : Cx p R s m args meth c own cc nL d D ad cI cB A cells slots) (q j : Nat) {C : String} {T : u_T} {N idx k : Nat} {σ' : Sg} {v : Value} {ty : FieldType} {ty0 : Nat → FieldType} (hq : classes[q]? = some (C, T, N)) (hin : ∀ w ∈ u_ws C T N, w ∈ gtbl) (hty : ∀ k, k < N → parseFieldDescriptor (T k).2.2.1 = some (ty0 k)) (hnm : ∀ a, a < N → ∀ b, b < N → a ≠ b → (T a).2.1 ≠ (T b).2.1) (hj : j < N) (hn : j < jv_nf q) (hfin : (T j).2.2.2 = false) (htd : parseFieldDescriptor (T j).2.2.1 = some ty) (hnar : narrow ty v = v) (hfit : fits ty v = true) (hl : Cond.fieldLink own idx (T j).1 (T j).2.1 (T j).2.2.1 ∈ gtbl) (hd : decode cc pc = .ok (.putfield idx, 3)) (hk : k < 116) (hc : jv_cls k = q) (hq11 : q < 11)
    (h1 : jv_fv ad σ' q k j = v) (h2 : ∀ i, i ≠ j → jv_fv ad σ' q k i = jv_fv ad σ q k i) (h3 : ∀ i, i < 116 → i ≠ k → jv_ce ad cI cB σ' i = jv_ce ad cI cB σ i)
    (kk : V p l e R s m args below meth c nL D A cells slots Q (wl ad cI cB σ') (pc + 3) lv st) : V p l e R s m args below meth c nL D A cells slots Q (wl ad cI cB σ) pc lv (v :: .ref (ad k) :: st) := by
  intro H locs ls hP hD hS hl'
  have e : (wl ad cI cB σ).set k (ad k, .inr (q, (jv_fs ad σ q k).set j v)) = wl ad cI cB σ' := wl_set hk (by rw [jv_ceO hc hq11, jv_fsSet hn h1 h2]) h3
  refine va_put (D := D) (ci := q) (C := C) (T := T) (N := N) (ty := ty) X.1 X.2.1 X.2.2.2.2.1 hin ty0 hty hnm X.2.2.2.1 X.2.2.2.2.2.1 hP hD hS k (by rw [wl_get hk, jv_ceO hc hq11]) hq j hj (X.2.2.2.2.1 _ hl) (fun _ h9 => h9) hfin htd hnar hfit (by simp [jv_fs, hn]) hd (fun H1 locs1 hP1 hD1 hS1 => ?_)
  rw [e] at hP1 hD1
  exact kk H1 locs1 ls hP1 hD1 hS1 hl'
theorem V_putI (X : Cx p R s m args meth c own cc nL d D ad cI cB A cells slots) (q j : Nat) {C : String} {T : u_T} {N idx k : Nat} {x : Int32} {ty0 : Nat → FieldType} (hq : classes[q]? = some (C, T, N)) (hin : ∀ w ∈ u_ws C T N, w ∈ gtbl) (hty : ∀ k, k < N → parseFieldDescriptor (T k).2.2.1 = some (ty0 k)) (hnm : ∀ a, a < N → ∀ b, b < N → a ≠ b → (T a).2.1 ≠ (T b).2.1) (hj : j < N) (hn : j < jv_nf q) (ht : jv_ty q j = 0) (hfin : (T j).2.2.2 = false) (htd : parseFieldDescriptor (T j).2.2.1 = some .int) (hl : Cond.fieldLink own idx (T j).1 (T j).2.1 (T j).2.2.1 ∈ gtbl) (hd : decode cc pc = .ok (.putfield idx, 3)) (hk : k < 116) (hc : jv_cls k = q) (hq11 : q < 11)
    (kk : V p l e R s m args below meth c nL D A cells slots Q (wl ad cI cB (sF σ k j x)) (pc + 3) lv st) : V p l e R s m args below meth c nL D A cells slots Q (wl ad cI cB σ) pc lv (.int x :: .ref (ad k) :: st) :=
  V_put (σ' := sF σ k j x) X q j hq hin hty hnm hj hn hfin htd rfl rfl hl hd hk hc hq11 (by simp [jv_fvI ht, gF, sF]) (fun i hi => by simp [jv_fv, gF, gL, sF, hi]) (fun i _ hi => jv_ceOther (fun j => by simp [gF, sF, hi]) rfl (fun j => rfl)) kk
theorem V_putZ (X : Cx p R s m args meth c own cc nL d D ad cI cB A cells slots) (q j : Nat) {C : String} {T : u_T} {N idx k : Nat} {x : Int32} {ty0 : Nat → FieldType} (hb : isb x = true) (hq : classes[q]? = some (C, T, N)) (hin : ∀ w ∈ u_ws C T N, w ∈ gtbl) (hty : ∀ k, k < N → parseFieldDescriptor (T k).2.2.1 = some (ty0 k)) (hnm : ∀ a, a < N → ∀ b, b < N → a ≠ b → (T a).2.1 ≠ (T b).2.1) (hj : j < N) (hn : j < jv_nf q) (ht : jv_ty q j = 0) (hfin : (T j).2.2.2 = false) (htd : parseFieldDescriptor (T j).2.2.1 = some .boolean) (hl : Cond.fieldLink own idx (T j).1 (T j).2.1 (T j).2.2.1 ∈ gtbl) (hd : decode cc pc = .ok (.putfield idx, 3)) (hk : k < 116) (hc : jv_cls k = q) (hq11 : q < 11)
    (kk : V p l e R s m args below meth c nL D A cells slots Q (wl ad cI cB (sF σ k j x)) (pc + 3) lv st) : V p l e R s m args below meth c nL D A cells slots Q (wl ad cI cB σ) pc lv (.int x :: .ref (ad k) :: st) :=
  V_put (σ' := sF σ k j x) X q j hq hin hty hnm hj hn hfin htd (isb_nar hb).1 (isb_nar hb).2 hl hd hk hc hq11 (by simp [jv_fvI ht, gF, sF]) (fun i hi => by simp [jv_fv, gF, gL, sF, hi]) (fun i _ hi => jv_ceOther (fun j => by simp [gF, sF, hi]) rfl (fun j => rfl)) kk
theorem V_putL (X : Cx p R s m args meth c own cc nL d D ad cI cB A cells slots) (q j : Nat) {C : String} {T : u_T} {N idx k : Nat} {x : Int64} {ty0 : Nat → FieldType} (hq : classes[q]? = some (C, T, N)) (hin : ∀ w ∈ u_ws C T N, w ∈ gtbl) (hty : ∀ k, k < N → parseFieldDescriptor (T k).2.2.1 = some (ty0 k)) (hnm : ∀ a, a < N → ∀ b, b < N → a ≠ b → (T a).2.1 ≠ (T b).2.1) (hj : j < N) (hn : j < jv_nf q) (ht : jv_ty q j = 2) (hfin : (T j).2.2.2 = false) (htd : parseFieldDescriptor (T j).2.2.1 = some .long) (hl : Cond.fieldLink own idx (T j).1 (T j).2.1 (T j).2.2.1 ∈ gtbl) (hd : decode cc pc = .ok (.putfield idx, 3)) (hk : k < 116) (hc : jv_cls k = q) (hq11 : q < 11)
    (kk : V p l e R s m args below meth c nL D A cells slots Q (wl ad cI cB (sL σ k j x)) (pc + 3) lv st) : V p l e R s m args below meth c nL D A cells slots Q (wl ad cI cB σ) pc lv (.long x :: .ref (ad k) :: st) :=
  V_put (σ' := sL σ k j x) X q j hq hin hty hnm hj hn hfin htd rfl rfl hl hd hk hc hq11 (by simp [jv_fvL ht, gL, sL]) (fun i hi => by simp [jv_fv, gF, gL, sL, hi]) (fun i _ hi => jv_ceOther (fun j => rfl) rfl (fun j => by simp [gL, sL, hi])) kk
theorem V_iald (X : Cx p R s m args meth c own cc nL d D ad cI cB A cells slots) {k n : Nat} {i : Int32} {α : Type} {A1 : Option α} {K : α → Prop} (hd : decode cc pc = .ok (.iaload, 1)) (hk : k < 116) (hc : jv_cls k = 100) (hn : jv_ln k = n) (h : wpO (if inb i n = true then A1 else none) K)
    (kk : wpO A1 K → V p l e R s m args below meth c nL D A cells slots Q (wl ad cI cB σ) (pc + 1) lv (.int (gA σ k (ix i)) :: st)) : V p l e R s m args below meth c nL D A cells slots Q (wl ad cI cB σ) pc lv (.int i :: .ref (ad k) :: st) :=
  fun H locs ls hP hD hS hl => va_iald (D := D) (cA := cI) (n := jv_ln k) (f := σ.2.1 k) X.1 X.2.1 X.2.2.2.2.2.1 hP k 0 (by rw [wl_get hk, jv_ceI hc]) rfl (by rw [hn]; exact inb_vp (wp_if h).1) hd (kk (wp_if h).2 H locs ls hP hD hS hl)
theorem V_bald (X : Cx p R s m args meth c own cc nL d D ad cI cB A cells slots) {k n : Nat} {i : Int32} {α : Type} {A1 : Option α} {K : α → Prop} (hd : decode cc pc = .ok (.baload, 1)) (hk : k < 116) (hc : jv_cls k = 101) (hn : jv_ln k = n) (h : wpO (if inb i n = true then A1 else none) K)
    (kk : wpO A1 K → V p l e R s m args below meth c nL D A cells slots Q (wl ad cI cB σ) (pc + 1) lv (.int (gA σ k (ix i)) :: st)) : V p l e R s m args below meth c nL D A cells slots Q (wl ad cI cB σ) pc lv (.int i :: .ref (ad k) :: st) :=
  fun H locs ls hP hD hS hl => va_bald (D := D) (cA := cB) (n := jv_ln k) (f := σ.2.1 k) X.1 X.2.1 X.2.2.2.2.2.1 hP k 1 (by rw [wl_get hk, jv_ceB hc]) rfl (by rw [hn]; exact inb_vp (wp_if h).1) hd (kk (wp_if h).2 H locs ls hP hD hS hl)
theorem jv_sAce {ad : Nat → Nat} {cI cB : ClassId} {σ : Sg} {k i j : Nat} {v : Int32} (hj : j ≠ k) : jv_ce ad cI cB (sA σ k i v) j = jv_ce ad cI cB σ j :=
  jv_ceOther (fun _ => rfl) (by funext b; simp [sA, hj]) (fun _ => rfl)
theorem jv_sAup {σ : Sg} {k i : Nat} {v : Int32} : (sA σ k i v).2.1 k = upd (σ.2.1 k) i v := by funext b; simp [sA, upd]
theorem V_iast (X : Cx p R s m args meth c own cc nL d D ad cI cB A cells slots) {k n : Nat} {i x : Int32} {α : Type} {A1 : Option α} {K : α → Prop} (hd : decode cc pc = .ok (.iastore, 1)) (hk : k < 116) (hc : jv_cls k = 100) (hn : jv_ln k = n) (h : wpO (if inb i n = true then A1 else none) K)
    (kk : wpO A1 K → V p l e R s m args below meth c nL D A cells slots Q (wl ad cI cB (sA σ k (ix i) x)) (pc + 1) lv st) : V p l e R s m args below meth c nL D A cells slots Q (wl ad cI cB σ) pc lv (.int x :: .int i :: .ref (ad k) :: st) := by
  intro H locs ls hP hD hS hl
  have e : (wl ad cI cB σ).set k (ad k, .inl (cI, jv_ln k, .inl (upd (σ.2.1 k) i.toNatClampNeg x))) = wl ad cI cB (sA σ k (ix i) x) := wl_set hk (by rw [jv_ceI hc, jv_sAup]; rfl) (fun j _ hj => jv_sAce hj)
  refine va_iast (D := D) X.1 X.2.1 X.2.2.2.2.2.1 hP hD hS k 0 (by rw [wl_get hk, jv_ceI hc]) rfl (by rw [hn]; exact inb_vp (wp_if h).1) hd (fun H1 locs1 hP1 hD1 hS1 => ?_)
  rw [e] at hP1 hD1
  exact kk (wp_if h).2 H1 locs1 ls hP1 hD1 hS1 hl
theorem V_bast (X : Cx p R s m args meth c own cc nL d D ad cI cB A cells slots) {k n : Nat} {i x : Int32} {α : Type} {A1 : Option α} {K : α → Prop} (hd : decode cc pc = .ok (.bastore, 1)) (hk : k < 116) (hc : jv_cls k = 101) (hn : jv_ln k = n) (h : wpO (if inb i n = true then A1 else none) K)
    (kk : wpO A1 K → V p l e R s m args below meth c nL D A cells slots Q (wl ad cI cB (sA σ k (ix i) x.toInt8.toInt32)) (pc + 1) lv st) : V p l e R s m args below meth c nL D A cells slots Q (wl ad cI cB σ) pc lv (.int x :: .int i :: .ref (ad k) :: st) := by
  intro H locs ls hP hD hS hl
  have e : (wl ad cI cB σ).set k (ad k, .inl (cB, jv_ln k, .inl (upd (σ.2.1 k) i.toNatClampNeg (vp_nar .byte x)))) = wl ad cI cB (sA σ k (ix i) x.toInt8.toInt32) := wl_set hk (by rw [jv_ceB hc, jv_sAup, vp_nar_byte]; rfl) (fun j _ hj => jv_sAce hj)
  refine va_bast (D := D) X.1 X.2.1 X.2.2.2.2.2.1 hP hD hS k 1 (by rw [wl_get hk, jv_ceB hc]) rfl (by rw [hn]; exact inb_vp (wp_if h).1) hd (fun H1 locs1 hP1 hD1 hS1 => ?_)
  rw [e] at hP1 hD1
  exact kk (wp_if h).2 H1 locs1 ls hP1 hD1 hS1 hl
theorem V_alen (X : Cx p R s m args meth c own cc nL d D ad cI cB A cells slots) {k n : Nat} (hd : decode cc pc = .ok (.arraylength, 1)) (hk : k < 116) (hc : jv_cls k = 100) (hn : jv_ln k = n)
    (kk : V p l e R s m args below meth c nL D A cells slots Q (wl ad cI cB σ) (pc + 1) lv (.int (Int32.ofNat n) :: st)) : V p l e R s m args below meth c nL D A cells slots Q (wl ad cI cB σ) pc lv (.ref (ad k) :: st) :=
  fun H locs ls hP hD hS hl => va_alen (D := D) X.1 X.2.1 X.2.2.2.2.2.1 hP k 0 (by rw [wl_get hk, jv_ceI hc]) (ty := .int) rfl (by rw [← hn]) hd (kk H locs ls hP hD hS hl)
theorem jv_recv (X : Cx p R s m args meth c own cc nL d D ad cI cB A cells slots) {q k : Nat} {C : String} {T : u_T} {N : Nat} {H : Heap} (hq : classes[q]? = some (C, T, N)) (hk : k < 116) (hc : jv_cls k = q) (hq11 : q < 11) (hP : va_P D classes (wl ad cI cB σ) H) : ∃ cell : Cell, H[ad k]? = some cell ∧ cell.vm.isStatics = false ∧ s.vm.findClass C = some cell.cls :=
  va_recv (q := (C, T, N)) X.2.2.2.2.2.1 hP (ci := q) (q0 := k) hq (by rw [wl_get hk, jv_ceO hc hq11])
theorem jv_AwA {H : Heap} (hP : va_P D classes (wl ad cI cB σ) H) (hD : va_D A (wl ad cI cB σ)) {locs : List Loc} (hS : va_S A s.heap H locs) (hA : ∀ q, s.heap.size ≤ q → A q) : ∀ q, Aw ad H.size q → A q := by
  intro q h
  rcases h with ⟨k, hk, rfl⟩ | h
  · exact hD.2 k (ad k, jv_ce ad cI cB σ k) (wl_get hk)
  · exact hA q (Nat.le_trans hS.1 h)
/-- what a method is called by -/
def Mt (y : MethodName) (b : ByteArray) (mL : Nat) (ret : Option FieldType) (n : Nat) : Prop := Cond.code y b mL ret ∈ gtbl ∧ Cond.initialized y.cls ∈ gtbl ∧ (y.cls ≠ "java/lang/invoke/MethodHandle" ∧ y.cls ≠ "java/lang/invoke/VarHandle") ∧ (parseMethodDescriptor y.desc).map (fun d => d.parameters.length) = some n ∧ mL ≤ 40
theorem jv_good {y : MethodName} {b : ByteArray} {mL : Nat} {ret : Option FieldType} (h : Cond.code y b mL ret ∈ gtbl) : GoodIn gtbl (Cond.code y b mL ret :: gtbl) := by
  intro w hw
  rcases List.mem_cons.mp hw with rfl | hw
  · exact ⟨h, good_of_word (List.mem_filter.mp h).2⟩
  · exact ⟨hw, good_of_word (List.mem_filter.mp hw).2⟩
def CallOK (p : Program) (l : Launch) (e : Env) (R : Room) (s : State) (m : MethodId) (args : Array Value) (below : List Frame) (meth : Method) (c : Code) (nL : Nat) (D : va_G) (ad : Nat → Nat) (cI cB : ClassId) (A : Nat → Prop) (cells slots : Nat) (σ σ' : Sg) (pc : Nat) (st rest : List Value) (rv : Option Value) : Prop :=
  ∀ (H : Heap) (locs : List Loc) (ls : Array Slot), va_P D classes (wl ad cI cB σ) H → va_D A (wl ad cI cB σ) → va_S A s.heap H locs → ls.size = nL → ∃ a : Array Value, va_Run p l e R s m args below meth c H locs cells slots 0 0 (F0 m pc ls st) rest (Pst D (wl ad cI cB σ') (Aw ad H.size) rv a) (Aw ad H.size)
theorem V_call (X : Cx p R s m args meth c own cc nL d D ad cI cB A cells slots) {σ' : Sg} {rest : List Value} {rv : Option Value} (hc : CallOK p l e R s m args below meth c nL D ad cI cB A cells slots σ σ' pc st rest rv)
    (kk : V p l e R s m args below meth c nL D A cells slots Q (wl ad cI cB σ') (pc + 3) lv (rv.toList ++ rest)) : V p l e R s m args below meth c nL D A cells slots Q (wl ad cI cB σ) pc lv st := by
  intro H locs ls hP hD hS hl T hT Y
  obtain ⟨a, hr⟩ := hc H locs ls hP hD hS hl.1
  obtain ⟨v, st₀, t, T', L, h0, Y', hL, e1, e2, ⟨⟨hv, hP1, hD1⟩, hz, hk⟩, stp⟩ := hr T hT Y
  cases hv
  rw [h0] at hz hk
  have hAA := jv_AwA hP hD hS X.2.2.2.2.2.2.1
  obtain ⟨t2, a1, b1⟩ := kk T'.heap (locs ++ L) ls (by rw [e1]; exact hP1) (hD1.weaken (fun _ q _ h => hAA q.1 h))
    ⟨Nat.le_trans hS.1 (by rw [e1]; exact hz), fun q h1 h2 => by rw [e1, hk q (Nat.lt_of_lt_of_le h1 hS.1) (fun z => h2 (hAA q z))]; exact hS.2.1 q h1 h2, fun q hq => by
      rcases List.mem_append.mp hq with h | h
      · exact hS.2.2 q h
      · exact hAA _ (hL q h)⟩ hl T' rfl Y'
  exact ⟨t2, stp t2 a1, b1⟩
theorem jv_pre (X : Cx p R s m args meth c own cc nL d D ad cI cB A cells slots) {H : Heap} {locs : List Loc} {av : List Value} (hP : va_P D classes (wl ad cI cB σ) H) (hD : va_D A (wl ad cI cB σ)) (hS : va_S A s.heap H locs) : ∀ U : State, U.heap = H → s.WarmedH U.vm → Pre D ad cI cB (wl ad cI cB σ) H.size av av.toArray U :=
  fun U hU hW => ⟨rfl, by rw [hU], by rw [hU]; exact hP, va_K.moved hW.alike X.2.2.2.2.2.1, hD.weaken (fun _ _ _ _ => trivial), X.2.2.2.2.2.2.2.1.go hS hU hW (jv_AwA hP hD hS X.2.2.2.2.2.2.1)⟩
theorem jv_callB (X : Cx p R s m args meth c own cc nL d D ad cI cB A cells slots) {y : MethodName} {b : ByteArray} {mL : Nat} {ret : Option FieldType} {n dc idx : Nat} (mt : Mt y b mL ret n) (hd : dc + 1 ≤ d) (ml : (Cond.methodLink own idx y).before args s = true) : CallB R s args own idx y b mL ret (Cond.code y b mL ret :: gtbl) { frames := dc, cells := 0, slots := 0, locals := 64 * dc } 0 0 n :=
  callB_of n X.2.2.2.2.1 (jv_good mt.1) rfl rfl rfl (X.2.2.2.2.1 _ mt.2.1) ml ⟨mt.2.2.1.1, mt.2.2.1.2, mt.2.2.2.1⟩ ⟨Nat.le_trans hd X.2.2.2.2.2.2.2.2.1.1, by
    have h1 := X.2.2.2.2.2.2.2.2.1.2.1
    have h2 := mt.2.2.2.2
    show 8 + (mL + 11) + 64 * dc ≤ R.locals
    omega⟩
theorem C_V (X : Cx p R s m args meth c own cc nL d D ad cI cB A cells slots) {y : MethodName} {b : ByteArray} {mL : Nat} {ret : Option FieldType} {n dc idx q k : Nat} {C : String} {T : u_T} {N : Nat} {σ' : Sg} {rv : (Nat → Nat) → Option Value} {av : (Nat → Nat) → List Value} (As : List Value) {rest : List Value} (mt : Mt y b mL ret n) (ms : Cond.instanceMethod y ∈ gtbl ∧ Cond.selects C y y ∈ gtbl) (ml : Cond.methodLink own idx y ∈ gtbl) (hE : Evc y b mL ret dc av σ σ' rv) (hav : av ad = .ref (ad k) :: As) (hn : As.length = n) (hdc : dc + 1 ≤ d) (hr8 : (rest.map fun v => v.category).sum ≤ 8) (hq : classes[q]? = some (C, T, N)) (hk : k < 116) (hc : jv_cls k = q) (hq11 : q < 11) (hd : decode cc pc = .ok (.invokevirtual idx, 3)) :
    CallOK p l e R s m args below meth c nL D ad cI cB A cells slots σ σ' pc (As.reverse ++ .ref (ad k) :: rest) rest (rv ad) := by
  intro H locs ls hP hD hS hsz
  have hM := hE l D ad cI cB H.size
  rw [hav] at hM
  exact ⟨_, va_runV (As := As) (rest := rest) ⟨X.1, X.2.1, X.2.2.1, X.2.2.2.1, X.2.2.2.2.1⟩ hM ⟨jv_callB X mt hdc (X.2.2.2.2.1 _ ml), X.2.2.2.2.1 _ ms.1, X.2.2.2.2.1 _ ms.2⟩ ⟨Pre.blind, jv_recv X hq hk hc hq11 hP, jv_pre X hP hD hS⟩ rfl hn hsz rfl (by simpa [JFrame.monitorRoom] using hr8) hd ⟨X.2.2.2.2.2.2.2.2.1.2.2.1, X.2.2.2.2.2.2.2.2.1.2.2.2⟩⟩
theorem C_S (X : Cx p R s m args meth c own cc nL d D ad cI cB A cells slots) {y : MethodName} {b : ByteArray} {mL : Nat} {ret : Option FieldType} {n dc idx : Nat} {σ' : Sg} {rv : (Nat → Nat) → Option Value} {av : (Nat → Nat) → List Value} (As : List Value) {rest : List Value} (mt : Mt y b mL ret n) (ms : Cond.static y ∈ gtbl) (ml : Cond.methodLink own idx y ∈ gtbl) (hE : Evc y b mL ret dc av σ σ' rv) (hav : av ad = As) (hn : As.length = n) (hdc : dc + 1 ≤ d) (hr8 : (rest.map fun v => v.category).sum ≤ 8) (hd : decode cc pc = .ok (.invokestatic idx, 3)) :
    CallOK p l e R s m args below meth c nL D ad cI cB A cells slots σ σ' pc (As.reverse ++ rest) rest (rv ad) := by
  intro H locs ls hP hD hS hsz
  have hM := hE l D ad cI cB H.size
  rw [hav] at hM
  exact ⟨_, va_runS (As := As) (rest := rest) ⟨X.1, X.2.1, X.2.2.1, X.2.2.2.1, X.2.2.2.2.1⟩ hM ⟨jv_callB X mt hdc (X.2.2.2.2.1 _ ml), X.2.2.2.2.1 _ ms⟩ ⟨Pre.blind, jv_pre X hP hD hS⟩ rfl hn hsz rfl (by simpa [JFrame.monitorRoom] using hr8) hd ⟨X.2.2.2.2.2.2.2.2.1.2.2.1, X.2.2.2.2.2.2.2.2.1.2.2.2⟩⟩
theorem C_SN (X : Cx p R s m args meth c own cc nL d D ad cI cB A cells slots) {y : MethodName} {b : ByteArray} {mL : Nat} {ret : Option FieldType} {n dc idx : Nat} {host : String} {σ' : Sg} {rv : (Nat → Nat) → Option Value} {av : (Nat → Nat) → List Value} (As : List Value) {rest : List Value} (mt : Mt y b mL ret n) (ms : Cond.static y ∈ gtbl) (ml : Cond.methodLinkNest own idx y host ∈ lw_tbl) (hE : Evc y b mL ret dc av σ σ' rv) (hav : av ad = As) (hn : As.length = n) (hdc : dc + 1 ≤ d) (hr8 : (rest.map fun v => v.category).sum ≤ 8) (hd : decode cc pc = .ok (.invokestatic idx, 3)) :
    CallOK p l e R s m args below meth c nL D ad cI cB A cells slots σ σ' pc (As.reverse ++ rest) rest (rv ad) := by
  intro H locs ls hP hD hS hsz
  have hM := hE l D ad cI cB H.size
  rw [hav] at hM
  exact ⟨_, va_runSN (As := As) (rest := rest) ⟨X.1, X.2.1, X.2.2.1, X.2.2.2.1, X.2.2.2.2.1⟩ hM ⟨va_cnB n X.2.2.2.2.1 (jv_good mt.1) rfl rfl rfl (X.2.2.2.2.2.2.2.1.1 _ _ _ _ ml) (X.2.2.2.2.1 _ mt.2.1) ⟨mt.2.2.1.1, mt.2.2.1.2, mt.2.2.2.1⟩ ⟨Nat.le_trans hdc X.2.2.2.2.2.2.2.2.1.1, by
    have h1 := X.2.2.2.2.2.2.2.2.1.2.1
    have h2 := mt.2.2.2.2
    show 8 + (mL + 11) + 64 * dc ≤ R.locals
    omega⟩, X.2.2.2.2.1 _ ms, trivial⟩ ⟨Pre.blind, jv_pre X hP hD hS⟩ rfl hn hsz rfl (by simpa [JFrame.monitorRoom] using hr8) hd ⟨X.2.2.2.2.2.2.2.2.1.2.2.1, X.2.2.2.2.2.2.2.2.1.2.2.2⟩⟩

end VROWS
end
section
/-! HOW A METHOD ENDS, and how its contract comes out of the walk of its body -/
section VENDS
variable (p : Program) (l : Launch) (e : Env) (R : Room) (s : State) (m : MethodId) (args : Array Value) (below : List Frame) (meth : Method) (c : Code) (nL : Nat) (D : va_G) (ad : Nat → Nat) (cI cB : ClassId) (A : Nat → Prop) (cells slots : Nat) (Q : State → Prop) (cc : ByteArray)
def RI (z : Bool) (K : Int32 × Sg → Prop) : Prop := ∀ (r : Int32) (σ : Sg), K (r, σ) → (z = true → isb r = true) → ∀ (pc : Nat) (lv : List (Nat × Value)), decode cc pc = .ok (.ireturn, 1) → V p l e R s m args below meth c nL D A cells slots Q (wl ad cI cB σ) pc lv [.int r]
def RP (z : Bool) (σ : Sg) (K : Int32 → Prop) : Prop := ∀ (r : Int32), K r → (z = true → isb r = true) → ∀ (pc : Nat) (lv : List (Nat × Value)), decode cc pc = .ok (.ireturn, 1) → V p l e R s m args below meth c nL D A cells slots Q (wl ad cI cB σ) pc lv [.int r]
def RV (K : Sg → Prop) : Prop := ∀ (σ : Sg), K σ → ∀ (pc : Nat) (lv : List (Nat × Value)), decode cc pc = .ok (.return_, 1) → V p l e R s m args below meth c nL D A cells slots Q (wl ad cI cB σ) pc lv []
def RL (K : Int64 × Sg → Prop) : Prop := ∀ (r : Int64) (σ : Sg), K (r, σ) → ∀ (pc : Nat) (lv : List (Nat × Value)), decode cc pc = .ok (.lreturn, 1) → V p l e R s m args below meth c nL D A cells slots Q (wl ad cI cB σ) pc lv [.long r]
def RPL (σ : Sg) (K : Int64 → Prop) : Prop := ∀ (r : Int64), K r → ∀ (pc : Nat) (lv : List (Nat × Value)), decode cc pc = .ok (.lreturn, 1) → V p l e R s m args below meth c nL D A cells slots Q (wl ad cI cB σ) pc lv [.long r]
end VENDS
theorem Evc_of {y : MethodName} {b : ByteArray} {mL d : Nat} {ret : Option FieldType} {av : (Nat → Nat) → List Value} {σ σ' : Sg} {rv : (Nat → Nat) → Option Value} (hy : plainName y.cls = true) (hlen : ∀ ad, (lg_sl (av ad)).length ≤ mL)
    (body : ∀ (p : Program) (l : Launch) (e : Env) (R : Room) (s : State) (m : MethodId) (args : Array Value) (below : List Frame) (meth : Method) (c : Code) (D : va_G) (ad : Nat → Nat) (cI cB : ClassId) (A : Nat → Prop), Cx p R s m args meth c y.cls b mL d D ad cI cB A 0 0 → meth.sig.returnType = ret →
      (∀ (t : State) (H : Heap) (locs : List Loc), t.heap = H → va_P D classes (wl ad cI cB σ') H → va_D A (wl ad cI cB σ') → va_S A s.heap H locs → Pst D (wl ad cI cB σ') A (rv ad) args s (.returned (rv ad)) t ∧ ∀ q ∈ locs, A q.base) →
      V p l e R s m args below meth c mL D A 0 0 (MQ below (Pst D (wl ad cI cB σ') A (rv ad)) args s 0 0 A) (wl ad cI cB σ) 0 (lv_args 0 (av ad)) []) :
    Evc y b mL ret d av σ σ' rv := by
  intro l D ad cI cB sz
  refine Met.ofW (cc := b) (maxL := mL) (ret := ret) hy rfl ?_
  intro p e s m args below meth c s₁ B hml hv
  obtain ⟨rfl, hsz, hP, hK, hD0, hSx⟩ := hv
  have hts := atoms_spec (ws := Cond.code y b mL ret :: gtbl) B.pre
  have hown : s.vm.findClass y.cls = some m.cls := findClass_of_methodNamed B.named
  subst hsz
  have hD : va_D (Aw ad s.heap.size) (wl ad cI cB σ) := ⟨hD0.1, fun k q h => Or.inl ⟨k, (wl_out h).1, by rw [(wl_out h).2]⟩⟩
  have hS : va_S (Aw ad s.heap.size) s.heap s.heap [] := va_S.rf
  have hl := lv_entry (av ad) (n := mL) (hlen ad)
  rw [lg_entry_eq]
  generalize (lg_sl (av ad) ++ List.replicate (mL - (lg_sl (av ad)).length) Slot.unset).toArray = ls at hl ⊢
  refine body p l e _ s m _ below meth c D ad cI cB (Aw ad s.heap.size) ⟨B.exec, B.bytes, hml, hown, fun w hw => hts w (List.mem_cons_of_mem _ hw), hK, fun q h => Or.inr h, hSx, ⟨Nat.le_refl _, Nat.le_refl _, Nat.le_refl _, Nat.le_refl _⟩, B.notSynchronized⟩ B.returns ?_ s.heap [] ls hP hD hS hl
  intro t H locs ht hP1 hD1 hS1
  exact ⟨⟨⟨rfl, by rw [ht]; exact hP1, hD1⟩, hS1.F ht⟩, hS1.2.2⟩
theorem Evc_ofI {y : MethodName} {b : ByteArray} {mL d : Nat} {av : (Nat → Nat) → List Value} {σ σ' : Sg} {r : Int32} (hy : plainName y.cls = true) (hlen : ∀ ad, (lg_sl (av ad)).length ≤ mL)
    (body : ∀ (p : Program) (l : Launch) (e : Env) (R : Room) (s : State) (m : MethodId) (args : Array Value) (below : List Frame) (meth : Method) (c : Code) (D : va_G) (ad : Nat → Nat) (cI cB : ClassId) (A : Nat → Prop) (Q : State → Prop), Cx p R s m args meth c y.cls b mL d D ad cI cB A 0 0 → RI p l e R s m args below meth c mL D ad cI cB A 0 0 Q b false (fun q => q = (r, σ')) →
      V p l e R s m args below meth c mL D A 0 0 Q (wl ad cI cB σ) 0 (lv_args 0 (av ad)) []) :
    Evc y b mL (some .int) d av σ σ' (fun _ => some (.int r)) :=
  Evc_of hy hlen (fun p l e R s m args below meth c D ad cI cB A X hr hq => body p l e R s m args below meth c D ad cI cB A _ X (by
    intro r1 σ1 e1 _ pc lv hd H locs ls hP hD hS hl
    cases e1
    exact W.iret (v := r) X.1 X.2.1 hr (fun t ht _ => (hq t H locs ht hP hD hS).1) hS.2.2 hd X.2.2.2.2.2.2.2.2.2))
theorem Evc_ofZ {y : MethodName} {b : ByteArray} {mL d : Nat} {av : (Nat → Nat) → List Value} {σ σ' : Sg} {r : Int32} (hy : plainName y.cls = true) (hlen : ∀ ad, (lg_sl (av ad)).length ≤ mL)
    (body : ∀ (p : Program) (l : Launch) (e : Env) (R : Room) (s : State) (m : MethodId) (args : Array Value) (below : List Frame) (meth : Method) (c : Code) (D : va_G) (ad : Nat → Nat) (cI cB : ClassId) (A : Nat → Prop) (Q : State → Prop), Cx p R s m args meth c y.cls b mL d D ad cI cB A 0 0 → RI p l e R s m args below meth c mL D ad cI cB A 0 0 Q b true (fun q => q = (r, σ')) →
      V p l e R s m args below meth c mL D A 0 0 Q (wl ad cI cB σ) 0 (lv_args 0 (av ad)) []) :
    Evc y b mL (some .boolean) d av σ σ' (fun _ => some (.int r)) :=
  Evc_of hy hlen (fun p l e R s m args below meth c D ad cI cB A X hr hq => body p l e R s m args below meth c D ad cI cB A _ X (by
    intro r1 σ1 e1 hz pc lv hd H locs ls hP hD hS hl
    cases e1
    exact W.zret (v := r) X.1 X.2.1 hr (isb_nar (hz rfl)).1 (fun t ht _ => (hq t H locs ht hP hD hS).1) hS.2.2 hd X.2.2.2.2.2.2.2.2.2))
theorem Evc_ofV {y : MethodName} {b : ByteArray} {mL d : Nat} {av : (Nat → Nat) → List Value} {σ σ' : Sg} (hy : plainName y.cls = true) (hlen : ∀ ad, (lg_sl (av ad)).length ≤ mL)
    (body : ∀ (p : Program) (l : Launch) (e : Env) (R : Room) (s : State) (m : MethodId) (args : Array Value) (below : List Frame) (meth : Method) (c : Code) (D : va_G) (ad : Nat → Nat) (cI cB : ClassId) (A : Nat → Prop) (Q : State → Prop), Cx p R s m args meth c y.cls b mL d D ad cI cB A 0 0 → RV p l e R s m args below meth c mL D ad cI cB A 0 0 Q b (fun q => q = σ') →
      V p l e R s m args below meth c mL D A 0 0 Q (wl ad cI cB σ) 0 (lv_args 0 (av ad)) []) :
    Evc y b mL none d av σ σ' (fun _ => none) :=
  Evc_of hy hlen (fun p l e R s m args below meth c D ad cI cB A X hr hq => body p l e R s m args below meth c D ad cI cB A _ X (by
    intro σ1 e1 pc lv hd H locs ls hP hD hS hl
    cases e1
    exact W.vret X.1 X.2.1 hr (fun t ht _ => (hq t H locs ht hP hD hS).1) hS.2.2 hd X.2.2.2.2.2.2.2.2.2))
theorem Evc_ofL {y : MethodName} {b : ByteArray} {mL d : Nat} {av : (Nat → Nat) → List Value} {σ σ' : Sg} {r : Int64} (hy : plainName y.cls = true) (hlen : ∀ ad, (lg_sl (av ad)).length ≤ mL)
    (body : ∀ (p : Program) (l : Launch) (e : Env) (R : Room) (s : State) (m : MethodId) (args : Array Value) (below : List Frame) (meth : Method) (c : Code) (D : va_G) (ad : Nat → Nat) (cI cB : ClassId) (A : Nat → Prop) (Q : State → Prop), Cx p R s m args meth c y.cls b mL d D ad cI cB A 0 0 → RL p l e R s m args below meth c mL D ad cI cB A 0 0 Q b (fun q => q = (r, σ')) →
      V p l e R s m args below meth c mL D A 0 0 Q (wl ad cI cB σ) 0 (lv_args 0 (av ad)) []) :
    Evc y b mL (some .long) d av σ σ' (fun _ => some (.long r)) :=
  Evc_of hy hlen (fun p l e R s m args below meth c D ad cI cB A X hr hq => body p l e R s m args below meth c D ad cI cB A _ X (by
    intro r1 σ1 e1 pc lv hd H locs ls hP hD hS hl
    cases e1
    exact W.lret (v := r) X.1 X.2.1 hr (fun t ht _ => (hq t H locs ht hP hD hS).1) hS.2.2 hd X.2.2.2.2.2.2.2.2.2))
theorem Evc_ofR {y : MethodName} {b : ByteArray} {mL d : Nat} {C : String} {av : (Nat → Nat) → List Value} {σ : Sg} {k : Nat} (hy : plainName y.cls = true) (hlen : ∀ ad, (lg_sl (av ad)).length ≤ mL)
    (body : ∀ (p : Program) (l : Launch) (e : Env) (R : Room) (s : State) (m : MethodId) (args : Array Value) (below : List Frame) (meth : Method) (c : Code) (D : va_G) (ad : Nat → Nat) (cI cB : ClassId) (A : Nat → Prop) (Q : State → Prop), Cx p R s m args meth c y.cls b mL d D ad cI cB A 0 0 → (∀ (pc : Nat) (lv : List (Nat × Value)), decode b pc = .ok (.areturn, 1) → V p l e R s m args below meth c mL D A 0 0 Q (wl ad cI cB σ) pc lv [.ref (ad k)]) →
      V p l e R s m args below meth c mL D A 0 0 Q (wl ad cI cB σ) 0 (lv_args 0 (av ad)) []) :
    Evc y b mL (some (.object C)) d av σ σ (fun ad => some (.ref (ad k))) :=
  Evc_of hy hlen (fun p l e R s m args below meth c D ad cI cB A X hr hq => body p l e R s m args below meth c D ad cI cB A _ X (by
    intro pc lv hd H locs ls hP hD hS hl
    exact W.aret (v := .ref (ad k)) X.1 X.2.1 hr (Or.inl ⟨_, rfl⟩) (Or.inr ⟨_, rfl⟩) (fun t ht _ => (hq t H locs ht hP hD hS).1) hS.2.2 hd X.2.2.2.2.2.2.2.2.2))
theorem RI.pure {p : Program} {l : Launch} {e : Env} {R : Room} {s : State} {m : MethodId} {args : Array Value} {below : List Frame} {meth : Method} {c : Code} {nL : Nat} {D : va_G} {ad : Nat → Nat} {cI cB : ClassId} {A : Nat → Prop} {cells slots : Nat} {Q : State → Prop} {cc : ByteArray} {z : Bool} {r : Int32} {σ : Sg} (h : RI p l e R s m args below meth c nL D ad cI cB A cells slots Q cc z (fun q => q = (r, σ))) : RP p l e R s m args below meth c nL D ad cI cB A cells slots Q cc z σ (fun q => q = r) :=
  fun r1 e1 hz pc lv hd => h r1 σ (by rw [e1]) hz pc lv hd
theorem RL.pure {p : Program} {l : Launch} {e : Env} {R : Room} {s : State} {m : MethodId} {args : Array Value} {below : List Frame} {meth : Method} {c : Code} {nL : Nat} {D : va_G} {ad : Nat → Nat} {cI cB : ClassId} {A : Nat → Prop} {cells slots : Nat} {Q : State → Prop} {cc : ByteArray} {r : Int64} {σ : Sg} (h : RL p l e R s m args below meth c nL D ad cI cB A cells slots Q cc (fun q => q = (r, σ))) : RPL p l e R s m args below meth c nL D ad cI cB A cells slots Q cc σ (fun q => q = r) :=
  fun r1 e1 pc lv hd => h r1 σ (by rw [e1]) pc lv hd
end
section
def y_Sh_hasSuit : MethodName := ⟨jR3, "hasSuit", "(I)Z"⟩
theorem mt_Sh_hasSuit : Mt y_Sh_hasSuit prog_10_method_7_code 2 (some .boolean) 1 := ⟨gt_of 542 (by decide +kernel) rfl, gt_of 50 (by decide +kernel) rfl, ⟨by decide +kernel, by decide +kernel⟩, by decide +kernel, by decide⟩
theorem ms_Sh_hasSuit : Cond.instanceMethod y_Sh_hasSuit ∈ gtbl ∧ Cond.selects jR3 y_Sh_hasSuit y_Sh_hasSuit ∈ gtbl := ⟨gt_of 540 (by decide +kernel) rfl, gt_of 541 (by decide +kernel) rfl⟩
def y_Rw_at : MethodName := ⟨jR9, "at", "(I)I"⟩
theorem mt_Rw_at : Mt y_Rw_at prog_9_method_2_code 2 (some .int) 1 := ⟨gt_of 341 (by decide +kernel) rfl, gt_of 48 (by decide +kernel) rfl, ⟨by decide +kernel, by decide +kernel⟩, by decide +kernel, by decide⟩
theorem ms_Rw_at : Cond.instanceMethod y_Rw_at ∈ gtbl ∧ Cond.selects jR9 y_Rw_at y_Rw_at ∈ gtbl := ⟨gt_of 339 (by decide +kernel) rfl, gt_of 340 (by decide +kernel) rfl⟩
def y_Sh_isOfKind : MethodName := ⟨jR3, "isOfKind", "(II)Z"⟩
theorem mt_Sh_isOfKind : Mt y_Sh_isOfKind prog_10_method_23_code 4 (some .boolean) 2 := ⟨gt_of 613 (by decide +kernel) rfl, gt_of 50 (by decide +kernel) rfl, ⟨by decide +kernel, by decide +kernel⟩, by decide +kernel, by decide⟩
theorem ms_Sh_isOfKind : Cond.instanceMethod y_Sh_isOfKind ∈ gtbl ∧ Cond.selects jR3 y_Sh_isOfKind y_Sh_isOfKind ∈ gtbl := ⟨gt_of 611 (by decide +kernel) rfl, gt_of 612 (by decide +kernel) rfl⟩
def y_Co_as : MethodName := ⟨jR0, "as", "(II)I"⟩
theorem mt_Co_as : Mt y_Co_as prog_1_method_8_code 3 (some .int) 2 := ⟨gt_of 609 (by decide +kernel) rfl, gt_of 46 (by decide +kernel) rfl, ⟨by decide +kernel, by decide +kernel⟩, by decide +kernel, by decide⟩
theorem ms_Co_as : Cond.instanceMethod y_Co_as ∈ gtbl ∧ Cond.selects jR0 y_Co_as y_Co_as ∈ gtbl := ⟨gt_of 607 (by decide +kernel) rfl, gt_of 608 (by decide +kernel) rfl⟩
def y_Sh_hasTree : MethodName := ⟨jR3, "hasTree", "(I)Z"⟩
theorem mt_Sh_hasTree : Mt y_Sh_hasTree prog_10_method_6_code 2 (some .boolean) 1 := ⟨gt_of 502 (by decide +kernel) rfl, gt_of 50 (by decide +kernel) rfl, ⟨by decide +kernel, by decide +kernel⟩, by decide +kernel, by decide⟩
theorem ms_Sh_hasTree : Cond.instanceMethod y_Sh_hasTree ∈ gtbl ∧ Cond.selects jR3 y_Sh_hasTree y_Sh_hasTree ∈ gtbl := ⟨gt_of 500 (by decide +kernel) rfl, gt_of 501 (by decide +kernel) rfl⟩
def y_Sh_birdsAt : MethodName := ⟨jR3, "birdsAt", "(I)I"⟩
theorem mt_Sh_birdsAt : Mt y_Sh_birdsAt prog_10_method_15_code 2 (some .int) 1 := ⟨gt_of 510 (by decide +kernel) rfl, gt_of 50 (by decide +kernel) rfl, ⟨by decide +kernel, by decide +kernel⟩, by decide +kernel, by decide⟩
theorem ms_Sh_birdsAt : Cond.instanceMethod y_Sh_birdsAt ∈ gtbl ∧ Cond.selects jR3 y_Sh_birdsAt y_Sh_birdsAt ∈ gtbl := ⟨gt_of 508 (by decide +kernel) rfl, gt_of 509 (by decide +kernel) rfl⟩
def y_Rw_put : MethodName := ⟨jR9, "put", "(II)V"⟩
theorem mt_Rw_put : Mt y_Rw_put prog_9_method_3_code 3 (none) 2 := ⟨gt_of 316 (by decide +kernel) rfl, gt_of 48 (by decide +kernel) rfl, ⟨by decide +kernel, by decide +kernel⟩, by decide +kernel, by decide⟩
theorem ms_Rw_put : Cond.instanceMethod y_Rw_put ∈ gtbl ∧ Cond.selects jR9 y_Rw_put y_Rw_put ∈ gtbl := ⟨gt_of 314 (by decide +kernel) rfl, gt_of 315 (by decide +kernel) rfl⟩
def y_Sh_setBirds : MethodName := ⟨jR3, "setBirds", "(II)V"⟩
theorem mt_Sh_setBirds : Mt y_Sh_setBirds prog_10_method_36_code 3 (none) 2 := ⟨gt_of 655 (by decide +kernel) rfl, gt_of 50 (by decide +kernel) rfl, ⟨by decide +kernel, by decide +kernel⟩, by decide +kernel, by decide⟩
theorem ms_Sh_setBirds : Cond.instanceMethod y_Sh_setBirds ∈ gtbl ∧ Cond.selects jR3 y_Sh_setBirds y_Sh_setBirds ∈ gtbl := ⟨gt_of 653 (by decide +kernel) rfl, gt_of 654 (by decide +kernel) rfl⟩
def y_Co_birds : MethodName := ⟨jR0, "birds", "(II)I"⟩
theorem mt_Co_birds : Mt y_Co_birds prog_1_method_11_code 4 (some .int) 2 := ⟨gt_of 651 (by decide +kernel) rfl, gt_of 46 (by decide +kernel) rfl, ⟨by decide +kernel, by decide +kernel⟩, by decide +kernel, by decide⟩
theorem ms_Co_birds : Cond.instanceMethod y_Co_birds ∈ gtbl ∧ Cond.selects jR0 y_Co_birds y_Co_birds ∈ gtbl := ⟨gt_of 649 (by decide +kernel) rfl, gt_of 650 (by decide +kernel) rfl⟩
def y_Co_bit : MethodName := ⟨jR0, "bit", "(I)I"⟩
theorem mt_Co_bit : Mt y_Co_bit prog_1_method_26_code 1 (some .int) 1 := ⟨gt_of 490 (by decide +kernel) rfl, gt_of 46 (by decide +kernel) rfl, ⟨by decide +kernel, by decide +kernel⟩, by decide +kernel, by decide⟩
theorem ms_Co_bit : Cond.static y_Co_bit ∈ gtbl := gt_of 489 (by decide +kernel) rfl
def y_Pg_size : MethodName := ⟨jR1, "size", "()I"⟩
theorem mt_Pg_size : Mt y_Pg_size prog_6_method_2_code 1 (some .int) 0 := ⟨gt_of 308 (by decide +kernel) rfl, gt_of 47 (by decide +kernel) rfl, ⟨by decide +kernel, by decide +kernel⟩, by decide +kernel, by decide⟩
theorem ms_Pg_size : Cond.instanceMethod y_Pg_size ∈ gtbl ∧ Cond.selects jR1 y_Pg_size y_Pg_size ∈ gtbl := ⟨gt_of 306 (by decide +kernel) rfl, gt_of 307 (by decide +kernel) rfl⟩
def y_Pg_clear : MethodName := ⟨jR1, "clear", "()V"⟩
theorem mt_Pg_clear : Mt y_Pg_clear prog_6_method_6_code 1 (none) 0 := ⟨gt_of 324 (by decide +kernel) rfl, gt_of 47 (by decide +kernel) rfl, ⟨by decide +kernel, by decide +kernel⟩, by decide +kernel, by decide⟩
theorem ms_Pg_clear : Cond.instanceMethod y_Pg_clear ∈ gtbl ∧ Cond.selects jR1 y_Pg_clear y_Pg_clear ∈ gtbl := ⟨gt_of 322 (by decide +kernel) rfl, gt_of 323 (by decide +kernel) rfl⟩
def y_Co_blank : MethodName := ⟨jR0, "blank", "()I"⟩
theorem mt_Co_blank : Mt y_Co_blank prog_1_method_3_code 2 (some .int) 0 := ⟨gt_of 320 (by decide +kernel) rfl, gt_of 46 (by decide +kernel) rfl, ⟨by decide +kernel, by decide +kernel⟩, by decide +kernel, by decide⟩
theorem ms_Co_blank : Cond.instanceMethod y_Co_blank ∈ gtbl ∧ Cond.selects jR0 y_Co_blank y_Co_blank ∈ gtbl := ⟨gt_of 318 (by decide +kernel) rfl, gt_of 319 (by decide +kernel) rfl⟩
def y_Co_isRead : MethodName := ⟨jR0, "isRead", "()Z"⟩
theorem mt_Co_isRead : Mt y_Co_isRead prog_1_method_25_code 1 (some .boolean) 0 := ⟨gt_of 638 (by decide +kernel) rfl, gt_of 46 (by decide +kernel) rfl, ⟨by decide +kernel, by decide +kernel⟩, by decide +kernel, by decide⟩
theorem ms_Co_isRead : Cond.instanceMethod y_Co_isRead ∈ gtbl ∧ Cond.selects jR0 y_Co_isRead y_Co_isRead ∈ gtbl := ⟨gt_of 637 (by decide +kernel) rfl, gt_of 6 (by decide +kernel) rfl⟩
def y_Rw_copyFrom : MethodName := ⟨jR9, "copyFrom", "(LMistletoeCourt$Row;)V"⟩
theorem mt_Rw_copyFrom : Mt y_Rw_copyFrom prog_9_method_4_code 3 (none) 1 := ⟨gt_of 709 (by decide +kernel) rfl, gt_of 48 (by decide +kernel) rfl, ⟨by decide +kernel, by decide +kernel⟩, by decide +kernel, by decide⟩
theorem ms_Rw_copyFrom : Cond.instanceMethod y_Rw_copyFrom ∈ gtbl ∧ Cond.selects jR9 y_Rw_copyFrom y_Rw_copyFrom ∈ gtbl := ⟨gt_of 707 (by decide +kernel) rfl, gt_of 708 (by decide +kernel) rfl⟩
def y_Si_copyFrom : MethodName := ⟨jR4, "copyFrom", "(LMistletoeCourt$Sightings;)V"⟩
theorem mt_Si_copyFrom : Mt y_Si_copyFrom prog_11_method_5_code 2 (none) 1 := ⟨gt_of 816 (by decide +kernel) rfl, gt_of 51 (by decide +kernel) rfl, ⟨by decide +kernel, by decide +kernel⟩, by decide +kernel, by decide⟩
theorem ms_Si_copyFrom : Cond.instanceMethod y_Si_copyFrom ∈ gtbl ∧ Cond.selects jR4 y_Si_copyFrom y_Si_copyFrom ∈ gtbl := ⟨gt_of 814 (by decide +kernel) rfl, gt_of 815 (by decide +kernel) rfl⟩
def y_Sh_copyFrom : MethodName := ⟨jR3, "copyFrom", "(LMistletoeCourt$Shire;)V"⟩
theorem mt_Sh_copyFrom : Mt y_Sh_copyFrom prog_10_method_5_code 2 (none) 1 := ⟨gt_of 811 (by decide +kernel) rfl, gt_of 50 (by decide +kernel) rfl, ⟨by decide +kernel, by decide +kernel⟩, by decide +kernel, by decide⟩
theorem ms_Sh_copyFrom : Cond.instanceMethod y_Sh_copyFrom ∈ gtbl ∧ Cond.selects jR3 y_Sh_copyFrom y_Sh_copyFrom ∈ gtbl := ⟨gt_of 809 (by decide +kernel) rfl, gt_of 810 (by decide +kernel) rfl⟩
def y_Sh_suits : MethodName := ⟨jR3, "suits", "()I"⟩
theorem mt_Sh_suits : Mt y_Sh_suits prog_10_method_9_code 1 (some .int) 0 := ⟨gt_of 494 (by decide +kernel) rfl, gt_of 50 (by decide +kernel) rfl, ⟨by decide +kernel, by decide +kernel⟩, by decide +kernel, by decide⟩
theorem ms_Sh_suits : Cond.instanceMethod y_Sh_suits ∈ gtbl ∧ Cond.selects jR3 y_Sh_suits y_Sh_suits ∈ gtbl := ⟨gt_of 492 (by decide +kernel) rfl, gt_of 493 (by decide +kernel) rfl⟩
def y_Fo_draw : MethodName := ⟨jR8, "draw", "(I)I"⟩
theorem mt_Fo_draw : Mt y_Fo_draw prog_4_method_6_code 2 (some .int) 1 := ⟨gt_of 822 (by decide +kernel) rfl, gt_of 55 (by decide +kernel) rfl, ⟨by decide +kernel, by decide +kernel⟩, by decide +kernel, by decide⟩
theorem ms_Fo_draw : Cond.instanceMethod y_Fo_draw ∈ gtbl ∧ Cond.selects jR8 y_Fo_draw y_Fo_draw ∈ gtbl := ⟨gt_of 821 (by decide +kernel) rfl, gt_of 12 (by decide +kernel) rfl⟩
def y_Sh_trees : MethodName := ⟨jR3, "trees", "()I"⟩
theorem mt_Sh_trees : Mt y_Sh_trees prog_10_method_8_code 1 (some .int) 0 := ⟨gt_of 691 (by decide +kernel) rfl, gt_of 50 (by decide +kernel) rfl, ⟨by decide +kernel, by decide +kernel⟩, by decide +kernel, by decide⟩
theorem ms_Sh_trees : Cond.instanceMethod y_Sh_trees ∈ gtbl ∧ Cond.selects jR3 y_Sh_trees y_Sh_trees ∈ gtbl := ⟨gt_of 689 (by decide +kernel) rfl, gt_of 690 (by decide +kernel) rfl⟩
def y_Co_has : MethodName := ⟨jR0, "has", "(II)Z"⟩
theorem mt_Co_has : Mt y_Co_has prog_1_method_27_code 2 (some .boolean) 2 := ⟨gt_of 525 (by decide +kernel) rfl, gt_of 46 (by decide +kernel) rfl, ⟨by decide +kernel, by decide +kernel⟩, by decide +kernel, by decide⟩
theorem ms_Co_has : Cond.static y_Co_has ∈ gtbl := gt_of 524 (by decide +kernel) rfl
def y_Sh_isOpen : MethodName := ⟨jR3, "isOpen", "(II)Z"⟩
theorem mt_Sh_isOpen : Mt y_Sh_isOpen prog_10_method_29_code 4 (some .boolean) 2 := ⟨gt_of 522 (by decide +kernel) rfl, gt_of 50 (by decide +kernel) rfl, ⟨by decide +kernel, by decide +kernel⟩, by decide +kernel, by decide⟩
theorem ms_Sh_isOpen : Cond.instanceMethod y_Sh_isOpen ∈ gtbl ∧ Cond.selects jR3 y_Sh_isOpen y_Sh_isOpen ∈ gtbl := ⟨gt_of 520 (by decide +kernel) rfl, gt_of 521 (by decide +kernel) rfl⟩
def y_Sh_costAtNeed : MethodName := ⟨jR3, "costAtNeed", "(II)I"⟩
theorem mt_Sh_costAtNeed : Mt y_Sh_costAtNeed prog_10_method_25_code 4 (some .int) 2 := ⟨gt_of 533 (by decide +kernel) rfl, gt_of 50 (by decide +kernel) rfl, ⟨by decide +kernel, by decide +kernel⟩, by decide +kernel, by decide⟩
theorem ms_Sh_costAtNeed : Cond.instanceMethod y_Sh_costAtNeed ∈ gtbl ∧ Cond.selects jR3 y_Sh_costAtNeed y_Sh_costAtNeed ∈ gtbl := ⟨gt_of 531 (by decide +kernel) rfl, gt_of 532 (by decide +kernel) rfl⟩
def y_Sh_cost : MethodName := ⟨jR3, "cost", "(I)I"⟩
theorem mt_Sh_cost : Mt y_Sh_cost prog_10_method_24_code 2 (some .int) 1 := ⟨gt_of 529 (by decide +kernel) rfl, gt_of 50 (by decide +kernel) rfl, ⟨by decide +kernel, by decide +kernel⟩, by decide +kernel, by decide⟩
theorem ms_Sh_cost : Cond.instanceMethod y_Sh_cost ∈ gtbl ∧ Cond.selects jR3 y_Sh_cost y_Sh_cost ∈ gtbl := ⟨gt_of 527 (by decide +kernel) rfl, gt_of 528 (by decide +kernel) rfl⟩
def y_Sh_isPossible : MethodName := ⟨jR3, "isPossible", "(II)Z"⟩
theorem mt_Sh_isPossible : Mt y_Sh_isPossible prog_10_method_30_code 3 (some .boolean) 2 := ⟨gt_of 518 (by decide +kernel) rfl, gt_of 50 (by decide +kernel) rfl, ⟨by decide +kernel, by decide +kernel⟩, by decide +kernel, by decide⟩
theorem ms_Sh_isPossible : Cond.instanceMethod y_Sh_isPossible ∈ gtbl ∧ Cond.selects jR3 y_Sh_isPossible y_Sh_isPossible ∈ gtbl := ⟨gt_of 516 (by decide +kernel) rfl, gt_of 517 (by decide +kernel) rfl⟩
def y_Sh_rightedBehind : MethodName := ⟨jR3, "rightedBehind", "(II)I"⟩
theorem mt_Sh_rightedBehind : Mt y_Sh_rightedBehind prog_10_method_32_code 3 (some .int) 2 := ⟨gt_of 630 (by decide +kernel) rfl, gt_of 50 (by decide +kernel) rfl, ⟨by decide +kernel, by decide +kernel⟩, by decide +kernel, by decide⟩
theorem ms_Sh_rightedBehind : Cond.instanceMethod y_Sh_rightedBehind ∈ gtbl ∧ Cond.selects jR3 y_Sh_rightedBehind y_Sh_rightedBehind ∈ gtbl := ⟨gt_of 628 (by decide +kernel) rfl, gt_of 629 (by decide +kernel) rfl⟩
def y_Sh_pluckAndRight : MethodName := ⟨jR3, "pluckAndRight", "(II)V"⟩
theorem mt_Sh_pluckAndRight : Mt y_Sh_pluckAndRight prog_10_method_33_code 3 (none) 2 := ⟨gt_of 626 (by decide +kernel) rfl, gt_of 50 (by decide +kernel) rfl, ⟨by decide +kernel, by decide +kernel⟩, by decide +kernel, by decide⟩
theorem ms_Sh_pluckAndRight : Cond.instanceMethod y_Sh_pluckAndRight ∈ gtbl ∧ Cond.selects jR3 y_Sh_pluckAndRight y_Sh_pluckAndRight ∈ gtbl := ⟨gt_of 624 (by decide +kernel) rfl, gt_of 625 (by decide +kernel) rfl⟩
def y_Sh_passYear : MethodName := ⟨jR3, "passYear", "()V"⟩
theorem mt_Sh_passYear : Mt y_Sh_passYear prog_10_method_35_code 2 (none) 0 := ⟨gt_of 646 (by decide +kernel) rfl, gt_of 50 (by decide +kernel) rfl, ⟨by decide +kernel, by decide +kernel⟩, by decide +kernel, by decide⟩
theorem ms_Sh_passYear : Cond.instanceMethod y_Sh_passYear ∈ gtbl ∧ Cond.selects jR3 y_Sh_passYear y_Sh_passYear ∈ gtbl := ⟨gt_of 644 (by decide +kernel) rfl, gt_of 645 (by decide +kernel) rfl⟩
def y_Fo_pass : MethodName := ⟨jR8, "pass", "(II)V"⟩
theorem mt_Fo_pass : Mt y_Fo_pass prog_4_method_5_code 6 (none) 2 := ⟨gt_of 807 (by decide +kernel) rfl, gt_of 55 (by decide +kernel) rfl, ⟨by decide +kernel, by decide +kernel⟩, by decide +kernel, by decide⟩
theorem ms_Fo_pass : Cond.instanceMethod y_Fo_pass ∈ gtbl ∧ Cond.selects jR8 y_Fo_pass y_Fo_pass ∈ gtbl := ⟨gt_of 805 (by decide +kernel) rfl, gt_of 806 (by decide +kernel) rfl⟩
def y_Sh_rightings : MethodName := ⟨jR3, "rightings", "()I"⟩
theorem mt_Sh_rightings : Mt y_Sh_rightings prog_10_method_12_code 1 (some .int) 0 := ⟨gt_of 622 (by decide +kernel) rfl, gt_of 50 (by decide +kernel) rfl, ⟨by decide +kernel, by decide +kernel⟩, by decide +kernel, by decide⟩
theorem ms_Sh_rightings : Cond.instanceMethod y_Sh_rightings ∈ gtbl ∧ Cond.selects jR3 y_Sh_rightings y_Sh_rightings ∈ gtbl := ⟨gt_of 620 (by decide +kernel) rfl, gt_of 621 (by decide +kernel) rfl⟩
def y_Fo_rightings : MethodName := ⟨jR8, "rightings", "()I"⟩
theorem mt_Fo_rightings : Mt y_Fo_rightings prog_4_method_2_code 1 (some .int) 0 := ⟨gt_of 834 (by decide +kernel) rfl, gt_of 55 (by decide +kernel) rfl, ⟨by decide +kernel, by decide +kernel⟩, by decide +kernel, by decide⟩
theorem ms_Fo_rightings : Cond.instanceMethod y_Fo_rightings ∈ gtbl ∧ Cond.selects jR8 y_Fo_rightings y_Fo_rightings ∈ gtbl := ⟨gt_of 832 (by decide +kernel) rfl, gt_of 833 (by decide +kernel) rfl⟩
def y_Sh_worthOf : MethodName := ⟨jR3, "worthOf", "(I)I"⟩
theorem mt_Sh_worthOf : Mt y_Sh_worthOf prog_10_method_28_code 4 (some .int) 1 := ⟨gt_of 679 (by decide +kernel) rfl, gt_of 50 (by decide +kernel) rfl, ⟨by decide +kernel, by decide +kernel⟩, by decide +kernel, by decide⟩
theorem ms_Sh_worthOf : Cond.instanceMethod y_Sh_worthOf ∈ gtbl ∧ Cond.selects jR3 y_Sh_worthOf y_Sh_worthOf ∈ gtbl := ⟨gt_of 677 (by decide +kernel) rfl, gt_of 678 (by decide +kernel) rfl⟩
def y_Sh_holds : MethodName := ⟨jR3, "holds", "()I"⟩
theorem mt_Sh_holds : Mt y_Sh_holds prog_10_method_27_code 1 (some .int) 0 := ⟨gt_of 675 (by decide +kernel) rfl, gt_of 50 (by decide +kernel) rfl, ⟨by decide +kernel, by decide +kernel⟩, by decide +kernel, by decide⟩
theorem ms_Sh_holds : Cond.instanceMethod y_Sh_holds ∈ gtbl ∧ Cond.selects jR3 y_Sh_holds y_Sh_holds ∈ gtbl := ⟨gt_of 673 (by decide +kernel) rfl, gt_of 674 (by decide +kernel) rfl⟩
def y_Fo_holds : MethodName := ⟨jR8, "holds", "()I"⟩
theorem mt_Fo_holds : Mt y_Fo_holds prog_4_method_3_code 1 (some .int) 0 := ⟨gt_of 839 (by decide +kernel) rfl, gt_of 55 (by decide +kernel) rfl, ⟨by decide +kernel, by decide +kernel⟩, by decide +kernel, by decide⟩
theorem ms_Fo_holds : Cond.instanceMethod y_Fo_holds ∈ gtbl ∧ Cond.selects jR8 y_Fo_holds y_Fo_holds ∈ gtbl := ⟨gt_of 837 (by decide +kernel) rfl, gt_of 838 (by decide +kernel) rfl⟩
def y_Fo_seed : MethodName := ⟨jR8, "seed", "()I"⟩
theorem mt_Fo_seed : Mt y_Fo_seed prog_4_method_4_code 1 (some .int) 0 := ⟨gt_of 844 (by decide +kernel) rfl, gt_of 55 (by decide +kernel) rfl, ⟨by decide +kernel, by decide +kernel⟩, by decide +kernel, by decide⟩
theorem ms_Fo_seed : Cond.instanceMethod y_Fo_seed ∈ gtbl ∧ Cond.selects jR8 y_Fo_seed y_Fo_seed ∈ gtbl := ⟨gt_of 842 (by decide +kernel) rfl, gt_of 843 (by decide +kernel) rfl⟩
def y_Co_centuries : MethodName := ⟨jR0, "centuries", "(III)I"⟩
theorem mt_Co_centuries : Mt y_Co_centuries prog_1_method_19_code 4 (some .int) 3 := ⟨gt_of 803 (by decide +kernel) rfl, gt_of 46 (by decide +kernel) rfl, ⟨by decide +kernel, by decide +kernel⟩, by decide +kernel, by decide⟩
theorem ms_Co_centuries : Cond.instanceMethod y_Co_centuries ∈ gtbl ∧ Cond.selects jR0 y_Co_centuries y_Co_centuries ∈ gtbl := ⟨gt_of 801 (by decide +kernel) rfl, gt_of 802 (by decide +kernel) rfl⟩
def y_Rw_sum : MethodName := ⟨jR9, "sum", "(I)I"⟩
theorem mt_Rw_sum : Mt y_Rw_sum prog_9_method_5_code 4 (some .int) 1 := ⟨gt_of 866 (by decide +kernel) rfl, gt_of 48 (by decide +kernel) rfl, ⟨by decide +kernel, by decide +kernel⟩, by decide +kernel, by decide⟩
theorem ms_Rw_sum : Cond.instanceMethod y_Rw_sum ∈ gtbl ∧ Cond.selects jR9 y_Rw_sum y_Rw_sum ∈ gtbl := ⟨gt_of 864 (by decide +kernel) rfl, gt_of 865 (by decide +kernel) rfl⟩
def y_Sh_allBerries : MethodName := ⟨jR3, "allBerries", "()I"⟩
theorem mt_Sh_allBerries : Mt y_Sh_allBerries prog_10_method_16_code 1 (some .int) 0 := ⟨gt_of 862 (by decide +kernel) rfl, gt_of 50 (by decide +kernel) rfl, ⟨by decide +kernel, by decide +kernel⟩, by decide +kernel, by decide⟩
theorem ms_Sh_allBerries : Cond.instanceMethod y_Sh_allBerries ∈ gtbl ∧ Cond.selects jR3 y_Sh_allBerries y_Sh_allBerries ∈ gtbl := ⟨gt_of 860 (by decide +kernel) rfl, gt_of 861 (by decide +kernel) rfl⟩
def y_Sh_allBirds : MethodName := ⟨jR3, "allBirds", "()I"⟩
theorem mt_Sh_allBirds : Mt y_Sh_allBirds prog_10_method_17_code 1 (some .int) 0 := ⟨gt_of 870 (by decide +kernel) rfl, gt_of 50 (by decide +kernel) rfl, ⟨by decide +kernel, by decide +kernel⟩, by decide +kernel, by decide⟩
theorem ms_Sh_allBirds : Cond.instanceMethod y_Sh_allBirds ∈ gtbl ∧ Cond.selects jR3 y_Sh_allBirds y_Sh_allBirds ∈ gtbl := ⟨gt_of 868 (by decide +kernel) rfl, gt_of 869 (by decide +kernel) rfl⟩
def y_Sh_righted : MethodName := ⟨jR3, "righted", "()I"⟩
theorem mt_Sh_righted : Mt y_Sh_righted prog_10_method_10_code 1 (some .int) 0 := ⟨gt_of 563 (by decide +kernel) rfl, gt_of 50 (by decide +kernel) rfl, ⟨by decide +kernel, by decide +kernel⟩, by decide +kernel, by decide⟩
theorem ms_Sh_righted : Cond.instanceMethod y_Sh_righted ∈ gtbl ∧ Cond.selects jR3 y_Sh_righted y_Sh_righted ∈ gtbl := ⟨gt_of 561 (by decide +kernel) rfl, gt_of 562 (by decide +kernel) rfl⟩
def y_In_bitCount : MethodName := ⟨"java/lang/Integer", "bitCount", "(I)I"⟩
theorem mt_In_bitCount : Mt y_In_bitCount prog_15_method_49_code 1 (some .int) 1 := ⟨gt_of 575 (by decide +kernel) rfl, gt_of 63 (by decide +kernel) rfl, ⟨by decide +kernel, by decide +kernel⟩, by decide +kernel, by decide⟩
theorem ms_In_bitCount : Cond.static y_In_bitCount ∈ gtbl := gt_of 574 (by decide +kernel) rfl
def y_Sh_years : MethodName := ⟨jR3, "years", "()I"⟩
theorem mt_Sh_years : Mt y_Sh_years prog_10_method_11_code 1 (some .int) 0 := ⟨gt_of 642 (by decide +kernel) rfl, gt_of 50 (by decide +kernel) rfl, ⟨by decide +kernel, by decide +kernel⟩, by decide +kernel, by decide⟩
theorem ms_Sh_years : Cond.instanceMethod y_Sh_years ∈ gtbl ∧ Cond.selects jR3 y_Sh_years y_Sh_years ∈ gtbl := ⟨gt_of 640 (by decide +kernel) rfl, gt_of 641 (by decide +kernel) rfl⟩
def y_Sh_sightings : MethodName := ⟨jR3, "sightings", "()LMistletoeCourt$Sightings;"⟩
theorem mt_Sh_sightings : Mt y_Sh_sightings prog_10_method_13_code 1 (some (.object "MistletoeCourt$Sightings")) 0 := ⟨gt_of 586 (by decide +kernel) rfl, gt_of 50 (by decide +kernel) rfl, ⟨by decide +kernel, by decide +kernel⟩, by decide +kernel, by decide⟩
theorem ms_Sh_sightings : Cond.instanceMethod y_Sh_sightings ∈ gtbl ∧ Cond.selects jR3 y_Sh_sightings y_Sh_sightings ∈ gtbl := ⟨gt_of 584 (by decide +kernel) rfl, gt_of 585 (by decide +kernel) rfl⟩
def y_Si_size : MethodName := ⟨jR4, "size", "()I"⟩
theorem mt_Si_size : Mt y_Si_size prog_11_method_2_code 1 (some .int) 0 := ⟨gt_of 789 (by decide +kernel) rfl, gt_of 51 (by decide +kernel) rfl, ⟨by decide +kernel, by decide +kernel⟩, by decide +kernel, by decide⟩
theorem ms_Si_size : Cond.instanceMethod y_Si_size ∈ gtbl ∧ Cond.selects jR4 y_Si_size y_Si_size ∈ gtbl := ⟨gt_of 787 (by decide +kernel) rfl, gt_of 788 (by decide +kernel) rfl⟩
def y_Co_count : MethodName := ⟨jR0, "count", "(I)I"⟩
theorem mt_Co_count : Mt y_Co_count prog_1_method_22_code 2 (some .int) 1 := ⟨gt_of 857 (by decide +kernel) rfl, gt_of 46 (by decide +kernel) rfl, ⟨by decide +kernel, by decide +kernel⟩, by decide +kernel, by decide⟩
theorem ms_Co_count : Cond.instanceMethod y_Co_count ∈ gtbl ∧ Cond.selects jR0 y_Co_count y_Co_count ∈ gtbl := ⟨gt_of 855 (by decide +kernel) rfl, gt_of 856 (by decide +kernel) rfl⟩
def y_Sh_berries : MethodName := ⟨jR3, "berries", "(I)I"⟩
theorem mt_Sh_berries : Mt y_Sh_berries prog_10_method_14_code 2 (some .int) 1 := ⟨gt_of 506 (by decide +kernel) rfl, gt_of 50 (by decide +kernel) rfl, ⟨by decide +kernel, by decide +kernel⟩, by decide +kernel, by decide⟩
theorem ms_Sh_berries : Cond.instanceMethod y_Sh_berries ∈ gtbl ∧ Cond.selects jR3 y_Sh_berries y_Sh_berries ∈ gtbl := ⟨gt_of 504 (by decide +kernel) rfl, gt_of 505 (by decide +kernel) rfl⟩
def y_Sh_possibleAt : MethodName := ⟨jR3, "possibleAt", "(I)I"⟩
theorem mt_Sh_possibleAt : Mt y_Sh_possibleAt prog_10_method_31_code 4 (some .int) 1 := ⟨gt_of 514 (by decide +kernel) rfl, gt_of 50 (by decide +kernel) rfl, ⟨by decide +kernel, by decide +kernel⟩, by decide +kernel, by decide⟩
theorem ms_Sh_possibleAt : Cond.instanceMethod y_Sh_possibleAt ∈ gtbl ∧ Cond.selects jR3 y_Sh_possibleAt y_Sh_possibleAt ∈ gtbl := ⟨gt_of 512 (by decide +kernel) rfl, gt_of 513 (by decide +kernel) rfl⟩
def y_Co_tree : MethodName := ⟨jR0, "tree", "(II)I"⟩
theorem mt_Co_tree : Mt y_Co_tree prog_1_method_6_code 3 (some .int) 2 := ⟨gt_of 498 (by decide +kernel) rfl, gt_of 46 (by decide +kernel) rfl, ⟨by decide +kernel, by decide +kernel⟩, by decide +kernel, by decide⟩
theorem ms_Co_tree : Cond.instanceMethod y_Co_tree ∈ gtbl ∧ Cond.selects jR0 y_Co_tree y_Co_tree ∈ gtbl := ⟨gt_of 496 (by decide +kernel) rfl, gt_of 497 (by decide +kernel) rfl⟩
def y_Co_mixed : MethodName := ⟨jR0, "mixed", "(JJ)J"⟩
theorem mt_Co_mixed : Mt y_Co_mixed prog_1_method_24_code 4 (some .long) 2 := ⟨gt_of 880 (by decide +kernel) rfl, gt_of 46 (by decide +kernel) rfl, ⟨by decide +kernel, by decide +kernel⟩, by decide +kernel, by decide⟩
theorem ms_Co_mixed : Cond.static y_Co_mixed ∈ gtbl := gt_of 879 (by decide +kernel) rfl
def y_Cn_costOf : MethodName := ⟨jR7, "costOf", "(I)I"⟩
theorem mt_Cn_costOf : Mt y_Cn_costOf prog_3_method_6_code 4 (some .int) 1 := ⟨gt_of 752 (by decide +kernel) rfl, gt_of 54 (by decide +kernel) rfl, ⟨by decide +kernel, by decide +kernel⟩, by decide +kernel, by decide⟩
theorem ms_Cn_costOf : Cond.instanceMethod y_Cn_costOf ∈ gtbl ∧ Cond.selects jR7 y_Cn_costOf y_Cn_costOf ∈ gtbl := ⟨gt_of 751 (by decide +kernel) rfl, gt_of 11 (by decide +kernel) rfl⟩
def y_Sh_worth : MethodName := ⟨jR3, "worth", "(I)I"⟩
theorem mt_Sh_worth : Mt y_Sh_worth prog_10_method_20_code 2 (some .int) 1 := ⟨gt_of 554 (by decide +kernel) rfl, gt_of 50 (by decide +kernel) rfl, ⟨by decide +kernel, by decide +kernel⟩, by decide +kernel, by decide⟩
theorem ms_Sh_worth : Cond.instanceMethod y_Sh_worth ∈ gtbl ∧ Cond.selects jR3 y_Sh_worth y_Sh_worth ∈ gtbl := ⟨gt_of 552 (by decide +kernel) rfl, gt_of 553 (by decide +kernel) rfl⟩
def y_Cn_bestLead : MethodName := ⟨jR7, "bestLead", "(I)I"⟩
theorem mt_Cn_bestLead : Mt y_Cn_bestLead prog_3_method_5_code 6 (some .int) 1 := ⟨gt_of 748 (by decide +kernel) rfl, gt_of 54 (by decide +kernel) rfl, ⟨by decide +kernel, by decide +kernel⟩, by decide +kernel, by decide⟩
theorem ms_Cn_bestLead : Cond.instanceMethod y_Cn_bestLead ∈ gtbl ∧ Cond.selects jR7 y_Cn_bestLead y_Cn_bestLead ∈ gtbl := ⟨gt_of 747 (by decide +kernel) rfl, gt_of 10 (by decide +kernel) rfl⟩
def y_Cn_play : MethodName := ⟨jR7, "play", "(I)V"⟩
theorem mt_Cn_play : Mt y_Cn_play prog_3_method_4_code 3 (none) 1 := ⟨gt_of 739 (by decide +kernel) rfl, gt_of 54 (by decide +kernel) rfl, ⟨by decide +kernel, by decide +kernel⟩, by decide +kernel, by decide⟩
theorem ms_Cn_play : Cond.instanceMethod y_Cn_play ∈ gtbl ∧ Cond.selects jR7 y_Cn_play y_Cn_play ∈ gtbl := ⟨gt_of 737 (by decide +kernel) rfl, gt_of 738 (by decide +kernel) rfl⟩
def y_Cn_lead : MethodName := ⟨jR7, "lead", "()I"⟩
theorem mt_Cn_lead : Mt y_Cn_lead prog_3_method_2_code 1 (some .int) 0 := ⟨gt_of 761 (by decide +kernel) rfl, gt_of 54 (by decide +kernel) rfl, ⟨by decide +kernel, by decide +kernel⟩, by decide +kernel, by decide⟩
theorem ms_Cn_lead : Cond.instanceMethod y_Cn_lead ∈ gtbl ∧ Cond.selects jR7 y_Cn_lead y_Cn_lead ∈ gtbl := ⟨gt_of 759 (by decide +kernel) rfl, gt_of 760 (by decide +kernel) rfl⟩
def y_Cn_opening : MethodName := ⟨jR7, "opening", "()I"⟩
theorem mt_Cn_opening : Mt y_Cn_opening prog_3_method_3_code 1 (some .int) 0 := ⟨gt_of 765 (by decide +kernel) rfl, gt_of 54 (by decide +kernel) rfl, ⟨by decide +kernel, by decide +kernel⟩, by decide +kernel, by decide⟩
theorem ms_Cn_opening : Cond.instanceMethod y_Cn_opening ∈ gtbl ∧ Cond.selects jR7 y_Cn_opening y_Cn_opening ∈ gtbl := ⟨gt_of 763 (by decide +kernel) rfl, gt_of 764 (by decide +kernel) rfl⟩
def y_Co_game : MethodName := ⟨jR0, "game", "(II)I"⟩
theorem mt_Co_game : Mt y_Co_game prog_1_method_15_code 3 (some .int) 2 := ⟨gt_of 735 (by decide +kernel) rfl, gt_of 46 (by decide +kernel) rfl, ⟨by decide +kernel, by decide +kernel⟩, by decide +kernel, by decide⟩
theorem ms_Co_game : Cond.instanceMethod y_Co_game ∈ gtbl ∧ Cond.selects jR0 y_Co_game y_Co_game ∈ gtbl := ⟨gt_of 733 (by decide +kernel) rfl, gt_of 734 (by decide +kernel) rfl⟩
def y_Sh_kind : MethodName := ⟨jR3, "kind", "(I)I"⟩
theorem mt_Sh_kind : Mt y_Sh_kind prog_10_method_18_code 2 (some .int) 1 := ⟨gt_of 546 (by decide +kernel) rfl, gt_of 50 (by decide +kernel) rfl, ⟨by decide +kernel, by decide +kernel⟩, by decide +kernel, by decide⟩
theorem ms_Sh_kind : Cond.instanceMethod y_Sh_kind ∈ gtbl ∧ Cond.selects jR3 y_Sh_kind y_Sh_kind ∈ gtbl := ⟨gt_of 544 (by decide +kernel) rfl, gt_of 545 (by decide +kernel) rfl⟩
def y_Sh_need : MethodName := ⟨jR3, "need", "(I)I"⟩
theorem mt_Sh_need : Mt y_Sh_need prog_10_method_19_code 2 (some .int) 1 := ⟨gt_of 550 (by decide +kernel) rfl, gt_of 50 (by decide +kernel) rfl, ⟨by decide +kernel, by decide +kernel⟩, by decide +kernel, by decide⟩
theorem ms_Sh_need : Cond.instanceMethod y_Sh_need ∈ gtbl ∧ Cond.selects jR3 y_Sh_need y_Sh_need ∈ gtbl := ⟨gt_of 548 (by decide +kernel) rfl, gt_of 549 (by decide +kernel) rfl⟩
def y_Sh_hangsOn : MethodName := ⟨jR3, "hangsOn", "(I)I"⟩
theorem mt_Sh_hangsOn : Mt y_Sh_hangsOn prog_10_method_21_code 2 (some .int) 1 := ⟨gt_of 558 (by decide +kernel) rfl, gt_of 50 (by decide +kernel) rfl, ⟨by decide +kernel, by decide +kernel⟩, by decide +kernel, by decide⟩
theorem ms_Sh_hangsOn : Cond.instanceMethod y_Sh_hangsOn ∈ gtbl ∧ Cond.selects jR3 y_Sh_hangsOn y_Sh_hangsOn ∈ gtbl := ⟨gt_of 556 (by decide +kernel) rfl, gt_of 557 (by decide +kernel) rfl⟩
def y_Sh_below : MethodName := ⟨jR3, "below", "(I)I"⟩
theorem mt_Sh_below : Mt y_Sh_below prog_10_method_22_code 2 (some .int) 1 := ⟨gt_of 568 (by decide +kernel) rfl, gt_of 50 (by decide +kernel) rfl, ⟨by decide +kernel, by decide +kernel⟩, by decide +kernel, by decide⟩
theorem ms_Sh_below : Cond.instanceMethod y_Sh_below ∈ gtbl ∧ Cond.selects jR3 y_Sh_below y_Sh_below ∈ gtbl := ⟨gt_of 566 (by decide +kernel) rfl, gt_of 567 (by decide +kernel) rfl⟩
def y_Sh_shakes : MethodName := ⟨jR3, "shakes", "(I)I"⟩
theorem mt_Sh_shakes : Mt y_Sh_shakes prog_10_method_26_code 2 (some .int) 1 := ⟨gt_of 572 (by decide +kernel) rfl, gt_of 50 (by decide +kernel) rfl, ⟨by decide +kernel, by decide +kernel⟩, by decide +kernel, by decide⟩
theorem ms_Sh_shakes : Cond.instanceMethod y_Sh_shakes ∈ gtbl ∧ Cond.selects jR3 y_Sh_shakes y_Sh_shakes ∈ gtbl := ⟨gt_of 570 (by decide +kernel) rfl, gt_of 571 (by decide +kernel) rfl⟩
def y_Si_allow : MethodName := ⟨jR4, "allow", "(II)Z"⟩
theorem mt_Si_allow : Mt y_Si_allow prog_11_method_6_code 5 (some .boolean) 2 := ⟨gt_of 591 (by decide +kernel) rfl, gt_of 51 (by decide +kernel) rfl, ⟨by decide +kernel, by decide +kernel⟩, by decide +kernel, by decide⟩
theorem ms_Si_allow : Cond.instanceMethod y_Si_allow ∈ gtbl ∧ Cond.selects jR4 y_Si_allow y_Si_allow ∈ gtbl := ⟨gt_of 589 (by decide +kernel) rfl, gt_of 590 (by decide +kernel) rfl⟩
def y_Gu_possibleNeeds : MethodName := ⟨jR5, "possibleNeeds", "(I)I"⟩
theorem mt_Gu_possibleNeeds : Mt y_Gu_possibleNeeds prog_5_method_2_code 4 (some .int) 1 := ⟨gt_of 582 (by decide +kernel) rfl, gt_of 52 (by decide +kernel) rfl, ⟨by decide +kernel, by decide +kernel⟩, by decide +kernel, by decide⟩
theorem ms_Gu_possibleNeeds : Cond.instanceMethod y_Gu_possibleNeeds ∈ gtbl ∧ Cond.selects jR5 y_Gu_possibleNeeds y_Gu_possibleNeeds ∈ gtbl := ⟨gt_of 580 (by decide +kernel) rfl, gt_of 581 (by decide +kernel) rfl⟩
def y_Gu_leftAtWorst : MethodName := ⟨jR5, "leftAtWorst", "(III)I"⟩
theorem mt_Gu_leftAtWorst : Mt y_Gu_leftAtWorst prog_5_method_4_code 7 (some .int) 3 := ⟨gt_of 602 (by decide +kernel) rfl, gt_of 52 (by decide +kernel) rfl, ⟨by decide +kernel, by decide +kernel⟩, by decide +kernel, by decide⟩
theorem ms_Gu_leftAtWorst : Cond.instanceMethod y_Gu_leftAtWorst ∈ gtbl ∧ Cond.selects jR5 y_Gu_leftAtWorst y_Gu_leftAtWorst ∈ gtbl := ⟨gt_of 601 (by decide +kernel) rfl, gt_of 5 (by decide +kernel) rfl⟩
def y_Gu_bestTry : MethodName := ⟨jR5, "bestTry", "(I)I"⟩
theorem mt_Gu_bestTry : Mt y_Gu_bestTry prog_5_method_3_code 7 (some .int) 1 := ⟨gt_of 597 (by decide +kernel) rfl, gt_of 52 (by decide +kernel) rfl, ⟨by decide +kernel, by decide +kernel⟩, by decide +kernel, by decide⟩
theorem ms_Gu_bestTry : Cond.instanceMethod y_Gu_bestTry ∈ gtbl ∧ Cond.selects jR5 y_Gu_bestTry y_Gu_bestTry ∈ gtbl := ⟨gt_of 595 (by decide +kernel) rfl, gt_of 596 (by decide +kernel) rfl⟩
def y_Co_suit : MethodName := ⟨jR0, "suit", "(II)I"⟩
theorem mt_Co_suit : Mt y_Co_suit prog_1_method_7_code 3 (some .int) 2 := ⟨gt_of 538 (by decide +kernel) rfl, gt_of 46 (by decide +kernel) rfl, ⟨by decide +kernel, by decide +kernel⟩, by decide +kernel, by decide⟩
theorem ms_Co_suit : Cond.instanceMethod y_Co_suit ∈ gtbl ∧ Cond.selects jR0 y_Co_suit y_Co_suit ∈ gtbl := ⟨gt_of 536 (by decide +kernel) rfl, gt_of 537 (by decide +kernel) rfl⟩
def y_Ch_goodWays : MethodName := ⟨"MistletoeCourt$Chances", "goodWays", "(IIII)I"⟩
theorem mt_Ch_goodWays : Mt y_Ch_goodWays prog_2_method_2_code 6 (some .int) 4 := ⟨gt_of 772 (by decide +kernel) rfl, gt_of 64 (by decide +kernel) rfl, ⟨by decide +kernel, by decide +kernel⟩, by decide +kernel, by decide⟩
theorem ms_Ch_goodWays : Cond.static y_Ch_goodWays ∈ gtbl := gt_of 771 (by decide +kernel) rfl
def y_Ch_allWays : MethodName := ⟨"MistletoeCourt$Chances", "allWays", "(II)I"⟩
theorem mt_Ch_allWays : Mt y_Ch_allWays prog_2_method_3_code 4 (some .int) 2 := ⟨gt_of 777 (by decide +kernel) rfl, gt_of 64 (by decide +kernel) rfl, ⟨by decide +kernel, by decide +kernel⟩, by decide +kernel, by decide⟩
theorem ms_Ch_allWays : Cond.static y_Ch_allWays ∈ gtbl := gt_of 776 (by decide +kernel) rfl
def y_Ch_inLowestTerms : MethodName := ⟨"MistletoeCourt$Chances", "inLowestTerms", "(III)I"⟩
theorem mt_Ch_inLowestTerms : Mt y_Ch_inLowestTerms prog_2_method_4_code 4 (some .int) 3 := ⟨gt_of 780 (by decide +kernel) rfl, gt_of 64 (by decide +kernel) rfl, ⟨by decide +kernel, by decide +kernel⟩, by decide +kernel, by decide⟩
theorem ms_Ch_inLowestTerms : Cond.static y_Ch_inLowestTerms ∈ gtbl := gt_of 779 (by decide +kernel) rfl
def y_Co_odds : MethodName := ⟨jR0, "odds", "(IIII)I"⟩
theorem mt_Co_odds : Mt y_Co_odds prog_1_method_16_code 8 (some .int) 4 := ⟨gt_of 769 (by decide +kernel) rfl, gt_of 46 (by decide +kernel) rfl, ⟨by decide +kernel, by decide +kernel⟩, by decide +kernel, by decide⟩
theorem ms_Co_odds : Cond.instanceMethod y_Co_odds ∈ gtbl ∧ Cond.selects jR0 y_Co_odds y_Co_odds ∈ gtbl := ⟨gt_of 767 (by decide +kernel) rfl, gt_of 768 (by decide +kernel) rfl⟩
def y_Pg_code : MethodName := ⟨jR1, "code", "(I)I"⟩
theorem mt_Pg_code : Mt y_Pg_code prog_6_method_3_code 2 (some .int) 1 := ⟨gt_of 337 (by decide +kernel) rfl, gt_of 47 (by decide +kernel) rfl, ⟨by decide +kernel, by decide +kernel⟩, by decide +kernel, by decide⟩
theorem ms_Pg_code : Cond.instanceMethod y_Pg_code ∈ gtbl ∧ Cond.selects jR1 y_Pg_code y_Pg_code ∈ gtbl := ⟨gt_of 335 (by decide +kernel) rfl, gt_of 336 (by decide +kernel) rfl⟩
def y_Co_digest : MethodName := ⟨jR0, "digest", "()J"⟩
theorem mt_Co_digest : Mt y_Co_digest prog_1_method_23_code 5 (some .long) 0 := ⟨gt_of 875 (by decide +kernel) rfl, gt_of 46 (by decide +kernel) rfl, ⟨by decide +kernel, by decide +kernel⟩, by decide +kernel, by decide⟩
theorem ms_Co_digest : Cond.instanceMethod y_Co_digest ∈ gtbl ∧ Cond.selects jR0 y_Co_digest y_Co_digest ∈ gtbl := ⟨gt_of 873 (by decide +kernel) rfl, gt_of 874 (by decide +kernel) rfl⟩
def y_Rd_isDigit : MethodName := ⟨jR2, "isDigit", "(III)Z"⟩
theorem mt_Rd_isDigit : Mt y_Rd_isDigit prog_8_method_10_code 3 (some .boolean) 3 := ⟨gt_of 352 (by decide +kernel) rfl, gt_of 49 (by decide +kernel) rfl, ⟨by decide +kernel, by decide +kernel⟩, by decide +kernel, by decide⟩
theorem ms_Rd_isDigit : Cond.static y_Rd_isDigit ∈ gtbl := gt_of 351 (by decide +kernel) rfl
def y_Rd_goesOn : MethodName := ⟨jR2, "goesOn", "(ZI)Z"⟩
theorem mt_Rd_goesOn : Mt y_Rd_goesOn prog_8_method_9_code 3 (some .boolean) 2 := ⟨gt_of 356 (by decide +kernel) rfl, gt_of 49 (by decide +kernel) rfl, ⟨by decide +kernel, by decide +kernel⟩, by decide +kernel, by decide⟩
theorem ms_Rd_goesOn : Cond.instanceMethod y_Rd_goesOn ∈ gtbl ∧ Cond.selects jR2 y_Rd_goesOn y_Rd_goesOn ∈ gtbl := ⟨gt_of 355 (by decide +kernel) rfl, gt_of 2 (by decide +kernel) rfl⟩
def y_Rd_takesDigitOfTree : MethodName := ⟨jR2, "takesDigitOfTree", "(I)Z"⟩
theorem mt_Rd_takesDigitOfTree : Mt y_Rd_takesDigitOfTree prog_8_method_6_code 3 (some .boolean) 1 := ⟨gt_of 349 (by decide +kernel) rfl, gt_of 49 (by decide +kernel) rfl, ⟨by decide +kernel, by decide +kernel⟩, by decide +kernel, by decide⟩
theorem ms_Rd_takesDigitOfTree : Cond.instanceMethod y_Rd_takesDigitOfTree ∈ gtbl ∧ Cond.selects jR2 y_Rd_takesDigitOfTree y_Rd_takesDigitOfTree ∈ gtbl := ⟨gt_of 348 (by decide +kernel) rfl, gt_of 1 (by decide +kernel) rfl⟩
def y_Rd_takesTreeEnd : MethodName := ⟨jR2, "takesTreeEnd", "(I)Z"⟩
theorem mt_Rd_takesTreeEnd : Mt y_Rd_takesTreeEnd prog_8_method_7_code 2 (some .boolean) 1 := ⟨gt_of 360 (by decide +kernel) rfl, gt_of 49 (by decide +kernel) rfl, ⟨by decide +kernel, by decide +kernel⟩, by decide +kernel, by decide⟩
theorem ms_Rd_takesTreeEnd : Cond.instanceMethod y_Rd_takesTreeEnd ∈ gtbl ∧ Cond.selects jR2 y_Rd_takesTreeEnd y_Rd_takesTreeEnd ∈ gtbl := ⟨gt_of 359 (by decide +kernel) rfl, gt_of 3 (by decide +kernel) rfl⟩
def y_Rd_takesHang : MethodName := ⟨jR2, "takesHang", "(I)Z"⟩
theorem mt_Rd_takesHang : Mt y_Rd_takesHang prog_8_method_8_code 3 (some .boolean) 1 := ⟨gt_of 451 (by decide +kernel) rfl, gt_of 49 (by decide +kernel) rfl, ⟨by decide +kernel, by decide +kernel⟩, by decide +kernel, by decide⟩
theorem ms_Rd_takesHang : Cond.instanceMethod y_Rd_takesHang ∈ gtbl ∧ Cond.selects jR2 y_Rd_takesHang y_Rd_takesHang ∈ gtbl := ⟨gt_of 450 (by decide +kernel) rfl, gt_of 4 (by decide +kernel) rfl⟩
def y_Rd_takes : MethodName := ⟨jR2, "takes", "(I)Z"⟩
theorem mt_Rd_takes : Mt y_Rd_takes prog_8_method_5_code 2 (some .boolean) 1 := ⟨gt_of 345 (by decide +kernel) rfl, gt_of 49 (by decide +kernel) rfl, ⟨by decide +kernel, by decide +kernel⟩, by decide +kernel, by decide⟩
theorem ms_Rd_takes : Cond.instanceMethod y_Rd_takes ∈ gtbl ∧ Cond.selects jR2 y_Rd_takes y_Rd_takes ∈ gtbl := ⟨gt_of 344 (by decide +kernel) rfl, gt_of 0 (by decide +kernel) rfl⟩
def y_Rd_firstFault : MethodName := ⟨jR2, "firstFault", "()I"⟩
theorem mt_Rd_firstFault : Mt y_Rd_firstFault prog_8_method_2_code 2 (some .int) 0 := ⟨gt_of 332 (by decide +kernel) rfl, gt_of 49 (by decide +kernel) rfl, ⟨by decide +kernel, by decide +kernel⟩, by decide +kernel, by decide⟩
theorem ms_Rd_firstFault : Cond.instanceMethod y_Rd_firstFault ∈ gtbl ∧ Cond.selects jR2 y_Rd_firstFault y_Rd_firstFault ∈ gtbl := ⟨gt_of 330 (by decide +kernel) rfl, gt_of 331 (by decide +kernel) rfl⟩
def y_Co_fault : MethodName := ⟨jR0, "fault", "()I"⟩
theorem mt_Co_fault : Mt y_Co_fault prog_1_method_4_code 1 (some .int) 0 := ⟨gt_of 328 (by decide +kernel) rfl, gt_of 46 (by decide +kernel) rfl, ⟨by decide +kernel, by decide +kernel⟩, by decide +kernel, by decide⟩
theorem ms_Co_fault : Cond.instanceMethod y_Co_fault ∈ gtbl ∧ Cond.selects jR0 y_Co_fault y_Co_fault ∈ gtbl := ⟨gt_of 326 (by decide +kernel) rfl, gt_of 327 (by decide +kernel) rfl⟩
def y_Si_clear : MethodName := ⟨jR4, "clear", "()V"⟩
theorem mt_Si_clear : Mt y_Si_clear prog_11_method_4_code 1 (none) 0 := ⟨gt_of 473 (by decide +kernel) rfl, gt_of 51 (by decide +kernel) rfl, ⟨by decide +kernel, by decide +kernel⟩, by decide +kernel, by decide⟩
theorem ms_Si_clear : Cond.instanceMethod y_Si_clear ∈ gtbl ∧ Cond.selects jR4 y_Si_clear y_Si_clear ∈ gtbl := ⟨gt_of 471 (by decide +kernel) rfl, gt_of 472 (by decide +kernel) rfl⟩
def y_Co_forget : MethodName := ⟨jR0, "forget", "()I"⟩
theorem mt_Co_forget : Mt y_Co_forget prog_1_method_18_code 2 (some .int) 0 := ⟨gt_of 798 (by decide +kernel) rfl, gt_of 46 (by decide +kernel) rfl, ⟨by decide +kernel, by decide +kernel⟩, by decide +kernel, by decide⟩
theorem ms_Co_forget : Cond.instanceMethod y_Co_forget ∈ gtbl ∧ Cond.selects jR0 y_Co_forget y_Co_forget ∈ gtbl := ⟨gt_of 796 (by decide +kernel) rfl, gt_of 797 (by decide +kernel) rfl⟩
def y_Co_image : MethodName := ⟨jR0, "image", "()I"⟩
theorem mt_Co_image : Mt y_Co_image prog_1_method_20_code 1 (some .int) 0 := ⟨gt_of 848 (by decide +kernel) rfl, gt_of 46 (by decide +kernel) rfl, ⟨by decide +kernel, by decide +kernel⟩, by decide +kernel, by decide⟩
theorem ms_Co_image : Cond.instanceMethod y_Co_image ∈ gtbl ∧ Cond.selects jR0 y_Co_image y_Co_image ∈ gtbl := ⟨gt_of 846 (by decide +kernel) rfl, gt_of 847 (by decide +kernel) rfl⟩
def y_Pg_add : MethodName := ⟨jR1, "add", "(I)V"⟩
theorem mt_Pg_add : Mt y_Pg_add prog_6_method_5_code 2 (none) 1 := ⟨gt_of 312 (by decide +kernel) rfl, gt_of 47 (by decide +kernel) rfl, ⟨by decide +kernel, by decide +kernel⟩, by decide +kernel, by decide⟩
theorem ms_Pg_add : Cond.instanceMethod y_Pg_add ∈ gtbl ∧ Cond.selects jR1 y_Pg_add y_Pg_add ∈ gtbl := ⟨gt_of 310 (by decide +kernel) rfl, gt_of 311 (by decide +kernel) rfl⟩
def y_Co_letter : MethodName := ⟨jR0, "letter", "(I)I"⟩
theorem mt_Co_letter : Mt y_Co_letter prog_1_method_2_code 2 (some .int) 1 := ⟨gt_of 304 (by decide +kernel) rfl, gt_of 46 (by decide +kernel) rfl, ⟨by decide +kernel, by decide +kernel⟩, by decide +kernel, by decide⟩
theorem ms_Co_letter : Cond.instanceMethod y_Co_letter ∈ gtbl ∧ Cond.selects jR0 y_Co_letter y_Co_letter ∈ gtbl := ⟨gt_of 302 (by decide +kernel) rfl, gt_of 303 (by decide +kernel) rfl⟩
def y_Pl_canBeBetter : MethodName := ⟨jR6, "canBeBetter", "(III)Z"⟩
theorem mt_Pl_canBeBetter : Mt y_Pl_canBeBetter prog_7_method_8_code 5 (some .boolean) 3 := ⟨gt_of 702 (by decide +kernel) rfl, gt_of 53 (by decide +kernel) rfl, ⟨by decide +kernel, by decide +kernel⟩, by decide +kernel, by decide⟩
theorem ms_Pl_canBeBetter : Cond.instanceMethod y_Pl_canBeBetter ∈ gtbl ∧ Cond.selects jR6 y_Pl_canBeBetter y_Pl_canBeBetter ∈ gtbl := ⟨gt_of 701 (by decide +kernel) rfl, gt_of 8 (by decide +kernel) rfl⟩
def y_Pl_placeAtEachTree : MethodName := ⟨jR6, "placeAtEachTree", "(III)V"⟩
theorem mt_Pl_placeAtEachTree : Mt y_Pl_placeAtEachTree prog_7_method_7_code 7 (none) 3 := ⟨gt_of 717 (by decide +kernel) rfl, gt_of 53 (by decide +kernel) rfl, ⟨by decide +kernel, by decide +kernel⟩, by decide +kernel, by decide⟩
theorem ms_Pl_placeAtEachTree : Cond.instanceMethod y_Pl_placeAtEachTree ∈ gtbl ∧ Cond.selects jR6 y_Pl_placeAtEachTree y_Pl_placeAtEachTree ∈ gtbl := ⟨gt_of 716 (by decide +kernel) rfl, gt_of 9 (by decide +kernel) rfl⟩
def y_Pl_placeFrom : MethodName := ⟨jR6, "placeFrom", "(III)V"⟩
theorem mt_Pl_placeFrom : Mt y_Pl_placeFrom prog_7_method_6_code 4 (none) 3 := ⟨gt_of 698 (by decide +kernel) rfl, gt_of 53 (by decide +kernel) rfl, ⟨by decide +kernel, by decide +kernel⟩, by decide +kernel, by decide⟩
theorem ms_Pl_placeFrom : Cond.instanceMethod y_Pl_placeFrom ∈ gtbl ∧ Cond.selects jR6 y_Pl_placeFrom y_Pl_placeFrom ∈ gtbl := ⟨gt_of 697 (by decide +kernel) rfl, gt_of 7 (by decide +kernel) rfl⟩
def y_Pl_seek : MethodName := ⟨jR6, "seek", "()V"⟩
theorem mt_Pl_seek : Mt y_Pl_seek prog_7_method_5_code 2 (none) 0 := ⟨gt_of 687 (by decide +kernel) rfl, gt_of 53 (by decide +kernel) rfl, ⟨by decide +kernel, by decide +kernel⟩, by decide +kernel, by decide⟩
theorem ms_Pl_seek : Cond.instanceMethod y_Pl_seek ∈ gtbl ∧ Cond.selects jR6 y_Pl_seek y_Pl_seek ∈ gtbl := ⟨gt_of 685 (by decide +kernel) rfl, gt_of 686 (by decide +kernel) rfl⟩
def y_Pl_placeOf : MethodName := ⟨jR6, "placeOf", "(I)I"⟩
theorem mt_Pl_placeOf : Mt y_Pl_placeOf prog_7_method_4_code 2 (some .int) 1 := ⟨gt_of 722 (by decide +kernel) rfl, gt_of 53 (by decide +kernel) rfl, ⟨by decide +kernel, by decide +kernel⟩, by decide +kernel, by decide⟩
theorem ms_Pl_placeOf : Cond.instanceMethod y_Pl_placeOf ∈ gtbl ∧ Cond.selects jR6 y_Pl_placeOf y_Pl_placeOf ∈ gtbl := ⟨gt_of 720 (by decide +kernel) rfl, gt_of 721 (by decide +kernel) rfl⟩
def y_Pl_holds : MethodName := ⟨jR6, "holds", "()I"⟩
theorem mt_Pl_holds : Mt y_Pl_holds prog_7_method_2_code 1 (some .int) 0 := ⟨gt_of 727 (by decide +kernel) rfl, gt_of 53 (by decide +kernel) rfl, ⟨by decide +kernel, by decide +kernel⟩, by decide +kernel, by decide⟩
theorem ms_Pl_holds : Cond.instanceMethod y_Pl_holds ∈ gtbl ∧ Cond.selects jR6 y_Pl_holds y_Pl_holds ∈ gtbl := ⟨gt_of 725 (by decide +kernel) rfl, gt_of 726 (by decide +kernel) rfl⟩
def y_Pl_spent : MethodName := ⟨jR6, "spent", "()I"⟩
theorem mt_Pl_spent : Mt y_Pl_spent prog_7_method_3_code 1 (some .int) 0 := ⟨gt_of 731 (by decide +kernel) rfl, gt_of 53 (by decide +kernel) rfl, ⟨by decide +kernel, by decide +kernel⟩, by decide +kernel, by decide⟩
theorem ms_Pl_spent : Cond.instanceMethod y_Pl_spent ∈ gtbl ∧ Cond.selects jR6 y_Pl_spent y_Pl_spent ∈ gtbl := ⟨gt_of 729 (by decide +kernel) rfl, gt_of 730 (by decide +kernel) rfl⟩
def y_Co_plan : MethodName := ⟨jR0, "plan", "(I)I"⟩
theorem mt_Co_plan : Mt y_Co_plan prog_1_method_14_code 3 (some .int) 1 := ⟨gt_of 683 (by decide +kernel) rfl, gt_of 46 (by decide +kernel) rfl, ⟨by decide +kernel, by decide +kernel⟩, by decide +kernel, by decide⟩
theorem ms_Co_plan : Cond.instanceMethod y_Co_plan ∈ gtbl ∧ Cond.selects jR0 y_Co_plan y_Co_plan ∈ gtbl := ⟨gt_of 681 (by decide +kernel) rfl, gt_of 682 (by decide +kernel) rfl⟩
def y_Sh_setClaim : MethodName := ⟨jR3, "setClaim", "(III)V"⟩
theorem mt_Sh_setClaim : Mt y_Sh_setClaim prog_10_method_37_code 4 (none) 3 := ⟨gt_of 663 (by decide +kernel) rfl, gt_of 50 (by decide +kernel) rfl, ⟨by decide +kernel, by decide +kernel⟩, by decide +kernel, by decide⟩
theorem ms_Sh_setClaim : Cond.instanceMethod y_Sh_setClaim ∈ gtbl ∧ Cond.selects jR3 y_Sh_setClaim y_Sh_setClaim ∈ gtbl := ⟨gt_of 661 (by decide +kernel) rfl, gt_of 662 (by decide +kernel) rfl⟩
def y_Co_plead : MethodName := ⟨jR0, "plead", "(III)I"⟩
theorem mt_Co_plead : Mt y_Co_plead prog_1_method_12_code 5 (some .int) 3 := ⟨gt_of 659 (by decide +kernel) rfl, gt_of 46 (by decide +kernel) rfl, ⟨by decide +kernel, by decide +kernel⟩, by decide +kernel, by decide⟩
theorem ms_Co_plead : Cond.instanceMethod y_Co_plead ∈ gtbl ∧ Cond.selects jR0 y_Co_plead y_Co_plead ∈ gtbl := ⟨gt_of 657 (by decide +kernel) rfl, gt_of 658 (by decide +kernel) rfl⟩
def y_Co_restore : MethodName := ⟨jR0, "restore", "()I"⟩
theorem mt_Co_restore : Mt y_Co_restore prog_1_method_21_code 1 (some .int) 0 := ⟨gt_of 853 (by decide +kernel) rfl, gt_of 46 (by decide +kernel) rfl, ⟨by decide +kernel, by decide +kernel⟩, by decide +kernel, by decide⟩
theorem ms_Co_restore : Cond.instanceMethod y_Co_restore ∈ gtbl ∧ Cond.selects jR0 y_Co_restore y_Co_restore ∈ gtbl := ⟨gt_of 851 (by decide +kernel) rfl, gt_of 852 (by decide +kernel) rfl⟩
def y_Co_right : MethodName := ⟨jR0, "right", "(II)I"⟩
theorem mt_Co_right : Mt y_Co_right prog_1_method_9_code 4 (some .int) 2 := ⟨gt_of 617 (by decide +kernel) rfl, gt_of 46 (by decide +kernel) rfl, ⟨by decide +kernel, by decide +kernel⟩, by decide +kernel, by decide⟩
theorem ms_Co_right : Cond.instanceMethod y_Co_right ∈ gtbl ∧ Cond.selects jR0 y_Co_right y_Co_right ∈ gtbl := ⟨gt_of 615 (by decide +kernel) rfl, gt_of 616 (by decide +kernel) rfl⟩
def y_Si_add : MethodName := ⟨jR4, "add", "(IIZ)V"⟩
theorem mt_Si_add : Mt y_Si_add prog_11_method_3_code 4 (none) 3 := ⟨gt_of 793 (by decide +kernel) rfl, gt_of 51 (by decide +kernel) rfl, ⟨by decide +kernel, by decide +kernel⟩, by decide +kernel, by decide⟩
theorem ms_Si_add : Cond.instanceMethod y_Si_add ∈ gtbl ∧ Cond.selects jR4 y_Si_add y_Si_add ∈ gtbl := ⟨gt_of 791 (by decide +kernel) rfl, gt_of 792 (by decide +kernel) rfl⟩
def y_Co_see : MethodName := ⟨jR0, "see", "(IIZ)I"⟩
theorem mt_Co_see : Mt y_Co_see prog_1_method_17_code 4 (some .int) 3 := ⟨gt_of 784 (by decide +kernel) rfl, gt_of 46 (by decide +kernel) rfl, ⟨by decide +kernel, by decide +kernel⟩, by decide +kernel, by decide⟩
theorem ms_Co_see : Cond.instanceMethod y_Co_see ∈ gtbl ∧ Cond.selects jR0 y_Co_see y_Co_see ∈ gtbl := ⟨gt_of 782 (by decide +kernel) rfl, gt_of 783 (by decide +kernel) rfl⟩
def y_Rd_isWholeShire : MethodName := ⟨jR2, "isWholeShire", "()Z"⟩
theorem mt_Rd_isWholeShire : Mt y_Rd_isWholeShire prog_8_method_3_code 1 (some .boolean) 0 := ⟨gt_of 460 (by decide +kernel) rfl, gt_of 49 (by decide +kernel) rfl, ⟨by decide +kernel, by decide +kernel⟩, by decide +kernel, by decide⟩
theorem ms_Rd_isWholeShire : Cond.instanceMethod y_Rd_isWholeShire ∈ gtbl ∧ Cond.selects jR2 y_Rd_isWholeShire y_Rd_isWholeShire ∈ gtbl := ⟨gt_of 458 (by decide +kernel) rfl, gt_of 459 (by decide +kernel) rfl⟩
def y_Sh_begin : MethodName := ⟨jR3, "begin", "()V"⟩
theorem mt_Sh_begin : Mt y_Sh_begin prog_10_method_2_code 1 (none) 0 := ⟨gt_of 469 (by decide +kernel) rfl, gt_of 50 (by decide +kernel) rfl, ⟨by decide +kernel, by decide +kernel⟩, by decide +kernel, by decide⟩
theorem ms_Sh_begin : Cond.instanceMethod y_Sh_begin ∈ gtbl ∧ Cond.selects jR3 y_Sh_begin y_Sh_begin ∈ gtbl := ⟨gt_of 467 (by decide +kernel) rfl, gt_of 468 (by decide +kernel) rfl⟩
def y_Pg_digit : MethodName := ⟨jR1, "digit", "(I)I"⟩
theorem mt_Pg_digit : Mt y_Pg_digit prog_6_method_4_code 2 (some .int) 1 := ⟨gt_of 477 (by decide +kernel) rfl, gt_of 47 (by decide +kernel) rfl, ⟨by decide +kernel, by decide +kernel⟩, by decide +kernel, by decide⟩
theorem ms_Pg_digit : Cond.instanceMethod y_Pg_digit ∈ gtbl ∧ Cond.selects jR1 y_Pg_digit y_Pg_digit ∈ gtbl := ⟨gt_of 475 (by decide +kernel) rfl, gt_of 476 (by decide +kernel) rfl⟩
def y_Sh_addTree : MethodName := ⟨jR3, "addTree", "(II)V"⟩
theorem mt_Sh_addTree : Mt y_Sh_addTree prog_10_method_3_code 3 (none) 2 := ⟨gt_of 481 (by decide +kernel) rfl, gt_of 50 (by decide +kernel) rfl, ⟨by decide +kernel, by decide +kernel⟩, by decide +kernel, by decide⟩
theorem ms_Sh_addTree : Cond.instanceMethod y_Sh_addTree ∈ gtbl ∧ Cond.selects jR3 y_Sh_addTree y_Sh_addTree ∈ gtbl := ⟨gt_of 479 (by decide +kernel) rfl, gt_of 480 (by decide +kernel) rfl⟩
def y_Sh_addSuit : MethodName := ⟨jR3, "addSuit", "(IIII)V"⟩
theorem mt_Sh_addSuit : Mt y_Sh_addSuit prog_10_method_4_code 8 (none) 4 := ⟨gt_of 486 (by decide +kernel) rfl, gt_of 50 (by decide +kernel) rfl, ⟨by decide +kernel, by decide +kernel⟩, by decide +kernel, by decide⟩
theorem ms_Sh_addSuit : Cond.instanceMethod y_Sh_addSuit ∈ gtbl ∧ Cond.selects jR3 y_Sh_addSuit y_Sh_addSuit ∈ gtbl := ⟨gt_of 484 (by decide +kernel) rfl, gt_of 485 (by decide +kernel) rfl⟩
def y_Rd_readInto : MethodName := ⟨jR2, "readInto", "(LMistletoeCourt$Shire;)V"⟩
theorem mt_Rd_readInto : Mt y_Rd_readInto prog_8_method_4_code 6 (none) 1 := ⟨gt_of 465 (by decide +kernel) rfl, gt_of 49 (by decide +kernel) rfl, ⟨by decide +kernel, by decide +kernel⟩, by decide +kernel, by decide⟩
theorem ms_Rd_readInto : Cond.instanceMethod y_Rd_readInto ∈ gtbl ∧ Cond.selects jR2 y_Rd_readInto y_Rd_readInto ∈ gtbl := ⟨gt_of 463 (by decide +kernel) rfl, gt_of 464 (by decide +kernel) rfl⟩
def y_Co_shire : MethodName := ⟨jR0, "shire", "()I"⟩
theorem mt_Co_shire : Mt y_Co_shire prog_1_method_5_code 1 (some .int) 0 := ⟨gt_of 456 (by decide +kernel) rfl, gt_of 46 (by decide +kernel) rfl, ⟨by decide +kernel, by decide +kernel⟩, by decide +kernel, by decide⟩
theorem ms_Co_shire : Cond.instanceMethod y_Co_shire ∈ gtbl ∧ Cond.selects jR0 y_Co_shire y_Co_shire ∈ gtbl := ⟨gt_of 454 (by decide +kernel) rfl, gt_of 455 (by decide +kernel) rfl⟩
def y_Sh_unright : MethodName := ⟨jR3, "unright", "(I)V"⟩
theorem mt_Sh_unright : Mt y_Sh_unright prog_10_method_34_code 2 (none) 1 := ⟨gt_of 671 (by decide +kernel) rfl, gt_of 50 (by decide +kernel) rfl, ⟨by decide +kernel, by decide +kernel⟩, by decide +kernel, by decide⟩
theorem ms_Sh_unright : Cond.instanceMethod y_Sh_unright ∈ gtbl ∧ Cond.selects jR3 y_Sh_unright y_Sh_unright ∈ gtbl := ⟨gt_of 669 (by decide +kernel) rfl, gt_of 670 (by decide +kernel) rfl⟩
def y_Co_walk : MethodName := ⟨jR0, "walk", "(I)I"⟩
theorem mt_Co_walk : Mt y_Co_walk prog_1_method_13_code 2 (some .int) 1 := ⟨gt_of 667 (by decide +kernel) rfl, gt_of 46 (by decide +kernel) rfl, ⟨by decide +kernel, by decide +kernel⟩, by decide +kernel, by decide⟩
theorem ms_Co_walk : Cond.instanceMethod y_Co_walk ∈ gtbl ∧ Cond.selects jR0 y_Co_walk y_Co_walk ∈ gtbl := ⟨gt_of 665 (by decide +kernel) rfl, gt_of 666 (by decide +kernel) rfl⟩
def y_Co_year : MethodName := ⟨jR0, "year", "()I"⟩
theorem mt_Co_year : Mt y_Co_year prog_1_method_10_code 1 (some .int) 0 := ⟨gt_of 634 (by decide +kernel) rfl, gt_of 46 (by decide +kernel) rfl, ⟨by decide +kernel, by decide +kernel⟩, by decide +kernel, by decide⟩
theorem ms_Co_year : Cond.instanceMethod y_Co_year ∈ gtbl ∧ Cond.selects jR0 y_Co_year y_Co_year ∈ gtbl := ⟨gt_of 632 (by decide +kernel) rfl, gt_of 633 (by decide +kernel) rfl⟩
def y_Mo_isIn : MethodName := ⟨jR10, "isIn", "(II)Z"⟩
theorem mt_Mo_isIn : Mt y_Mo_isIn prog_13_method_4_code 2 (some .boolean) 2 := ⟨gt_of 1096 (by decide +kernel) rfl, gt_of 56 (by decide +kernel) rfl, ⟨by decide +kernel, by decide +kernel⟩, by decide +kernel, by decide⟩
theorem ms_Mo_isIn : Cond.static y_Mo_isIn ∈ gtbl := gt_of 1095 (by decide +kernel) rfl
def y_Mo_allOn : MethodName := ⟨jR10, "allOn", "(I)I"⟩
theorem mt_Mo_allOn : Mt y_Mo_allOn prog_13_method_20_code 5 (some .int) 1 := ⟨gt_of 1120 (by decide +kernel) rfl, gt_of 56 (by decide +kernel) rfl, ⟨by decide +kernel, by decide +kernel⟩, by decide +kernel, by decide⟩
theorem ms_Mo_allOn : Cond.instanceMethod y_Mo_allOn ∈ gtbl ∧ Cond.selects jR10 y_Mo_allOn y_Mo_allOn ∈ gtbl := ⟨gt_of 1119 (by decide +kernel) rfl, gt_of 26 (by decide +kernel) rfl⟩
def y_Mo_within : MethodName := ⟨jR10, "within", "(III)Z"⟩
theorem mt_Mo_within : Mt y_Mo_within prog_13_method_3_code 3 (some .boolean) 3 := ⟨gt_of 1038 (by decide +kernel) rfl, gt_of 56 (by decide +kernel) rfl, ⟨by decide +kernel, by decide +kernel⟩, by decide +kernel, by decide⟩
theorem ms_Mo_within : Cond.static y_Mo_within ∈ gtbl := gt_of 1037 (by decide +kernel) rfl
def y_Mo_isCase : MethodName := ⟨jR10, "isCase", "(I)Z"⟩
theorem mt_Mo_isCase : Mt y_Mo_isCase prog_13_method_18_code 2 (some .boolean) 1 := ⟨gt_of 1112 (by decide +kernel) rfl, gt_of 56 (by decide +kernel) rfl, ⟨by decide +kernel, by decide +kernel⟩, by decide +kernel, by decide⟩
theorem ms_Mo_isCase : Cond.instanceMethod y_Mo_isCase ∈ gtbl ∧ Cond.selects jR10 y_Mo_isCase y_Mo_isCase ∈ gtbl := ⟨gt_of 1111 (by decide +kernel) rfl, gt_of 24 (by decide +kernel) rfl⟩
def y_Mo_as : MethodName := ⟨jR10, "as", "(II)I"⟩
theorem mt_Mo_as : Mt y_Mo_as prog_13_method_29_code 4 (some .int) 2 := ⟨gt_of 1140 (by decide +kernel) rfl, gt_of 56 (by decide +kernel) rfl, ⟨by decide +kernel, by decide +kernel⟩, by decide +kernel, by decide⟩
theorem ms_Mo_as : Cond.instanceMethod y_Mo_as ∈ gtbl ∧ Cond.selects jR10 y_Mo_as y_Mo_as ∈ gtbl := ⟨gt_of 1138 (by decide +kernel) rfl, gt_of 1139 (by decide +kernel) rfl⟩
def y_Mo_at : MethodName := ⟨jR10, "at", "(I)I"⟩
theorem mt_Mo_at : Mt y_Mo_at prog_13_method_10_code 2 (some .int) 1 := ⟨gt_of 1058 (by decide +kernel) rfl, gt_of 56 (by decide +kernel) rfl, ⟨by decide +kernel, by decide +kernel⟩, by decide +kernel, by decide⟩
theorem ms_Mo_at : Cond.instanceMethod y_Mo_at ∈ gtbl ∧ Cond.selects jR10 y_Mo_at y_Mo_at ∈ gtbl := ⟨gt_of 1057 (by decide +kernel) rfl, gt_of 15 (by decide +kernel) rfl⟩
def y_Mo_isOpen : MethodName := ⟨jR10, "isOpen", "(II)Z"⟩
theorem mt_Mo_isOpen : Mt y_Mo_isOpen prog_13_method_22_code 4 (some .boolean) 2 := ⟨gt_of 1093 (by decide +kernel) rfl, gt_of 56 (by decide +kernel) rfl, ⟨by decide +kernel, by decide +kernel⟩, by decide +kernel, by decide⟩
theorem ms_Mo_isOpen : Cond.instanceMethod y_Mo_isOpen ∈ gtbl ∧ Cond.selects jR10 y_Mo_isOpen y_Mo_isOpen ∈ gtbl := ⟨gt_of 1092 (by decide +kernel) rfl, gt_of 21 (by decide +kernel) rfl⟩
def y_Mo_straight : MethodName := ⟨jR10, "straight", "(I)I"⟩
theorem mt_Mo_straight : Mt y_Mo_straight prog_13_method_19_code 4 (some .int) 1 := ⟨gt_of 1104 (by decide +kernel) rfl, gt_of 56 (by decide +kernel) rfl, ⟨by decide +kernel, by decide +kernel⟩, by decide +kernel, by decide⟩
theorem ms_Mo_straight : Cond.instanceMethod y_Mo_straight ∈ gtbl ∧ Cond.selects jR10 y_Mo_straight y_Mo_straight ∈ gtbl := ⟨gt_of 1103 (by decide +kernel) rfl, gt_of 23 (by decide +kernel) rfl⟩
def y_Mo_cost : MethodName := ⟨jR10, "cost", "(I)I"⟩
theorem mt_Mo_cost : Mt y_Mo_cost prog_13_method_21_code 4 (some .int) 1 := ⟨gt_of 1100 (by decide +kernel) rfl, gt_of 56 (by decide +kernel) rfl, ⟨by decide +kernel, by decide +kernel⟩, by decide +kernel, by decide⟩
theorem ms_Mo_cost : Cond.instanceMethod y_Mo_cost ∈ gtbl ∧ Cond.selects jR10 y_Mo_cost y_Mo_cost ∈ gtbl := ⟨gt_of 1099 (by decide +kernel) rfl, gt_of 22 (by decide +kernel) rfl⟩
def y_Mo_costIn : MethodName := ⟨jR10, "costIn", "(I)I"⟩
theorem mt_Mo_costIn : Mt y_Mo_costIn prog_13_method_40_code 4 (some .int) 1 := ⟨gt_of 1204 (by decide +kernel) rfl, gt_of 56 (by decide +kernel) rfl, ⟨by decide +kernel, by decide +kernel⟩, by decide +kernel, by decide⟩
theorem ms_Mo_costIn : Cond.instanceMethod y_Mo_costIn ∈ gtbl ∧ Cond.selects jR10 y_Mo_costIn y_Mo_costIn ∈ gtbl := ⟨gt_of 1203 (by decide +kernel) rfl, gt_of 38 (by decide +kernel) rfl⟩
def y_Mo_mayNext : MethodName := ⟨jR10, "mayNext", "(III)Z"⟩
theorem mt_Mo_mayNext : Mt y_Mo_mayNext prog_13_method_41_code 4 (some .boolean) 3 := ⟨gt_of 1200 (by decide +kernel) rfl, gt_of 56 (by decide +kernel) rfl, ⟨by decide +kernel, by decide +kernel⟩, by decide +kernel, by decide⟩
theorem ms_Mo_mayNext : Cond.instanceMethod y_Mo_mayNext ∈ gtbl ∧ Cond.selects jR10 y_Mo_mayNext y_Mo_mayNext ∈ gtbl := ⟨gt_of 1199 (by decide +kernel) rfl, gt_of 37 (by decide +kernel) rfl⟩
def y_Mo_bestNext : MethodName := ⟨jR10, "bestNext", "(II)I"⟩
theorem mt_Mo_bestNext : Mt y_Mo_bestNext prog_13_method_42_code 8 (some .int) 2 := ⟨gt_of 1196 (by decide +kernel) rfl, gt_of 56 (by decide +kernel) rfl, ⟨by decide +kernel, by decide +kernel⟩, by decide +kernel, by decide⟩
theorem ms_Mo_bestNext : Cond.instanceMethod y_Mo_bestNext ∈ gtbl ∧ Cond.selects jR10 y_Mo_bestNext y_Mo_bestNext ∈ gtbl := ⟨gt_of 1195 (by decide +kernel) rfl, gt_of 36 (by decide +kernel) rfl⟩
def y_Mo_isTree : MethodName := ⟨jR10, "isTree", "(I)Z"⟩
theorem mt_Mo_isTree : Mt y_Mo_isTree prog_13_method_17_code 2 (some .boolean) 1 := ⟨gt_of 1081 (by decide +kernel) rfl, gt_of 56 (by decide +kernel) rfl, ⟨by decide +kernel, by decide +kernel⟩, by decide +kernel, by decide⟩
theorem ms_Mo_isTree : Cond.instanceMethod y_Mo_isTree ∈ gtbl ∧ Cond.selects jR10 y_Mo_isTree y_Mo_isTree ∈ gtbl := ⟨gt_of 1080 (by decide +kernel) rfl, gt_of 18 (by decide +kernel) rfl⟩
def y_Mo_birds : MethodName := ⟨jR10, "birds", "(II)I"⟩
theorem mt_Mo_birds : Mt y_Mo_birds prog_13_method_33_code 4 (some .int) 2 := ⟨gt_of 1156 (by decide +kernel) rfl, gt_of 56 (by decide +kernel) rfl, ⟨by decide +kernel, by decide +kernel⟩, by decide +kernel, by decide⟩
theorem ms_Mo_birds : Cond.instanceMethod y_Mo_birds ∈ gtbl ∧ Cond.selects jR10 y_Mo_birds y_Mo_birds ∈ gtbl := ⟨gt_of 1154 (by decide +kernel) rfl, gt_of 1155 (by decide +kernel) rfl⟩
def y_Mo_blank : MethodName := ⟨jR10, "blank", "()I"⟩
theorem mt_Mo_blank : Mt y_Mo_blank prog_13_method_8_code 2 (some .int) 0 := ⟨gt_of 1042 (by decide +kernel) rfl, gt_of 56 (by decide +kernel) rfl, ⟨by decide +kernel, by decide +kernel⟩, by decide +kernel, by decide⟩
theorem ms_Mo_blank : Cond.instanceMethod y_Mo_blank ∈ gtbl ∧ Cond.selects jR10 y_Mo_blank y_Mo_blank ∈ gtbl := ⟨gt_of 1040 (by decide +kernel) rfl, gt_of 1041 (by decide +kernel) rfl⟩
def y_Mo_canBe : MethodName := ⟨jR10, "canBe", "()Z"⟩
theorem mt_Mo_canBe : Mt y_Mo_canBe prog_13_method_36_code 3 (some .boolean) 0 := ⟨gt_of 1180 (by decide +kernel) rfl, gt_of 56 (by decide +kernel) rfl, ⟨by decide +kernel, by decide +kernel⟩, by decide +kernel, by decide⟩
theorem ms_Mo_canBe : Cond.instanceMethod y_Mo_canBe ∈ gtbl ∧ Cond.selects jR10 y_Mo_canBe y_Mo_canBe ∈ gtbl := ⟨gt_of 1179 (by decide +kernel) rfl, gt_of 33 (by decide +kernel) rfl⟩
def y_Mo_draw : MethodName := ⟨jR10, "draw", "(I)I"⟩
theorem mt_Mo_draw : Mt y_Mo_draw prog_13_method_52_code 2 (some .int) 1 := ⟨gt_of 1235 (by decide +kernel) rfl, gt_of 56 (by decide +kernel) rfl, ⟨by decide +kernel, by decide +kernel⟩, by decide +kernel, by decide⟩
theorem ms_Mo_draw : Cond.instanceMethod y_Mo_draw ∈ gtbl ∧ Cond.selects jR10 y_Mo_draw y_Mo_draw ∈ gtbl := ⟨gt_of 1234 (by decide +kernel) rfl, gt_of 41 (by decide +kernel) rfl⟩
def y_Mo_mayRight : MethodName := ⟨jR10, "mayRight", "(II)Z"⟩
theorem mt_Mo_mayRight : Mt y_Mo_mayRight prog_13_method_23_code 3 (some .boolean) 2 := ⟨gt_of 1089 (by decide +kernel) rfl, gt_of 56 (by decide +kernel) rfl, ⟨by decide +kernel, by decide +kernel⟩, by decide +kernel, by decide⟩
theorem ms_Mo_mayRight : Cond.instanceMethod y_Mo_mayRight ∈ gtbl ∧ Cond.selects jR10 y_Mo_mayRight y_Mo_mayRight ∈ gtbl := ⟨gt_of 1088 (by decide +kernel) rfl, gt_of 20 (by decide +kernel) rfl⟩
def y_Mo_goYear : MethodName := ⟨jR10, "goYear", "()V"⟩
theorem mt_Mo_goYear : Mt y_Mo_goYear prog_13_method_31_code 3 (none) 0 := ⟨gt_of 1152 (by decide +kernel) rfl, gt_of 56 (by decide +kernel) rfl, ⟨by decide +kernel, by decide +kernel⟩, by decide +kernel, by decide⟩
theorem ms_Mo_goYear : Cond.instanceMethod y_Mo_goYear ∈ gtbl ∧ Cond.selects jR10 y_Mo_goYear y_Mo_goYear ∈ gtbl := ⟨gt_of 1151 (by decide +kernel) rfl, gt_of 30 (by decide +kernel) rfl⟩
def y_Mo_worthIn : MethodName := ⟨jR10, "worthIn", "(I)I"⟩
theorem mt_Mo_worthIn : Mt y_Mo_worthIn prog_13_method_24_code 4 (some .int) 1 := ⟨gt_of 1168 (by decide +kernel) rfl, gt_of 56 (by decide +kernel) rfl, ⟨by decide +kernel, by decide +kernel⟩, by decide +kernel, by decide⟩
theorem ms_Mo_worthIn : Cond.instanceMethod y_Mo_worthIn ∈ gtbl ∧ Cond.selects jR10 y_Mo_worthIn y_Mo_worthIn ∈ gtbl := ⟨gt_of 1167 (by decide +kernel) rfl, gt_of 31 (by decide +kernel) rfl⟩
def y_Mo_centuriesNow : MethodName := ⟨jR10, "centuriesNow", "(III)I"⟩
theorem mt_Mo_centuriesNow : Mt y_Mo_centuriesNow prog_13_method_53_code 9 (some .int) 3 := ⟨gt_of 1231 (by decide +kernel) rfl, gt_of 56 (by decide +kernel) rfl, ⟨by decide +kernel, by decide +kernel⟩, by decide +kernel, by decide⟩
theorem ms_Mo_centuriesNow : Cond.instanceMethod y_Mo_centuriesNow ∈ gtbl ∧ Cond.selects jR10 y_Mo_centuriesNow y_Mo_centuriesNow ∈ gtbl := ⟨gt_of 1230 (by decide +kernel) rfl, gt_of 40 (by decide +kernel) rfl⟩
def y_Mo_centuries : MethodName := ⟨jR10, "centuries", "(III)I"⟩
theorem mt_Mo_centuries : Mt y_Mo_centuries prog_13_method_54_code 4 (some .int) 3 := ⟨gt_of 1227 (by decide +kernel) rfl, gt_of 56 (by decide +kernel) rfl, ⟨by decide +kernel, by decide +kernel⟩, by decide +kernel, by decide⟩
theorem ms_Mo_centuries : Cond.instanceMethod y_Mo_centuries ∈ gtbl ∧ Cond.selects jR10 y_Mo_centuries y_Mo_centuries ∈ gtbl := ⟨gt_of 1225 (by decide +kernel) rfl, gt_of 1226 (by decide +kernel) rfl⟩
def y_Mo_costWith : MethodName := ⟨jR10, "costWith", "(II)I"⟩
theorem mt_Mo_costWith : Mt y_Mo_costWith prog_13_method_49_code 5 (some .int) 2 := ⟨gt_of 1131 (by decide +kernel) rfl, gt_of 56 (by decide +kernel) rfl, ⟨by decide +kernel, by decide +kernel⟩, by decide +kernel, by decide⟩
theorem ms_Mo_costWith : Cond.instanceMethod y_Mo_costWith ∈ gtbl ∧ Cond.selects jR10 y_Mo_costWith y_Mo_costWith ∈ gtbl := ⟨gt_of 1130 (by decide +kernel) rfl, gt_of 28 (by decide +kernel) rfl⟩
def y_Mo_treeNow : MethodName := ⟨jR10, "treeNow", "(II)I"⟩
theorem mt_Mo_treeNow : Mt y_Mo_treeNow prog_13_method_25_code 5 (some .int) 2 := ⟨gt_of 1085 (by decide +kernel) rfl, gt_of 56 (by decide +kernel) rfl, ⟨by decide +kernel, by decide +kernel⟩, by decide +kernel, by decide⟩
theorem ms_Mo_treeNow : Cond.instanceMethod y_Mo_treeNow ∈ gtbl ∧ Cond.selects jR10 y_Mo_treeNow y_Mo_treeNow ∈ gtbl := ⟨gt_of 1084 (by decide +kernel) rfl, gt_of 19 (by decide +kernel) rfl⟩
def y_Mo_ofTrees : MethodName := ⟨jR10, "ofTrees", "(I)I"⟩
theorem mt_Mo_ofTrees : Mt y_Mo_ofTrees prog_13_method_57_code 4 (some .int) 1 := ⟨gt_of 1259 (by decide +kernel) rfl, gt_of 56 (by decide +kernel) rfl, ⟨by decide +kernel, by decide +kernel⟩, by decide +kernel, by decide⟩
theorem ms_Mo_ofTrees : Cond.instanceMethod y_Mo_ofTrees ∈ gtbl ∧ Cond.selects jR10 y_Mo_ofTrees y_Mo_ofTrees ∈ gtbl := ⟨gt_of 1258 (by decide +kernel) rfl, gt_of 43 (by decide +kernel) rfl⟩
def y_Mo_size : MethodName := ⟨jR10, "size", "(I)I"⟩
theorem mt_Mo_size : Mt y_Mo_size prog_13_method_5_code 3 (some .int) 1 := ⟨gt_of 1123 (by decide +kernel) rfl, gt_of 56 (by decide +kernel) rfl, ⟨by decide +kernel, by decide +kernel⟩, by decide +kernel, by decide⟩
theorem ms_Mo_size : Cond.static y_Mo_size ∈ gtbl := gt_of 1122 (by decide +kernel) rfl
def y_Mo_howMany : MethodName := ⟨jR10, "howMany", "(I)I"⟩
theorem mt_Mo_howMany : Mt y_Mo_howMany prog_13_method_58_code 2 (some .int) 1 := ⟨gt_of 1255 (by decide +kernel) rfl, gt_of 56 (by decide +kernel) rfl, ⟨by decide +kernel, by decide +kernel⟩, by decide +kernel, by decide⟩
theorem ms_Mo_howMany : Cond.instanceMethod y_Mo_howMany ∈ gtbl ∧ Cond.selects jR10 y_Mo_howMany y_Mo_howMany ∈ gtbl := ⟨gt_of 1254 (by decide +kernel) rfl, gt_of 42 (by decide +kernel) rfl⟩
def y_Mo_count : MethodName := ⟨jR10, "count", "(I)I"⟩
theorem mt_Mo_count : Mt y_Mo_count prog_13_method_59_code 2 (some .int) 1 := ⟨gt_of 1251 (by decide +kernel) rfl, gt_of 56 (by decide +kernel) rfl, ⟨by decide +kernel, by decide +kernel⟩, by decide +kernel, by decide⟩
theorem ms_Mo_count : Cond.instanceMethod y_Mo_count ∈ gtbl ∧ Cond.selects jR10 y_Mo_count y_Mo_count ∈ gtbl := ⟨gt_of 1249 (by decide +kernel) rfl, gt_of 1250 (by decide +kernel) rfl⟩
def y_Mo_mix : MethodName := ⟨jR10, "mix", "(J)V"⟩
theorem mt_Mo_mix : Mt y_Mo_mix prog_13_method_60_code 3 (none) 1 := ⟨gt_of 1268 (by decide +kernel) rfl, gt_of 56 (by decide +kernel) rfl, ⟨by decide +kernel, by decide +kernel⟩, by decide +kernel, by decide⟩
theorem ms_Mo_mix : Cond.instanceMethod y_Mo_mix ∈ gtbl ∧ Cond.selects jR10 y_Mo_mix y_Mo_mix ∈ gtbl := ⟨gt_of 1267 (by decide +kernel) rfl, gt_of 44 (by decide +kernel) rfl⟩
def y_Mo_gameNow : MethodName := ⟨jR10, "gameNow", "(II)I"⟩
theorem mt_Mo_gameNow : Mt y_Mo_gameNow prog_13_method_43_code 5 (some .int) 2 := ⟨gt_of 1192 (by decide +kernel) rfl, gt_of 56 (by decide +kernel) rfl, ⟨by decide +kernel, by decide +kernel⟩, by decide +kernel, by decide⟩
theorem ms_Mo_gameNow : Cond.instanceMethod y_Mo_gameNow ∈ gtbl ∧ Cond.selects jR10 y_Mo_gameNow y_Mo_gameNow ∈ gtbl := ⟨gt_of 1191 (by decide +kernel) rfl, gt_of 35 (by decide +kernel) rfl⟩
def y_Mo_needsOf : MethodName := ⟨jR10, "needsOf", "(I)I"⟩
theorem mt_Mo_needsOf : Mt y_Mo_needsOf prog_13_method_50_code 6 (some .int) 1 := ⟨gt_of 1127 (by decide +kernel) rfl, gt_of 56 (by decide +kernel) rfl, ⟨by decide +kernel, by decide +kernel⟩, by decide +kernel, by decide⟩
theorem ms_Mo_needsOf : Cond.instanceMethod y_Mo_needsOf ∈ gtbl ∧ Cond.selects jR10 y_Mo_needsOf y_Mo_needsOf ∈ gtbl := ⟨gt_of 1126 (by decide +kernel) rfl, gt_of 27 (by decide +kernel) rfl⟩
def y_Mo_tryFor : MethodName := ⟨jR10, "tryFor", "(I)I"⟩
theorem mt_Mo_tryFor : Mt y_Mo_tryFor prog_13_method_51_code 9 (some .int) 1 := ⟨gt_of 1135 (by decide +kernel) rfl, gt_of 56 (by decide +kernel) rfl, ⟨by decide +kernel, by decide +kernel⟩, by decide +kernel, by decide⟩
theorem ms_Mo_tryFor : Cond.instanceMethod y_Mo_tryFor ∈ gtbl ∧ Cond.selects jR10 y_Mo_tryFor y_Mo_tryFor ∈ gtbl := ⟨gt_of 1134 (by decide +kernel) rfl, gt_of 29 (by decide +kernel) rfl⟩
def y_Mo_suitNow : MethodName := ⟨jR10, "suitNow", "(II)I"⟩
theorem mt_Mo_suitNow : Mt y_Mo_suitNow prog_13_method_27_code 3 (some .int) 2 := ⟨gt_of 1116 (by decide +kernel) rfl, gt_of 56 (by decide +kernel) rfl, ⟨by decide +kernel, by decide +kernel⟩, by decide +kernel, by decide⟩
theorem ms_Mo_suitNow : Cond.instanceMethod y_Mo_suitNow ∈ gtbl ∧ Cond.selects jR10 y_Mo_suitNow y_Mo_suitNow ∈ gtbl := ⟨gt_of 1115 (by decide +kernel) rfl, gt_of 25 (by decide +kernel) rfl⟩
def y_Mo_divisor : MethodName := ⟨jR10, "divisor", "(II)I"⟩
theorem mt_Mo_divisor : Mt y_Mo_divisor prog_13_method_6_code 5 (some .int) 2 := ⟨gt_of 1215 (by decide +kernel) rfl, gt_of 56 (by decide +kernel) rfl, ⟨by decide +kernel, by decide +kernel⟩, by decide +kernel, by decide⟩
theorem ms_Mo_divisor : Cond.static y_Mo_divisor ∈ gtbl := gt_of 1214 (by decide +kernel) rfl
def y_Mo_oddsNow : MethodName := ⟨jR10, "oddsNow", "(IIII)I"⟩
theorem mt_Mo_oddsNow : Mt y_Mo_oddsNow prog_13_method_45_code 9 (some .int) 4 := ⟨gt_of 1212 (by decide +kernel) rfl, gt_of 56 (by decide +kernel) rfl, ⟨by decide +kernel, by decide +kernel⟩, by decide +kernel, by decide⟩
theorem ms_Mo_oddsNow : Cond.instanceMethod y_Mo_oddsNow ∈ gtbl ∧ Cond.selects jR10 y_Mo_oddsNow y_Mo_oddsNow ∈ gtbl := ⟨gt_of 1211 (by decide +kernel) rfl, gt_of 39 (by decide +kernel) rfl⟩
def y_Mo_digest : MethodName := ⟨jR10, "digest", "()J"⟩
theorem mt_Mo_digest : Mt y_Mo_digest prog_13_method_61_code 3 (some .long) 0 := ⟨gt_of 1263 (by decide +kernel) rfl, gt_of 56 (by decide +kernel) rfl, ⟨by decide +kernel, by decide +kernel⟩, by decide +kernel, by decide⟩
theorem ms_Mo_digest : Cond.instanceMethod y_Mo_digest ∈ gtbl ∧ Cond.selects jR10 y_Mo_digest y_Mo_digest ∈ gtbl := ⟨gt_of 1261 (by decide +kernel) rfl, gt_of 1262 (by decide +kernel) rfl⟩
def y_Mo_isFigure : MethodName := ⟨jR10, "isFigure", "(III)Z"⟩
theorem mt_Mo_isFigure : Mt y_Mo_isFigure prog_13_method_11_code 4 (some .boolean) 3 := ⟨gt_of 1054 (by decide +kernel) rfl, gt_of 56 (by decide +kernel) rfl, ⟨by decide +kernel, by decide +kernel⟩, by decide +kernel, by decide⟩
theorem ms_Mo_isFigure : Cond.instanceMethod y_Mo_isFigure ∈ gtbl ∧ Cond.selects jR10 y_Mo_isFigure y_Mo_isFigure ∈ gtbl := ⟨gt_of 1053 (by decide +kernel) rfl, gt_of 14 (by decide +kernel) rfl⟩
def y_Mo_kindBy : MethodName := ⟨jR10, "kindBy", "(I)I"⟩
theorem mt_Mo_kindBy : Mt y_Mo_kindBy prog_13_method_9_code 1 (some .int) 1 := ⟨gt_of 1069 (by decide +kernel) rfl, gt_of 56 (by decide +kernel) rfl, ⟨by decide +kernel, by decide +kernel⟩, by decide +kernel, by decide⟩
theorem ms_Mo_kindBy : Cond.static y_Mo_kindBy ∈ gtbl := gt_of 1068 (by decide +kernel) rfl
def y_Mo_readCase : MethodName := ⟨jR10, "readCase", "(I)I"⟩
theorem mt_Mo_readCase : Mt y_Mo_readCase prog_13_method_12_code 2 (some .int) 1 := ⟨gt_of 1066 (by decide +kernel) rfl, gt_of 56 (by decide +kernel) rfl, ⟨by decide +kernel, by decide +kernel⟩, by decide +kernel, by decide⟩
theorem ms_Mo_readCase : Cond.instanceMethod y_Mo_readCase ∈ gtbl ∧ Cond.selects jR10 y_Mo_readCase y_Mo_readCase ∈ gtbl := ⟨gt_of 1065 (by decide +kernel) rfl, gt_of 17 (by decide +kernel) rfl⟩
def y_Mo_readCases : MethodName := ⟨jR10, "readCases", "(I)I"⟩
theorem mt_Mo_readCases : Mt y_Mo_readCases prog_13_method_13_code 4 (some .int) 1 := ⟨gt_of 1062 (by decide +kernel) rfl, gt_of 56 (by decide +kernel) rfl, ⟨by decide +kernel, by decide +kernel⟩, by decide +kernel, by decide⟩
theorem ms_Mo_readCases : Cond.instanceMethod y_Mo_readCases ∈ gtbl ∧ Cond.selects jR10 y_Mo_readCases y_Mo_readCases ∈ gtbl := ⟨gt_of 1061 (by decide +kernel) rfl, gt_of 16 (by decide +kernel) rfl⟩
def y_Mo_read : MethodName := ⟨jR10, "read", "()I"⟩
theorem mt_Mo_read : Mt y_Mo_read prog_13_method_14_code 2 (some .int) 0 := ⟨gt_of 1050 (by decide +kernel) rfl, gt_of 56 (by decide +kernel) rfl, ⟨by decide +kernel, by decide +kernel⟩, by decide +kernel, by decide⟩
theorem ms_Mo_read : Cond.instanceMethod y_Mo_read ∈ gtbl ∧ Cond.selects jR10 y_Mo_read y_Mo_read ∈ gtbl := ⟨gt_of 1049 (by decide +kernel) rfl, gt_of 13 (by decide +kernel) rfl⟩
def y_Mo_fault : MethodName := ⟨jR10, "fault", "()I"⟩
theorem mt_Mo_fault : Mt y_Mo_fault prog_13_method_15_code 1 (some .int) 0 := ⟨gt_of 1046 (by decide +kernel) rfl, gt_of 56 (by decide +kernel) rfl, ⟨by decide +kernel, by decide +kernel⟩, by decide +kernel, by decide⟩
theorem ms_Mo_fault : Cond.instanceMethod y_Mo_fault ∈ gtbl ∧ Cond.selects jR10 y_Mo_fault y_Mo_fault ∈ gtbl := ⟨gt_of 1044 (by decide +kernel) rfl, gt_of 1045 (by decide +kernel) rfl⟩
def y_Mo_forget : MethodName := ⟨jR10, "forget", "()I"⟩
theorem mt_Mo_forget : Mt y_Mo_forget prog_13_method_48_code 2 (some .int) 0 := ⟨gt_of 1223 (by decide +kernel) rfl, gt_of 56 (by decide +kernel) rfl, ⟨by decide +kernel, by decide +kernel⟩, by decide +kernel, by decide⟩
theorem ms_Mo_forget : Cond.instanceMethod y_Mo_forget ∈ gtbl ∧ Cond.selects jR10 y_Mo_forget y_Mo_forget ∈ gtbl := ⟨gt_of 1221 (by decide +kernel) rfl, gt_of 1222 (by decide +kernel) rfl⟩
def y_Mo_game : MethodName := ⟨jR10, "game", "(II)I"⟩
theorem mt_Mo_game : Mt y_Mo_game prog_13_method_44_code 3 (some .int) 2 := ⟨gt_of 1188 (by decide +kernel) rfl, gt_of 56 (by decide +kernel) rfl, ⟨by decide +kernel, by decide +kernel⟩, by decide +kernel, by decide⟩
theorem ms_Mo_game : Cond.instanceMethod y_Mo_game ∈ gtbl ∧ Cond.selects jR10 y_Mo_game y_Mo_game ∈ gtbl := ⟨gt_of 1186 (by decide +kernel) rfl, gt_of 1187 (by decide +kernel) rfl⟩
def y_Mo_image : MethodName := ⟨jR10, "image", "()I"⟩
theorem mt_Mo_image : Mt y_Mo_image prog_13_method_55_code 2 (some .int) 0 := ⟨gt_of 1243 (by decide +kernel) rfl, gt_of 56 (by decide +kernel) rfl, ⟨by decide +kernel, by decide +kernel⟩, by decide +kernel, by decide⟩
theorem ms_Mo_image : Cond.instanceMethod y_Mo_image ∈ gtbl ∧ Cond.selects jR10 y_Mo_image y_Mo_image ∈ gtbl := ⟨gt_of 1241 (by decide +kernel) rfl, gt_of 1242 (by decide +kernel) rfl⟩
def y_Mo_letter : MethodName := ⟨jR10, "letter", "(I)I"⟩
theorem mt_Mo_letter : Mt y_Mo_letter prog_13_method_7_code 2 (some .int) 1 := ⟨gt_of 1035 (by decide +kernel) rfl, gt_of 56 (by decide +kernel) rfl, ⟨by decide +kernel, by decide +kernel⟩, by decide +kernel, by decide⟩
theorem ms_Mo_letter : Cond.instanceMethod y_Mo_letter ∈ gtbl ∧ Cond.selects jR10 y_Mo_letter y_Mo_letter ∈ gtbl := ⟨gt_of 1033 (by decide +kernel) rfl, gt_of 1034 (by decide +kernel) rfl⟩
def y_Mo_nextRow : MethodName := ⟨jR10, "nextRow", "()Z"⟩
theorem mt_Mo_nextRow : Mt y_Mo_nextRow prog_13_method_37_code 2 (some .boolean) 0 := ⟨gt_of 1184 (by decide +kernel) rfl, gt_of 56 (by decide +kernel) rfl, ⟨by decide +kernel, by decide +kernel⟩, by decide +kernel, by decide⟩
theorem ms_Mo_nextRow : Cond.instanceMethod y_Mo_nextRow ∈ gtbl ∧ Cond.selects jR10 y_Mo_nextRow y_Mo_nextRow ∈ gtbl := ⟨gt_of 1183 (by decide +kernel) rfl, gt_of 34 (by decide +kernel) rfl⟩
def y_Mo_odds : MethodName := ⟨jR10, "odds", "(IIII)I"⟩
theorem mt_Mo_odds : Mt y_Mo_odds prog_13_method_46_code 5 (some .int) 4 := ⟨gt_of 1208 (by decide +kernel) rfl, gt_of 56 (by decide +kernel) rfl, ⟨by decide +kernel, by decide +kernel⟩, by decide +kernel, by decide⟩
theorem ms_Mo_odds : Cond.instanceMethod y_Mo_odds ∈ gtbl ∧ Cond.selects jR10 y_Mo_odds y_Mo_odds ∈ gtbl := ⟨gt_of 1206 (by decide +kernel) rfl, gt_of 1207 (by decide +kernel) rfl⟩
def y_Mo_planNow : MethodName := ⟨jR10, "planNow", "(I)I"⟩
theorem mt_Mo_planNow : Mt y_Mo_planNow prog_13_method_38_code 7 (some .int) 1 := ⟨gt_of 1176 (by decide +kernel) rfl, gt_of 56 (by decide +kernel) rfl, ⟨by decide +kernel, by decide +kernel⟩, by decide +kernel, by decide⟩
theorem ms_Mo_planNow : Cond.instanceMethod y_Mo_planNow ∈ gtbl ∧ Cond.selects jR10 y_Mo_planNow y_Mo_planNow ∈ gtbl := ⟨gt_of 1175 (by decide +kernel) rfl, gt_of 32 (by decide +kernel) rfl⟩
def y_Mo_plan : MethodName := ⟨jR10, "plan", "(I)I"⟩
theorem mt_Mo_plan : Mt y_Mo_plan prog_13_method_39_code 2 (some .int) 1 := ⟨gt_of 1172 (by decide +kernel) rfl, gt_of 56 (by decide +kernel) rfl, ⟨by decide +kernel, by decide +kernel⟩, by decide +kernel, by decide⟩
theorem ms_Mo_plan : Cond.instanceMethod y_Mo_plan ∈ gtbl ∧ Cond.selects jR10 y_Mo_plan y_Mo_plan ∈ gtbl := ⟨gt_of 1170 (by decide +kernel) rfl, gt_of 1171 (by decide +kernel) rfl⟩
def y_Mo_plead : MethodName := ⟨jR10, "plead", "(III)I"⟩
theorem mt_Mo_plead : Mt y_Mo_plead prog_13_method_34_code 5 (some .int) 3 := ⟨gt_of 1160 (by decide +kernel) rfl, gt_of 56 (by decide +kernel) rfl, ⟨by decide +kernel, by decide +kernel⟩, by decide +kernel, by decide⟩
theorem ms_Mo_plead : Cond.instanceMethod y_Mo_plead ∈ gtbl ∧ Cond.selects jR10 y_Mo_plead y_Mo_plead ∈ gtbl := ⟨gt_of 1158 (by decide +kernel) rfl, gt_of 1159 (by decide +kernel) rfl⟩
def y_Mo_restore : MethodName := ⟨jR10, "restore", "()I"⟩
theorem mt_Mo_restore : Mt y_Mo_restore prog_13_method_56_code 2 (some .int) 0 := ⟨gt_of 1247 (by decide +kernel) rfl, gt_of 56 (by decide +kernel) rfl, ⟨by decide +kernel, by decide +kernel⟩, by decide +kernel, by decide⟩
theorem ms_Mo_restore : Cond.instanceMethod y_Mo_restore ∈ gtbl ∧ Cond.selects jR10 y_Mo_restore y_Mo_restore ∈ gtbl := ⟨gt_of 1245 (by decide +kernel) rfl, gt_of 1246 (by decide +kernel) rfl⟩
def y_Mo_right : MethodName := ⟨jR10, "right", "(II)I"⟩
theorem mt_Mo_right : Mt y_Mo_right prog_13_method_30_code 4 (some .int) 2 := ⟨gt_of 1144 (by decide +kernel) rfl, gt_of 56 (by decide +kernel) rfl, ⟨by decide +kernel, by decide +kernel⟩, by decide +kernel, by decide⟩
theorem ms_Mo_right : Cond.instanceMethod y_Mo_right ∈ gtbl ∧ Cond.selects jR10 y_Mo_right y_Mo_right ∈ gtbl := ⟨gt_of 1142 (by decide +kernel) rfl, gt_of 1143 (by decide +kernel) rfl⟩
def y_Mo_see : MethodName := ⟨jR10, "see", "(IIZ)I"⟩
theorem mt_Mo_see : Mt y_Mo_see prog_13_method_47_code 4 (some .int) 3 := ⟨gt_of 1219 (by decide +kernel) rfl, gt_of 56 (by decide +kernel) rfl, ⟨by decide +kernel, by decide +kernel⟩, by decide +kernel, by decide⟩
theorem ms_Mo_see : Cond.instanceMethod y_Mo_see ∈ gtbl ∧ Cond.selects jR10 y_Mo_see y_Mo_see ∈ gtbl := ⟨gt_of 1217 (by decide +kernel) rfl, gt_of 1218 (by decide +kernel) rfl⟩
def y_Mo_shire : MethodName := ⟨jR10, "shire", "()I"⟩
theorem mt_Mo_shire : Mt y_Mo_shire prog_13_method_16_code 3 (some .int) 0 := ⟨gt_of 1073 (by decide +kernel) rfl, gt_of 56 (by decide +kernel) rfl, ⟨by decide +kernel, by decide +kernel⟩, by decide +kernel, by decide⟩
theorem ms_Mo_shire : Cond.instanceMethod y_Mo_shire ∈ gtbl ∧ Cond.selects jR10 y_Mo_shire y_Mo_shire ∈ gtbl := ⟨gt_of 1071 (by decide +kernel) rfl, gt_of 1072 (by decide +kernel) rfl⟩
def y_Mo_suit : MethodName := ⟨jR10, "suit", "(II)I"⟩
theorem mt_Mo_suit : Mt y_Mo_suit prog_13_method_28_code 3 (some .int) 2 := ⟨gt_of 1108 (by decide +kernel) rfl, gt_of 56 (by decide +kernel) rfl, ⟨by decide +kernel, by decide +kernel⟩, by decide +kernel, by decide⟩
theorem ms_Mo_suit : Cond.instanceMethod y_Mo_suit ∈ gtbl ∧ Cond.selects jR10 y_Mo_suit y_Mo_suit ∈ gtbl := ⟨gt_of 1106 (by decide +kernel) rfl, gt_of 1107 (by decide +kernel) rfl⟩
def y_Mo_tree : MethodName := ⟨jR10, "tree", "(II)I"⟩
theorem mt_Mo_tree : Mt y_Mo_tree prog_13_method_26_code 3 (some .int) 2 := ⟨gt_of 1077 (by decide +kernel) rfl, gt_of 56 (by decide +kernel) rfl, ⟨by decide +kernel, by decide +kernel⟩, by decide +kernel, by decide⟩
theorem ms_Mo_tree : Cond.instanceMethod y_Mo_tree ∈ gtbl ∧ Cond.selects jR10 y_Mo_tree y_Mo_tree ∈ gtbl := ⟨gt_of 1075 (by decide +kernel) rfl, gt_of 1076 (by decide +kernel) rfl⟩
def y_Mo_walk : MethodName := ⟨jR10, "walk", "(I)I"⟩
theorem mt_Mo_walk : Mt y_Mo_walk prog_13_method_35_code 2 (some .int) 1 := ⟨gt_of 1164 (by decide +kernel) rfl, gt_of 56 (by decide +kernel) rfl, ⟨by decide +kernel, by decide +kernel⟩, by decide +kernel, by decide⟩
theorem ms_Mo_walk : Cond.instanceMethod y_Mo_walk ∈ gtbl ∧ Cond.selects jR10 y_Mo_walk y_Mo_walk ∈ gtbl := ⟨gt_of 1162 (by decide +kernel) rfl, gt_of 1163 (by decide +kernel) rfl⟩
def y_Mo_year : MethodName := ⟨jR10, "year", "()I"⟩
theorem mt_Mo_year : Mt y_Mo_year prog_13_method_32_code 1 (some .int) 0 := ⟨gt_of 1148 (by decide +kernel) rfl, gt_of 56 (by decide +kernel) rfl, ⟨by decide +kernel, by decide +kernel⟩, by decide +kernel, by decide⟩
theorem ms_Mo_year : Cond.instanceMethod y_Mo_year ∈ gtbl ∧ Cond.selects jR10 y_Mo_year y_Mo_year ∈ gtbl := ⟨gt_of 1146 (by decide +kernel) rfl, gt_of 1147 (by decide +kernel) rfl⟩
theorem fl_Cn_14 : Cond.fieldLink jR7 14 (jT7 1).1 (jT7 1).2.1 (jT7 1).2.2.1 ∈ gtbl := gt_of 234 (by decide +kernel) rfl
theorem fl_Cn_20 : Cond.fieldLink jR7 20 (jT7 2).1 (jT7 2).2.1 (jT7 2).2.2.1 ∈ gtbl := gt_of 235 (by decide +kernel) rfl
theorem fl_Cn_23 : Cond.fieldLink jR7 23 (jT7 0).1 (jT7 0).2.1 (jT7 0).2.2.1 ∈ gtbl := gt_of 233 (by decide +kernel) rfl
theorem fl_Cn_31 : Cond.fieldLink jR7 31 (jT7 4).1 (jT7 4).2.1 (jT7 4).2.2.1 ∈ gtbl := gt_of 237 (by decide +kernel) rfl
theorem fl_Cn_40 : Cond.fieldLink jR7 40 (jT7 3).1 (jT7 3).2.1 (jT7 3).2.2.1 ∈ gtbl := gt_of 236 (by decide +kernel) rfl
theorem fl_Fo_10 : Cond.fieldLink jR8 10 (jT8 1).1 (jT8 1).2.1 (jT8 1).2.2.1 ∈ gtbl := gt_of 258 (by decide +kernel) rfl
theorem fl_Fo_16 : Cond.fieldLink jR8 16 (jT8 0).1 (jT8 0).2.1 (jT8 0).2.2.1 ∈ gtbl := gt_of 257 (by decide +kernel) rfl
theorem fl_Fo_26 : Cond.fieldLink jR8 26 (jT8 2).1 (jT8 2).2.1 (jT8 2).2.2.1 ∈ gtbl := gt_of 259 (by decide +kernel) rfl
theorem fl_Gu_9 : Cond.fieldLink jR5 9 (jT5 0).1 (jT5 0).2.1 (jT5 0).2.2.1 ∈ gtbl := gt_of 194 (by decide +kernel) rfl
theorem fl_Pg_14 : Cond.fieldLink jR1 14 (jT1 0).1 (jT1 0).2.1 (jT1 0).2.2.1 ∈ gtbl := gt_of 90 (by decide +kernel) rfl
theorem fl_Pg_20 : Cond.fieldLink jR1 20 (jT1 1).1 (jT1 1).2.1 (jT1 1).2.2.1 ∈ gtbl := gt_of 91 (by decide +kernel) rfl
theorem fl_Pl_14 : Cond.fieldLink jR6 14 (jT6 1).1 (jT6 1).2.1 (jT6 1).2.2.1 ∈ gtbl := gt_of 207 (by decide +kernel) rfl
theorem fl_Pl_20 : Cond.fieldLink jR6 20 (jT6 2).1 (jT6 2).2.1 (jT6 2).2.2.1 ∈ gtbl := gt_of 208 (by decide +kernel) rfl
theorem fl_Pl_23 : Cond.fieldLink jR6 23 (jT6 3).1 (jT6 3).2.1 (jT6 3).2.2.1 ∈ gtbl := gt_of 209 (by decide +kernel) rfl
theorem fl_Pl_26 : Cond.fieldLink jR6 26 (jT6 0).1 (jT6 0).2.1 (jT6 0).2.2.1 ∈ gtbl := gt_of 206 (by decide +kernel) rfl
theorem fl_Pl_30 : Cond.fieldLink jR6 30 (jT6 4).1 (jT6 4).2.1 (jT6 4).2.2.1 ∈ gtbl := gt_of 210 (by decide +kernel) rfl
theorem fl_Pl_34 : Cond.fieldLink jR6 34 (jT6 5).1 (jT6 5).2.1 (jT6 5).2.2.1 ∈ gtbl := gt_of 211 (by decide +kernel) rfl
theorem fl_Rd_15 : Cond.fieldLink jR2 15 (jT2 1).1 (jT2 1).2.1 (jT2 1).2.2.1 ∈ gtbl := gt_of 104 (by decide +kernel) rfl
theorem fl_Rd_19 : Cond.fieldLink jR2 19 (jT2 2).1 (jT2 2).2.1 (jT2 2).2.2.1 ∈ gtbl := gt_of 105 (by decide +kernel) rfl
theorem fl_Rd_22 : Cond.fieldLink jR2 22 (jT2 3).1 (jT2 3).2.1 (jT2 3).2.2.1 ∈ gtbl := gt_of 106 (by decide +kernel) rfl
theorem fl_Rd_9 : Cond.fieldLink jR2 9 (jT2 0).1 (jT2 0).2.1 (jT2 0).2.2.1 ∈ gtbl := gt_of 103 (by decide +kernel) rfl
theorem fl_Rw_7 : Cond.fieldLink jR9 7 (jT9 0).1 (jT9 0).2.1 (jT9 0).2.2.1 ∈ gtbl := gt_of 85 (by decide +kernel) rfl
theorem fl_Sh_14 : Cond.fieldLink jR3 14 (jT3 2).1 (jT3 2).2.1 (jT3 2).2.2.1 ∈ gtbl := gt_of 147 (by decide +kernel) rfl
theorem fl_Sh_20 : Cond.fieldLink jR3 20 (jT3 3).1 (jT3 3).2.1 (jT3 3).2.2.1 ∈ gtbl := gt_of 148 (by decide +kernel) rfl
theorem fl_Sh_23 : Cond.fieldLink jR3 23 (jT3 4).1 (jT3 4).2.1 (jT3 4).2.2.1 ∈ gtbl := gt_of 149 (by decide +kernel) rfl
theorem fl_Sh_26 : Cond.fieldLink jR3 26 (jT3 5).1 (jT3 5).2.1 (jT3 5).2.2.1 ∈ gtbl := gt_of 150 (by decide +kernel) rfl
theorem fl_Sh_29 : Cond.fieldLink jR3 29 (jT3 6).1 (jT3 6).2.1 (jT3 6).2.2.1 ∈ gtbl := gt_of 151 (by decide +kernel) rfl
theorem fl_Sh_32 : Cond.fieldLink jR3 32 (jT3 7).1 (jT3 7).2.1 (jT3 7).2.2.1 ∈ gtbl := gt_of 152 (by decide +kernel) rfl
theorem fl_Sh_35 : Cond.fieldLink jR3 35 (jT3 8).1 (jT3 8).2.1 (jT3 8).2.2.1 ∈ gtbl := gt_of 153 (by decide +kernel) rfl
theorem fl_Sh_38 : Cond.fieldLink jR3 38 (jT3 9).1 (jT3 9).2.1 (jT3 9).2.2.1 ∈ gtbl := gt_of 154 (by decide +kernel) rfl
theorem fl_Sh_44 : Cond.fieldLink jR3 44 (jT3 10).1 (jT3 10).2.1 (jT3 10).2.2.1 ∈ gtbl := gt_of 155 (by decide +kernel) rfl
theorem fl_Sh_48 : Cond.fieldLink jR3 48 (jT3 0).1 (jT3 0).2.1 (jT3 0).2.2.1 ∈ gtbl := gt_of 145 (by decide +kernel) rfl
theorem fl_Sh_52 : Cond.fieldLink jR3 52 (jT3 1).1 (jT3 1).2.1 (jT3 1).2.2.1 ∈ gtbl := gt_of 146 (by decide +kernel) rfl
theorem fl_Sh_55 : Cond.fieldLink jR3 55 (jT3 11).1 (jT3 11).2.1 (jT3 11).2.2.1 ∈ gtbl := gt_of 156 (by decide +kernel) rfl
theorem fl_Sh_58 : Cond.fieldLink jR3 58 (jT3 12).1 (jT3 12).2.1 (jT3 12).2.2.1 ∈ gtbl := gt_of 157 (by decide +kernel) rfl
theorem fl_Sh_61 : Cond.fieldLink jR3 61 (jT3 13).1 (jT3 13).2.1 (jT3 13).2.2.1 ∈ gtbl := gt_of 158 (by decide +kernel) rfl
theorem fl_Si_14 : Cond.fieldLink jR4 14 (jT4 0).1 (jT4 0).2.1 (jT4 0).2.2.1 ∈ gtbl := gt_of 132 (by decide +kernel) rfl
theorem fl_Si_20 : Cond.fieldLink jR4 20 (jT4 1).1 (jT4 1).2.1 (jT4 1).2.2.1 ∈ gtbl := gt_of 133 (by decide +kernel) rfl
theorem fl_Si_23 : Cond.fieldLink jR4 23 (jT4 2).1 (jT4 2).2.1 (jT4 2).2.2.1 ∈ gtbl := gt_of 134 (by decide +kernel) rfl
theorem fl_Si_26 : Cond.fieldLink jR4 26 (jT4 3).1 (jT4 3).2.1 (jT4 3).2.2.1 ∈ gtbl := gt_of 135 (by decide +kernel) rfl
theorem fl_Co_10 : Cond.fieldLink jR0 10 (jT0 0).1 (jT0 0).2.1 (jT0 0).2.2.1 ∈ gtbl := gt_of 267 (by decide +kernel) rfl
theorem fl_Co_183 : Cond.fieldLink jR0 183 (jT0 10).1 (jT0 10).2.1 (jT0 10).2.2.1 ∈ gtbl := gt_of 277 (by decide +kernel) rfl
theorem fl_Co_21 : Cond.fieldLink jR0 21 (jT0 1).1 (jT0 1).2.1 (jT0 1).2.2.1 ∈ gtbl := gt_of 268 (by decide +kernel) rfl
theorem fl_Co_28 : Cond.fieldLink jR0 28 (jT0 2).1 (jT0 2).2.1 (jT0 2).2.2.1 ∈ gtbl := gt_of 269 (by decide +kernel) rfl
theorem fl_Co_32 : Cond.fieldLink jR0 32 (jT0 3).1 (jT0 3).2.1 (jT0 3).2.2.1 ∈ gtbl := gt_of 270 (by decide +kernel) rfl
theorem fl_Co_40 : Cond.fieldLink jR0 40 (jT0 4).1 (jT0 4).2.1 (jT0 4).2.2.1 ∈ gtbl := gt_of 271 (by decide +kernel) rfl
theorem fl_Co_47 : Cond.fieldLink jR0 47 (jT0 5).1 (jT0 5).2.1 (jT0 5).2.2.1 ∈ gtbl := gt_of 272 (by decide +kernel) rfl
theorem fl_Co_54 : Cond.fieldLink jR0 54 (jT0 6).1 (jT0 6).2.1 (jT0 6).2.2.1 ∈ gtbl := gt_of 273 (by decide +kernel) rfl
theorem fl_Co_61 : Cond.fieldLink jR0 61 (jT0 7).1 (jT0 7).2.1 (jT0 7).2.2.1 ∈ gtbl := gt_of 274 (by decide +kernel) rfl
theorem fl_Co_86 : Cond.fieldLink jR0 86 (jT0 8).1 (jT0 8).2.1 (jT0 8).2.2.1 ∈ gtbl := gt_of 275 (by decide +kernel) rfl
theorem fl_Co_90 : Cond.fieldLink jR0 90 (jT0 9).1 (jT0 9).2.1 (jT0 9).2.2.1 ∈ gtbl := gt_of 276 (by decide +kernel) rfl
theorem fl_Mo_101 : Cond.fieldLink jR10 101 (jT10 21).1 (jT10 21).2.1 (jT10 21).2.2.1 ∈ gtbl := gt_of 914 (by decide +kernel) rfl
theorem fl_Mo_107 : Cond.fieldLink jR10 107 (jT10 19).1 (jT10 19).2.1 (jT10 19).2.2.1 ∈ gtbl := gt_of 912 (by decide +kernel) rfl
theorem fl_Mo_111 : Cond.fieldLink jR10 111 (jT10 20).1 (jT10 20).2.1 (jT10 20).2.2.1 ∈ gtbl := gt_of 913 (by decide +kernel) rfl
theorem fl_Mo_121 : Cond.fieldLink jR10 121 (jT10 1).1 (jT10 1).2.1 (jT10 1).2.2.1 ∈ gtbl := gt_of 894 (by decide +kernel) rfl
theorem fl_Mo_124 : Cond.fieldLink jR10 124 (jT10 2).1 (jT10 2).2.1 (jT10 2).2.2.1 ∈ gtbl := gt_of 895 (by decide +kernel) rfl
theorem fl_Mo_127 : Cond.fieldLink jR10 127 (jT10 9).1 (jT10 9).2.1 (jT10 9).2.2.1 ∈ gtbl := gt_of 902 (by decide +kernel) rfl
theorem fl_Mo_13 : Cond.fieldLink jR10 13 (jT10 4).1 (jT10 4).2.1 (jT10 4).2.2.1 ∈ gtbl := gt_of 897 (by decide +kernel) rfl
theorem fl_Mo_130 : Cond.fieldLink jR10 130 (jT10 10).1 (jT10 10).2.1 (jT10 10).2.2.1 ∈ gtbl := gt_of 903 (by decide +kernel) rfl
theorem fl_Mo_133 : Cond.fieldLink jR10 133 (jT10 11).1 (jT10 11).2.1 (jT10 11).2.2.1 ∈ gtbl := gt_of 904 (by decide +kernel) rfl
theorem fl_Mo_136 : Cond.fieldLink jR10 136 (jT10 0).1 (jT10 0).2.1 (jT10 0).2.2.1 ∈ gtbl := gt_of 893 (by decide +kernel) rfl
theorem fl_Mo_139 : Cond.fieldLink jR10 139 (jT10 13).1 (jT10 13).2.1 (jT10 13).2.2.1 ∈ gtbl := gt_of 906 (by decide +kernel) rfl
theorem fl_Mo_16 : Cond.fieldLink jR10 16 (jT10 5).1 (jT10 5).2.1 (jT10 5).2.2.1 ∈ gtbl := gt_of 898 (by decide +kernel) rfl
theorem fl_Mo_19 : Cond.fieldLink jR10 19 (jT10 6).1 (jT10 6).2.1 (jT10 6).2.2.1 ∈ gtbl := gt_of 899 (by decide +kernel) rfl
theorem fl_Mo_190 : Cond.fieldLink jR10 190 (jT10 25).1 (jT10 25).2.1 (jT10 25).2.2.1 ∈ gtbl := gt_of 918 (by decide +kernel) rfl
theorem fl_Mo_193 : Cond.fieldLink jR10 193 (jT10 26).1 (jT10 26).2.1 (jT10 26).2.2.1 ∈ gtbl := gt_of 919 (by decide +kernel) rfl
theorem fl_Mo_204 : Cond.fieldLink jR10 204 (jT10 12).1 (jT10 12).2.1 (jT10 12).2.2.1 ∈ gtbl := gt_of 905 (by decide +kernel) rfl
theorem fl_Mo_22 : Cond.fieldLink jR10 22 (jT10 7).1 (jT10 7).2.1 (jT10 7).2.2.1 ∈ gtbl := gt_of 900 (by decide +kernel) rfl
theorem fl_Mo_234 : Cond.fieldLink jR10 234 (jT10 30).1 (jT10 30).2.1 (jT10 30).2.2.1 ∈ gtbl := gt_of 923 (by decide +kernel) rfl
theorem fl_Mo_25 : Cond.fieldLink jR10 25 (jT10 8).1 (jT10 8).2.1 (jT10 8).2.2.1 ∈ gtbl := gt_of 901 (by decide +kernel) rfl
theorem fl_Mo_251 : Cond.fieldLink jR10 251 (jT10 32).1 (jT10 32).2.1 (jT10 32).2.2.1 ∈ gtbl := gt_of 925 (by decide +kernel) rfl
theorem fl_Mo_254 : Cond.fieldLink jR10 254 (jT10 33).1 (jT10 33).2.1 (jT10 33).2.2.1 ∈ gtbl := gt_of 926 (by decide +kernel) rfl
theorem fl_Mo_257 : Cond.fieldLink jR10 257 (jT10 34).1 (jT10 34).2.1 (jT10 34).2.2.1 ∈ gtbl := gt_of 927 (by decide +kernel) rfl
theorem fl_Mo_260 : Cond.fieldLink jR10 260 (jT10 35).1 (jT10 35).2.1 (jT10 35).2.2.1 ∈ gtbl := gt_of 928 (by decide +kernel) rfl
theorem fl_Mo_263 : Cond.fieldLink jR10 263 (jT10 36).1 (jT10 36).2.1 (jT10 36).2.2.1 ∈ gtbl := gt_of 929 (by decide +kernel) rfl
theorem fl_Mo_266 : Cond.fieldLink jR10 266 (jT10 37).1 (jT10 37).2.1 (jT10 37).2.2.1 ∈ gtbl := gt_of 930 (by decide +kernel) rfl
theorem fl_Mo_277 : Cond.fieldLink jR10 277 (jT10 45).1 (jT10 45).2.1 (jT10 45).2.2.1 ∈ gtbl := gt_of 938 (by decide +kernel) rfl
theorem fl_Mo_28 : Cond.fieldLink jR10 28 (jT10 14).1 (jT10 14).2.1 (jT10 14).2.2.1 ∈ gtbl := gt_of 907 (by decide +kernel) rfl
theorem fl_Mo_31 : Cond.fieldLink jR10 31 (jT10 15).1 (jT10 15).2.1 (jT10 15).2.2.1 ∈ gtbl := gt_of 908 (by decide +kernel) rfl
theorem fl_Mo_34 : Cond.fieldLink jR10 34 (jT10 16).1 (jT10 16).2.1 (jT10 16).2.2.1 ∈ gtbl := gt_of 909 (by decide +kernel) rfl
theorem fl_Mo_37 : Cond.fieldLink jR10 37 (jT10 18).1 (jT10 18).2.1 (jT10 18).2.2.1 ∈ gtbl := gt_of 911 (by decide +kernel) rfl
theorem fl_Mo_41 : Cond.fieldLink jR10 41 (jT10 22).1 (jT10 22).2.1 (jT10 22).2.2.1 ∈ gtbl := gt_of 915 (by decide +kernel) rfl
theorem fl_Mo_44 : Cond.fieldLink jR10 44 (jT10 23).1 (jT10 23).2.1 (jT10 23).2.2.1 ∈ gtbl := gt_of 916 (by decide +kernel) rfl
theorem fl_Mo_47 : Cond.fieldLink jR10 47 (jT10 24).1 (jT10 24).2.1 (jT10 24).2.2.1 ∈ gtbl := gt_of 917 (by decide +kernel) rfl
theorem fl_Mo_50 : Cond.fieldLink jR10 50 (jT10 27).1 (jT10 27).2.1 (jT10 27).2.2.1 ∈ gtbl := gt_of 920 (by decide +kernel) rfl
theorem fl_Mo_53 : Cond.fieldLink jR10 53 (jT10 28).1 (jT10 28).2.1 (jT10 28).2.2.1 ∈ gtbl := gt_of 921 (by decide +kernel) rfl
theorem fl_Mo_56 : Cond.fieldLink jR10 56 (jT10 29).1 (jT10 29).2.1 (jT10 29).2.2.1 ∈ gtbl := gt_of 922 (by decide +kernel) rfl
theorem fl_Mo_59 : Cond.fieldLink jR10 59 (jT10 31).1 (jT10 31).2.1 (jT10 31).2.2.1 ∈ gtbl := gt_of 924 (by decide +kernel) rfl
theorem fl_Mo_62 : Cond.fieldLink jR10 62 (jT10 38).1 (jT10 38).2.1 (jT10 38).2.2.1 ∈ gtbl := gt_of 931 (by decide +kernel) rfl
theorem fl_Mo_65 : Cond.fieldLink jR10 65 (jT10 39).1 (jT10 39).2.1 (jT10 39).2.2.1 ∈ gtbl := gt_of 932 (by decide +kernel) rfl
theorem fl_Mo_68 : Cond.fieldLink jR10 68 (jT10 40).1 (jT10 40).2.1 (jT10 40).2.2.1 ∈ gtbl := gt_of 933 (by decide +kernel) rfl
theorem fl_Mo_7 : Cond.fieldLink jR10 7 (jT10 3).1 (jT10 3).2.1 (jT10 3).2.2.1 ∈ gtbl := gt_of 896 (by decide +kernel) rfl
theorem fl_Mo_71 : Cond.fieldLink jR10 71 (jT10 41).1 (jT10 41).2.1 (jT10 41).2.2.1 ∈ gtbl := gt_of 934 (by decide +kernel) rfl
theorem fl_Mo_74 : Cond.fieldLink jR10 74 (jT10 42).1 (jT10 42).2.1 (jT10 42).2.2.1 ∈ gtbl := gt_of 935 (by decide +kernel) rfl
theorem fl_Mo_77 : Cond.fieldLink jR10 77 (jT10 43).1 (jT10 43).2.1 (jT10 43).2.2.1 ∈ gtbl := gt_of 936 (by decide +kernel) rfl
theorem fl_Mo_80 : Cond.fieldLink jR10 80 (jT10 44).1 (jT10 44).2.1 (jT10 44).2.2.1 ∈ gtbl := gt_of 937 (by decide +kernel) rfl
theorem fl_Mo_87 : Cond.fieldLink jR10 87 (jT10 17).1 (jT10 17).2.1 (jT10 17).2.2.1 ∈ gtbl := gt_of 910 (by decide +kernel) rfl
theorem kc_Mo_196 : Cond.constant jR10 196 268435456 ∈ gtbl := gt_of 1136 (by decide +kernel) rfl
theorem kc_In_265 : Cond.constant "java/lang/Integer" 265 1431655765 ∈ gtbl := gt_of 576 (by decide +kernel) rfl
theorem kc_In_266 : Cond.constant "java/lang/Integer" 266 858993459 ∈ gtbl := gt_of 577 (by decide +kernel) rfl
theorem kc_In_267 : Cond.constant "java/lang/Integer" 267 252645135 ∈ gtbl := gt_of 578 (by decide +kernel) rfl
theorem kl_Fo_55 : Cond.constantLong jR8 55 1103515245 ∈ gtbl := gt_of 823 (by decide +kernel) rfl
theorem kl_Fo_57 : Cond.constantLong jR8 57 12345 ∈ gtbl := gt_of 824 (by decide +kernel) rfl
theorem kl_Fo_59 : Cond.constantLong jR8 59 2147483648 ∈ gtbl := gt_of 825 (by decide +kernel) rfl
theorem kl_Fo_61 : Cond.constantLong jR8 61 65536 ∈ gtbl := gt_of 826 (by decide +kernel) rfl
theorem kl_Co_255 : Cond.constantLong jR0 255 1229 ∈ gtbl := gt_of 876 (by decide +kernel) rfl
theorem kl_Co_279 : Cond.constantLong jR0 279 31 ∈ gtbl := gt_of 881 (by decide +kernel) rfl
theorem kl_Mo_232 : Cond.constantLong jR10 232 1103515245 ∈ gtbl := gt_of 1236 (by decide +kernel) rfl
theorem kl_Mo_238 : Cond.constantLong jR10 238 12345 ∈ gtbl := gt_of 1237 (by decide +kernel) rfl
theorem kl_Mo_240 : Cond.constantLong jR10 240 2147483647 ∈ gtbl := gt_of 1238 (by decide +kernel) rfl
theorem kl_Mo_242 : Cond.constantLong jR10 242 65536 ∈ gtbl := gt_of 1239 (by decide +kernel) rfl
theorem kl_Mo_275 : Cond.constantLong jR10 275 31 ∈ gtbl := gt_of 1269 (by decide +kernel) rfl
theorem kl_Mo_280 : Cond.constantLong jR10 280 1229 ∈ gtbl := gt_of 1264 (by decide +kernel) rfl
theorem ml_Ch_15 : Cond.methodLink "MistletoeCourt$Chances" 15 y_Ch_goodWays ∈ gtbl := gt_of 774 (by decide +kernel) rfl
theorem ml_Ch_9 : Cond.methodLink "MistletoeCourt$Chances" 9 Lib.Math.min.name ∈ gtbl := gt_of 773 (by decide +kernel) rfl
theorem ml_Cn_27 : Cond.methodLink jR7 27 y_Rw_at ∈ gtbl := gt_of 754 (by decide +kernel) rfl
theorem ml_Cn_35 : Cond.methodLink jR7 35 y_Sh_berries ∈ gtbl := gt_of 740 (by decide +kernel) rfl
theorem ml_Cn_42 : Cond.methodLink jR7 42 y_Sh_suits ∈ gtbl := gt_of 741 (by decide +kernel) rfl
theorem ml_Cn_46 : Cond.methodLink jR7 46 y_Sh_cost ∈ gtbl := gt_of 742 (by decide +kernel) rfl
theorem ml_Cn_49 : Cond.methodLink jR7 49 y_Rw_put ∈ gtbl := gt_of 743 (by decide +kernel) rfl
theorem ml_Cn_56 : Cond.methodLink jR7 56 y_Cn_bestLead ∈ gtbl := gt_of 745 (by decide +kernel) rfl
theorem ml_Cn_59 : Cond.methodLink jR7 59 y_Cn_costOf ∈ gtbl := gt_of 749 (by decide +kernel) rfl
theorem ml_Cn_62 : Cond.methodLink jR7 62 y_Sh_righted ∈ gtbl := gt_of 755 (by decide +kernel) rfl
theorem ml_Cn_65 : Cond.methodLink jR7 65 y_Sh_isOpen ∈ gtbl := gt_of 756 (by decide +kernel) rfl
theorem ml_Cn_69 : Cond.methodLink jR7 69 y_Sh_worth ∈ gtbl := gt_of 757 (by decide +kernel) rfl
theorem ml_Fo_19 : Cond.methodLink jR8 19 y_Sh_rightings ∈ gtbl := gt_of 835 (by decide +kernel) rfl
theorem ml_Fo_23 : Cond.methodLink jR8 23 y_Sh_holds ∈ gtbl := gt_of 840 (by decide +kernel) rfl
theorem ml_Fo_30 : Cond.methodLink jR8 30 y_Sh_copyFrom ∈ gtbl := gt_of 808 (by decide +kernel) rfl
theorem ml_Fo_34 : Cond.methodLink jR8 34 y_Sh_suits ∈ gtbl := gt_of 818 (by decide +kernel) rfl
theorem ml_Fo_37 : Cond.methodLink jR8 37 y_Fo_draw ∈ gtbl := gt_of 819 (by decide +kernel) rfl
theorem ml_Fo_41 : Cond.methodLink jR8 41 y_Sh_trees ∈ gtbl := gt_of 827 (by decide +kernel) rfl
theorem ml_Fo_44 : Cond.methodLink jR8 44 y_Sh_isPossible ∈ gtbl := gt_of 828 (by decide +kernel) rfl
theorem ml_Fo_48 : Cond.methodLink jR8 48 y_Sh_pluckAndRight ∈ gtbl := gt_of 829 (by decide +kernel) rfl
theorem ml_Fo_52 : Cond.methodLink jR8 52 y_Sh_passYear ∈ gtbl := gt_of 830 (by decide +kernel) rfl
theorem ml_Gu_15 : Cond.methodLink jR5 15 y_Sh_sightings ∈ gtbl := gt_of 583 (by decide +kernel) rfl
theorem ml_Gu_21 : Cond.methodLink jR5 21 y_Sh_costAtNeed ∈ gtbl := gt_of 587 (by decide +kernel) rfl
theorem ml_Gu_25 : Cond.methodLink jR5 25 y_Si_allow ∈ gtbl := gt_of 588 (by decide +kernel) rfl
theorem ml_Gu_35 : Cond.methodLink jR5 35 y_Gu_possibleNeeds ∈ gtbl := gt_of 598 (by decide +kernel) rfl
theorem ml_Gu_38 : Cond.methodLink jR5 38 y_Gu_leftAtWorst ∈ gtbl := gt_of 599 (by decide +kernel) rfl
theorem ml_Gu_45 : Cond.methodLink jR5 45 y_In_bitCount ∈ gtbl := gt_of 604 (by decide +kernel) rfl
theorem ml_Gu_50 : Cond.methodLink jR5 50 Lib.Math.max.name ∈ gtbl := gt_of 605 (by decide +kernel) rfl
theorem ml_Pg_24 : Cond.methodLink jR1 24 y_Rw_at ∈ gtbl := gt_of 338 (by decide +kernel) rfl
theorem ml_Pg_28 : Cond.methodLink jR1 28 y_Rw_put ∈ gtbl := gt_of 313 (by decide +kernel) rfl
theorem ml_Pl_37 : Cond.methodLink jR6 37 y_Sh_hasSuit ∈ gtbl := gt_of 723 (by decide +kernel) rfl
theorem ml_Pl_43 : Cond.methodLink jR6 43 y_Rw_at ∈ gtbl := gt_of 718 (by decide +kernel) rfl
theorem ml_Pl_47 : Cond.methodLink jR6 47 y_Sh_trees ∈ gtbl := gt_of 688 (by decide +kernel) rfl
theorem ml_Pl_51 : Cond.methodLink jR6 51 y_Sh_berries ∈ gtbl := gt_of 692 (by decide +kernel) rfl
theorem ml_Pl_54 : Cond.methodLink jR6 54 y_Rw_put ∈ gtbl := gt_of 693 (by decide +kernel) rfl
theorem ml_Pl_58 : Cond.methodLink jR6 58 y_Sh_righted ∈ gtbl := gt_of 694 (by decide +kernel) rfl
theorem ml_Pl_61 : Cond.methodLink jR6 61 y_Pl_placeFrom ∈ gtbl := gt_of 695 (by decide +kernel) rfl
theorem ml_Pl_65 : Cond.methodLink jR6 65 y_Pl_canBeBetter ∈ gtbl := gt_of 699 (by decide +kernel) rfl
theorem ml_Pl_69 : Cond.methodLink jR6 69 y_Sh_suits ∈ gtbl := gt_of 705 (by decide +kernel) rfl
theorem ml_Pl_72 : Cond.methodLink jR6 72 y_Sh_worthOf ∈ gtbl := gt_of 704 (by decide +kernel) rfl
theorem ml_Pl_75 : Cond.methodLink jR6 75 y_Rw_copyFrom ∈ gtbl := gt_of 706 (by decide +kernel) rfl
theorem ml_Pl_79 : Cond.methodLink jR6 79 y_Sh_isOpen ∈ gtbl := gt_of 711 (by decide +kernel) rfl
theorem ml_Pl_83 : Cond.methodLink jR6 83 y_Sh_rightedBehind ∈ gtbl := gt_of 712 (by decide +kernel) rfl
theorem ml_Pl_87 : Cond.methodLink jR6 87 y_Sh_cost ∈ gtbl := gt_of 713 (by decide +kernel) rfl
theorem ml_Pl_90 : Cond.methodLink jR6 90 y_Pl_placeAtEachTree ∈ gtbl := gt_of 714 (by decide +kernel) rfl
theorem ml_Rd_25 : Cond.methodLink jR2 25 y_Pg_size ∈ gtbl := gt_of 333 (by decide +kernel) rfl
theorem ml_Rd_31 : Cond.methodLink jR2 31 y_Pg_code ∈ gtbl := gt_of 334 (by decide +kernel) rfl
theorem ml_Rd_35 : Cond.methodLink jR2 35 y_Rd_takes ∈ gtbl := gt_of 342 (by decide +kernel) rfl
theorem ml_Rd_39 : Cond.methodLink jR2 39 y_Rd_firstFault ∈ gtbl := gt_of 461 (by decide +kernel) rfl
theorem ml_Rd_42 : Cond.methodLink jR2 42 y_Sh_begin ∈ gtbl := gt_of 466 (by decide +kernel) rfl
theorem ml_Rd_47 : Cond.methodLink jR2 47 y_Pg_digit ∈ gtbl := gt_of 474 (by decide +kernel) rfl
theorem ml_Rd_50 : Cond.methodLink jR2 50 y_Sh_addTree ∈ gtbl := gt_of 478 (by decide +kernel) rfl
theorem ml_Rd_56 : Cond.methodLink jR2 56 ⟨"java/lang/String", "indexOf", "(I)I"⟩ ∈ gtbl := gt_of 362 (by decide +kernel) rfl
theorem ml_Rd_61 : Cond.methodLink jR2 61 y_Sh_addSuit ∈ gtbl := gt_of 483 (by decide +kernel) rfl
theorem ml_Rd_65 : Cond.methodLink jR2 65 y_Rd_takesDigitOfTree ∈ gtbl := gt_of 346 (by decide +kernel) rfl
theorem ml_Rd_68 : Cond.methodLink jR2 68 y_Rd_takesTreeEnd ∈ gtbl := gt_of 357 (by decide +kernel) rfl
theorem ml_Rd_71 : Cond.methodLink jR2 71 y_Rd_goesOn ∈ gtbl := gt_of 353 (by decide +kernel) rfl
theorem ml_Rd_75 : Cond.methodLink jR2 75 y_Rd_isDigit ∈ gtbl := gt_of 350 (by decide +kernel) rfl
theorem ml_Rd_79 : Cond.methodLink jR2 79 y_Rd_takesHang ∈ gtbl := gt_of 448 (by decide +kernel) rfl
theorem ml_Rw_13 : Cond.methodLink jR9 13 y_Rw_at ∈ gtbl := gt_of 710 (by decide +kernel) rfl
theorem ml_Sh_102 : Cond.methodLink jR3 102 y_Sh_worthOf ∈ gtbl := gt_of 676 (by decide +kernel) rfl
theorem ml_Sh_109 : Cond.methodLink jR3 109 y_Sh_isOpen ∈ gtbl := gt_of 519 (by decide +kernel) rfl
theorem ml_Sh_112 : Cond.methodLink jR3 112 y_Sh_cost ∈ gtbl := gt_of 526 (by decide +kernel) rfl
theorem ml_Sh_115 : Cond.methodLink jR3 115 y_Sh_isPossible ∈ gtbl := gt_of 515 (by decide +kernel) rfl
theorem ml_Sh_118 : Cond.methodLink jR3 118 y_Sh_rightedBehind ∈ gtbl := gt_of 627 (by decide +kernel) rfl
theorem ml_Sh_121 : Cond.methodLink jR3 121 Lib.Math.min.name ∈ gtbl := gt_of 647 (by decide +kernel) rfl
theorem ml_Sh_64 : Cond.methodLink jR3 64 y_Si_clear ∈ gtbl := gt_of 470 (by decide +kernel) rfl
theorem ml_Sh_67 : Cond.methodLink jR3 67 y_Rw_put ∈ gtbl := gt_of 482 (by decide +kernel) rfl
theorem ml_Sh_71 : Cond.methodLink jR3 71 y_Rw_at ∈ gtbl := gt_of 487 (by decide +kernel) rfl
theorem ml_Sh_78 : Cond.methodLink jR3 78 y_Rw_copyFrom ∈ gtbl := gt_of 812 (by decide +kernel) rfl
theorem ml_Sh_82 : Cond.methodLink jR3 82 y_Si_copyFrom ∈ gtbl := gt_of 813 (by decide +kernel) rfl
theorem ml_Sh_85 : Cond.methodLink jR3 85 y_Rw_sum ∈ gtbl := gt_of 863 (by decide +kernel) rfl
theorem ml_Sh_88 : Cond.methodLink jR3 88 y_Sh_costAtNeed ∈ gtbl := gt_of 530 (by decide +kernel) rfl
theorem ml_Sh_92 : Cond.methodLink jR3 92 Lib.Math.max.name ∈ gtbl := gt_of 534 (by decide +kernel) rfl
theorem ml_Sh_97 : Cond.methodLink jR3 97 y_In_bitCount ∈ gtbl := gt_of 573 (by decide +kernel) rfl
theorem ml_Si_30 : Cond.methodLink jR4 30 y_Rw_put ∈ gtbl := gt_of 794 (by decide +kernel) rfl
theorem ml_Si_34 : Cond.methodLink jR4 34 y_Rw_copyFrom ∈ gtbl := gt_of 817 (by decide +kernel) rfl
theorem ml_Si_38 : Cond.methodLink jR4 38 y_Rw_at ∈ gtbl := gt_of 592 (by decide +kernel) rfl
theorem ml_Co_101 : Cond.methodLink jR0 101 y_Sh_berries ∈ gtbl := gt_of 503 (by decide +kernel) rfl
theorem ml_Co_105 : Cond.methodLink jR0 105 y_Sh_birdsAt ∈ gtbl := gt_of 507 (by decide +kernel) rfl
theorem ml_Co_108 : Cond.methodLink jR0 108 y_Sh_possibleAt ∈ gtbl := gt_of 511 (by decide +kernel) rfl
theorem ml_Co_111 : Cond.methodLink jR0 111 y_Sh_hasSuit ∈ gtbl := gt_of 539 (by decide +kernel) rfl
theorem ml_Co_114 : Cond.methodLink jR0 114 y_Sh_kind ∈ gtbl := gt_of 543 (by decide +kernel) rfl
theorem ml_Co_117 : Cond.methodLink jR0 117 y_Sh_need ∈ gtbl := gt_of 547 (by decide +kernel) rfl
theorem ml_Co_120 : Cond.methodLink jR0 120 y_Sh_worth ∈ gtbl := gt_of 551 (by decide +kernel) rfl
theorem ml_Co_123 : Cond.methodLink jR0 123 y_Sh_hangsOn ∈ gtbl := gt_of 555 (by decide +kernel) rfl
theorem ml_Co_126 : Cond.methodLink jR0 126 y_Sh_cost ∈ gtbl := gt_of 559 (by decide +kernel) rfl
theorem ml_Co_129 : Cond.methodLink jR0 129 y_Sh_righted ∈ gtbl := gt_of 560 (by decide +kernel) rfl
theorem ml_Co_132 : Cond.methodLink jR0 132 y_Co_has ∈ gtbl := gt_of 564 (by decide +kernel) rfl
theorem ml_Co_136 : Cond.methodLink jR0 136 y_Sh_below ∈ gtbl := gt_of 565 (by decide +kernel) rfl
theorem ml_Co_139 : Cond.methodLink jR0 139 y_Sh_shakes ∈ gtbl := gt_of 569 (by decide +kernel) rfl
theorem ml_Co_142 : Cond.methodLink jR0 142 y_Gu_possibleNeeds ∈ gtbl := gt_of 579 (by decide +kernel) rfl
theorem ml_Co_145 : Cond.methodLink jR0 145 y_Gu_bestTry ∈ gtbl := gt_of 594 (by decide +kernel) rfl
theorem ml_Co_148 : Cond.methodLink jR0 148 y_Sh_isOfKind ∈ gtbl := gt_of 610 (by decide +kernel) rfl
theorem ml_Co_151 : Cond.methodLink jR0 151 y_Sh_isPossible ∈ gtbl := gt_of 618 (by decide +kernel) rfl
theorem ml_Co_154 : Cond.methodLink jR0 154 y_Sh_rightings ∈ gtbl := gt_of 619 (by decide +kernel) rfl
theorem ml_Co_157 : Cond.methodLink jR0 157 y_Sh_pluckAndRight ∈ gtbl := gt_of 623 (by decide +kernel) rfl
theorem ml_Co_161 : Cond.methodLink jR0 161 y_Co_isRead ∈ gtbl := gt_of 635 (by decide +kernel) rfl
theorem ml_Co_164 : Cond.methodLink jR0 164 y_Sh_years ∈ gtbl := gt_of 639 (by decide +kernel) rfl
theorem ml_Co_167 : Cond.methodLink jR0 167 y_Sh_passYear ∈ gtbl := gt_of 643 (by decide +kernel) rfl
theorem ml_Co_170 : Cond.methodLink jR0 170 y_Sh_setBirds ∈ gtbl := gt_of 652 (by decide +kernel) rfl
theorem ml_Co_173 : Cond.methodLink jR0 173 y_Sh_setClaim ∈ gtbl := gt_of 660 (by decide +kernel) rfl
theorem ml_Co_177 : Cond.methodLink jR0 177 y_Sh_unright ∈ gtbl := gt_of 668 (by decide +kernel) rfl
theorem ml_Co_180 : Cond.methodLink jR0 180 y_Sh_holds ∈ gtbl := gt_of 672 (by decide +kernel) rfl
theorem ml_Co_186 : Cond.methodLink jR0 186 y_Pl_seek ∈ gtbl := gt_of 684 (by decide +kernel) rfl
theorem ml_Co_189 : Cond.methodLink jR0 189 y_Pl_placeOf ∈ gtbl := gt_of 719 (by decide +kernel) rfl
theorem ml_Co_192 : Cond.methodLink jR0 192 y_Pl_holds ∈ gtbl := gt_of 724 (by decide +kernel) rfl
theorem ml_Co_193 : Cond.methodLink jR0 193 y_Pl_spent ∈ gtbl := gt_of 728 (by decide +kernel) rfl
theorem ml_Co_196 : Cond.methodLink jR0 196 y_Cn_play ∈ gtbl := gt_of 736 (by decide +kernel) rfl
theorem ml_Co_199 : Cond.methodLink jR0 199 y_Cn_lead ∈ gtbl := gt_of 758 (by decide +kernel) rfl
theorem ml_Co_202 : Cond.methodLink jR0 202 y_Cn_opening ∈ gtbl := gt_of 762 (by decide +kernel) rfl
theorem ml_Co_211 : Cond.methodLink jR0 211 y_Ch_allWays ∈ gtbl := gt_of 775 (by decide +kernel) rfl
theorem ml_Co_215 : Cond.methodLink jR0 215 y_Ch_inLowestTerms ∈ gtbl := gt_of 778 (by decide +kernel) rfl
theorem ml_Co_219 : Cond.methodLink jR0 219 y_Sh_sightings ∈ gtbl := gt_of 785 (by decide +kernel) rfl
theorem ml_Co_223 : Cond.methodLink jR0 223 y_Si_size ∈ gtbl := gt_of 786 (by decide +kernel) rfl
theorem ml_Co_226 : Cond.methodLink jR0 226 y_Si_add ∈ gtbl := gt_of 790 (by decide +kernel) rfl
theorem ml_Co_229 : Cond.methodLink jR0 229 y_Si_clear ∈ gtbl := gt_of 799 (by decide +kernel) rfl
theorem ml_Co_230 : Cond.methodLink jR0 230 y_Fo_pass ∈ gtbl := gt_of 804 (by decide +kernel) rfl
theorem ml_Co_233 : Cond.methodLink jR0 233 y_Fo_rightings ∈ gtbl := gt_of 831 (by decide +kernel) rfl
theorem ml_Co_234 : Cond.methodLink jR0 234 y_Fo_holds ∈ gtbl := gt_of 836 (by decide +kernel) rfl
theorem ml_Co_235 : Cond.methodLink jR0 235 y_Fo_seed ∈ gtbl := gt_of 841 (by decide +kernel) rfl
theorem ml_Co_238 : Cond.methodLink jR0 238 y_Sh_copyFrom ∈ gtbl := gt_of 849 (by decide +kernel) rfl
theorem ml_Co_241 : Cond.methodLink jR0 241 y_Sh_trees ∈ gtbl := gt_of 858 (by decide +kernel) rfl
theorem ml_Co_244 : Cond.methodLink jR0 244 y_Sh_allBerries ∈ gtbl := gt_of 859 (by decide +kernel) rfl
theorem ml_Co_247 : Cond.methodLink jR0 247 y_Sh_allBirds ∈ gtbl := gt_of 867 (by decide +kernel) rfl
theorem ml_Co_250 : Cond.methodLink jR0 250 y_In_bitCount ∈ gtbl := gt_of 871 (by decide +kernel) rfl
theorem ml_Co_257 : Cond.methodLink jR0 257 y_Co_tree ∈ gtbl := gt_of 877 (by decide +kernel) rfl
theorem ml_Co_260 : Cond.methodLink jR0 260 y_Co_mixed ∈ gtbl := gt_of 878 (by decide +kernel) rfl
theorem ml_Co_264 : Cond.methodLink jR0 264 y_Co_game ∈ gtbl := gt_of 882 (by decide +kernel) rfl
theorem ml_Co_267 : Cond.methodLink jR0 267 y_Co_suit ∈ gtbl := gt_of 883 (by decide +kernel) rfl
theorem ml_Co_270 : Cond.methodLink jR0 270 y_Co_odds ∈ gtbl := gt_of 884 (by decide +kernel) rfl
theorem ml_Co_273 : Cond.methodLink jR0 273 y_Pg_code ∈ gtbl := gt_of 885 (by decide +kernel) rfl
theorem ml_Co_276 : Cond.methodLink jR0 276 y_Co_count ∈ gtbl := gt_of 886 (by decide +kernel) rfl
theorem ml_Co_65 : Cond.methodLink jR0 65 y_Pg_size ∈ gtbl := gt_of 305 (by decide +kernel) rfl
theorem ml_Co_69 : Cond.methodLink jR0 69 y_Pg_add ∈ gtbl := gt_of 309 (by decide +kernel) rfl
theorem ml_Co_73 : Cond.methodLink jR0 73 y_Pg_clear ∈ gtbl := gt_of 321 (by decide +kernel) rfl
theorem ml_Co_76 : Cond.methodLink jR0 76 y_Rd_firstFault ∈ gtbl := gt_of 329 (by decide +kernel) rfl
theorem ml_Co_79 : Cond.methodLink jR0 79 y_Rd_isWholeShire ∈ gtbl := gt_of 457 (by decide +kernel) rfl
theorem ml_Co_83 : Cond.methodLink jR0 83 y_Rd_readInto ∈ gtbl := gt_of 462 (by decide +kernel) rfl
theorem ml_Co_94 : Cond.methodLink jR0 94 y_Sh_suits ∈ gtbl := gt_of 491 (by decide +kernel) rfl
theorem ml_Co_97 : Cond.methodLink jR0 97 y_Sh_hasTree ∈ gtbl := gt_of 499 (by decide +kernel) rfl
theorem ml_Mo_104 : Cond.methodLink jR10 104 y_Mo_readCase ∈ gtbl := gt_of 1063 (by decide +kernel) rfl
theorem ml_Mo_114 : Cond.methodLink jR10 114 y_Mo_readCases ∈ gtbl := gt_of 1059 (by decide +kernel) rfl
theorem ml_Mo_117 : Cond.methodLink jR10 117 y_Mo_read ∈ gtbl := gt_of 1047 (by decide +kernel) rfl
theorem ml_Mo_142 : Cond.methodLink jR10 142 y_Mo_isIn ∈ gtbl := gt_of 1094 (by decide +kernel) rfl
theorem ml_Mo_146 : Cond.methodLink jR10 146 y_Mo_straight ∈ gtbl := gt_of 1101 (by decide +kernel) rfl
theorem ml_Mo_149 : Cond.methodLink jR10 149 y_Mo_isOpen ∈ gtbl := gt_of 1090 (by decide +kernel) rfl
theorem ml_Mo_152 : Cond.methodLink jR10 152 y_Mo_cost ∈ gtbl := gt_of 1097 (by decide +kernel) rfl
theorem ml_Mo_155 : Cond.methodLink jR10 155 y_Mo_mayRight ∈ gtbl := gt_of 1086 (by decide +kernel) rfl
theorem ml_Mo_158 : Cond.methodLink jR10 158 y_Mo_isTree ∈ gtbl := gt_of 1078 (by decide +kernel) rfl
theorem ml_Mo_162 : Cond.methodLink jR10 162 y_Mo_treeNow ∈ gtbl := gt_of 1082 (by decide +kernel) rfl
theorem ml_Mo_166 : Cond.methodLink jR10 166 y_Mo_allOn ∈ gtbl := gt_of 1117 (by decide +kernel) rfl
theorem ml_Mo_169 : Cond.methodLink jR10 169 y_Mo_size ∈ gtbl := gt_of 1121 (by decide +kernel) rfl
theorem ml_Mo_172 : Cond.methodLink jR10 172 y_Mo_needsOf ∈ gtbl := gt_of 1124 (by decide +kernel) rfl
theorem ml_Mo_175 : Cond.methodLink jR10 175 y_Mo_tryFor ∈ gtbl := gt_of 1132 (by decide +kernel) rfl
theorem ml_Mo_178 : Cond.methodLink jR10 178 y_Mo_isCase ∈ gtbl := gt_of 1109 (by decide +kernel) rfl
theorem ml_Mo_181 : Cond.methodLink jR10 181 y_Mo_suitNow ∈ gtbl := gt_of 1113 (by decide +kernel) rfl
theorem ml_Mo_184 : Cond.methodLink jR10 184 y_Mo_goYear ∈ gtbl := gt_of 1149 (by decide +kernel) rfl
theorem ml_Mo_187 : Cond.methodLink jR10 187 y_Mo_worthIn ∈ gtbl := gt_of 1165 (by decide +kernel) rfl
theorem ml_Mo_197 : Cond.methodLink jR10 197 y_Mo_canBe ∈ gtbl := gt_of 1177 (by decide +kernel) rfl
theorem ml_Mo_201 : Cond.methodLink jR10 201 y_Mo_nextRow ∈ gtbl := gt_of 1181 (by decide +kernel) rfl
theorem ml_Mo_207 : Cond.methodLink jR10 207 y_Mo_planNow ∈ gtbl := gt_of 1173 (by decide +kernel) rfl
theorem ml_Mo_210 : Cond.methodLink jR10 210 y_Mo_costIn ∈ gtbl := gt_of 1201 (by decide +kernel) rfl
theorem ml_Mo_213 : Cond.methodLink jR10 213 y_Mo_mayNext ∈ gtbl := gt_of 1197 (by decide +kernel) rfl
theorem ml_Mo_216 : Cond.methodLink jR10 216 y_Mo_bestNext ∈ gtbl := gt_of 1193 (by decide +kernel) rfl
theorem ml_Mo_219 : Cond.methodLink jR10 219 y_Mo_gameNow ∈ gtbl := gt_of 1189 (by decide +kernel) rfl
theorem ml_Mo_222 : Cond.methodLink jR10 222 y_Mo_divisor ∈ gtbl := gt_of 1213 (by decide +kernel) rfl
theorem ml_Mo_225 : Cond.methodLink jR10 225 y_Mo_oddsNow ∈ gtbl := gt_of 1209 (by decide +kernel) rfl
theorem ml_Mo_229 : Cond.methodLink jR10 229 y_Mo_costWith ∈ gtbl := gt_of 1128 (by decide +kernel) rfl
theorem ml_Mo_244 : Cond.methodLink jR10 244 y_Mo_draw ∈ gtbl := gt_of 1232 (by decide +kernel) rfl
theorem ml_Mo_247 : Cond.methodLink jR10 247 y_Mo_centuriesNow ∈ gtbl := gt_of 1228 (by decide +kernel) rfl
theorem ml_Mo_269 : Cond.methodLink jR10 269 y_Mo_ofTrees ∈ gtbl := gt_of 1256 (by decide +kernel) rfl
theorem ml_Mo_272 : Cond.methodLink jR10 272 y_Mo_howMany ∈ gtbl := gt_of 1252 (by decide +kernel) rfl
theorem ml_Mo_282 : Cond.methodLink jR10 282 y_Mo_mix ∈ gtbl := gt_of 1265 (by decide +kernel) rfl
theorem ml_Mo_83 : Cond.methodLink jR10 83 y_Mo_within ∈ gtbl := gt_of 1036 (by decide +kernel) rfl
theorem ml_Mo_91 : Cond.methodLink jR10 91 y_Mo_at ∈ gtbl := gt_of 1055 (by decide +kernel) rfl
theorem ml_Mo_95 : Cond.methodLink jR10 95 y_Mo_kindBy ∈ gtbl := gt_of 1067 (by decide +kernel) rfl
theorem ml_Mo_98 : Cond.methodLink jR10 98 y_Mo_isFigure ∈ gtbl := gt_of 1051 (by decide +kernel) rfl
theorem mn_Cn_53 : Cond.methodLinkNest jR7 53 y_Co_bit "MistletoeCourt" ∈ lw_tbl := List.mem_of_getElem? (i := 744) (by decide +kernel)
theorem mn_Cn_72 : Cond.methodLinkNest jR7 72 y_Co_has "MistletoeCourt" ∈ lw_tbl := List.mem_of_getElem? (i := 753) (by decide +kernel)
theorem mn_Gu_31 : Cond.methodLinkNest jR5 31 y_Co_bit "MistletoeCourt" ∈ lw_tbl := List.mem_of_getElem? (i := 593) (by decide +kernel)
theorem mn_Gu_42 : Cond.methodLinkNest jR5 42 y_Co_has "MistletoeCourt" ∈ lw_tbl := List.mem_of_getElem? (i := 603) (by decide +kernel)
theorem mn_Pl_93 : Cond.methodLinkNest jR6 93 y_Co_bit "MistletoeCourt" ∈ lw_tbl := List.mem_of_getElem? (i := 703) (by decide +kernel)
theorem mn_Sh_105 : Cond.methodLinkNest jR3 105 y_Co_has "MistletoeCourt" ∈ lw_tbl := List.mem_of_getElem? (i := 523) (by decide +kernel)
theorem mn_Sh_75 : Cond.methodLinkNest jR3 75 y_Co_bit "MistletoeCourt" ∈ lw_tbl := List.mem_of_getElem? (i := 488) (by decide +kernel)
theorem mn_Co_205 : Cond.methodLinkNest jR0 205 y_Ch_goodWays "MistletoeCourt" ∈ lw_tbl := List.mem_of_getElem? (i := 770) (by decide +kernel)
end
section
/-! CALLS and switches, with the function's own steps -/
theorem wp_case {β : Type} {q : Prop} [Decidable q] {x y : Option β} {K : β → Prop} (h : wpO (if q then x else y) K) : (q ∧ wpO x K) ∨ (¬ q ∧ wpO y K) := by
  by_cases hq : q
  · rw [if_pos hq] at h; exact Or.inl ⟨hq, h⟩
  · rw [if_neg hq] at h; exact Or.inr ⟨hq, h⟩
/-- the place of a letter among "cmuoa" -/
def kIndex (x : Int32) : Int32 := if x = 99 then 0 else if x = 109 then 1 else if x = 117 then 2 else if x = 111 then 3 else if x = 97 then 4 else -1
section VCALLS
variable {p : Program} {l : Launch} {e : Env} {R : Room} {s : State} {m : MethodId} {args : Array Value} {below : List Frame} {meth : Method} {c : Code} {own : String} {cc : ByteArray} {nL d : Nat} {D : va_G} {ad : Nat → Nat} {cI cB : ClassId} {A : Nat → Prop} {cells slots : Nat} {Q : State → Prop} {ws : va_W} {σ : Sg} {pc : Nat} {lv lv' : List (Nat × Value)} {st rest : List Value}
theorem V_cI (X : Cx p R s m args meth c own cc nL d D ad cI cB A cells slots) {β : Type} {f : Option Int32} {g : Int32 → Option β} {K : β → Prop} (h : wpO (bindV f g) K) (hc : ∀ r, f = some r → CallOK p l e R s m args below meth c nL D ad cI cB A cells slots σ σ pc st rest (some (.int r)))
    (kk : ∀ r, wpO (g r) K → V p l e R s m args below meth c nL D A cells slots Q (wl ad cI cB σ) (pc + 3) lv (.int r :: rest)) : V p l e R s m args below meth c nL D A cells slots Q (wl ad cI cB σ) pc lv st := by
  obtain ⟨r, e1, h1⟩ := wp_V h
  exact V_call X (hc r e1) (kk r h1)
theorem V_cL (X : Cx p R s m args meth c own cc nL d D ad cI cB A cells slots) {β : Type} {f : Option Int64} {g : Int64 → Option β} {K : β → Prop} (h : wpO (bindV f g) K) (hc : ∀ r, f = some r → CallOK p l e R s m args below meth c nL D ad cI cB A cells slots σ σ pc st rest (some (.long r)))
    (kk : ∀ r, wpO (g r) K → V p l e R s m args below meth c nL D A cells slots Q (wl ad cI cB σ) (pc + 3) lv (.long r :: rest)) : V p l e R s m args below meth c nL D A cells slots Q (wl ad cI cB σ) pc lv st := by
  obtain ⟨r, e1, h1⟩ := wp_V h
  exact V_call X (hc r e1) (kk r h1)
theorem V_cP (X : Cx p R s m args meth c own cc nL d D ad cI cB A cells slots) {β : Type} {f : Option (Int32 × Sg)} {g : Int32 → Sg → Option β} {K : β → Prop} (h : wpO (bindP f g) K) (hc : ∀ r σ', f = some (r, σ') → CallOK p l e R s m args below meth c nL D ad cI cB A cells slots σ σ' pc st rest (some (.int r)))
    (kk : ∀ r σ', wpO (g r σ') K → V p l e R s m args below meth c nL D A cells slots Q (wl ad cI cB σ') (pc + 3) lv (.int r :: rest)) : V p l e R s m args below meth c nL D A cells slots Q (wl ad cI cB σ) pc lv st := by
  obtain ⟨r, σ', e1, h1⟩ := wp_P h
  exact V_call X (hc r σ' e1) (kk r σ' h1)
theorem V_cPL (X : Cx p R s m args meth c own cc nL d D ad cI cB A cells slots) {β : Type} {f : Option (Int64 × Sg)} {g : Int64 → Sg → Option β} {K : β → Prop} (h : wpO (bindP f g) K) (hc : ∀ r σ', f = some (r, σ') → CallOK p l e R s m args below meth c nL D ad cI cB A cells slots σ σ' pc st rest (some (.long r)))
    (kk : ∀ r σ', wpO (g r σ') K → V p l e R s m args below meth c nL D A cells slots Q (wl ad cI cB σ') (pc + 3) lv (.long r :: rest)) : V p l e R s m args below meth c nL D A cells slots Q (wl ad cI cB σ) pc lv st := by
  obtain ⟨r, σ', e1, h1⟩ := wp_P h
  exact V_call X (hc r σ' e1) (kk r σ' h1)
theorem V_cV (X : Cx p R s m args meth c own cc nL d D ad cI cB A cells slots) {β : Type} {f : Option Sg} {g : Sg → Option β} {K : β → Prop} (h : wpO (bindV f g) K) (hc : ∀ σ', f = some σ' → CallOK p l e R s m args below meth c nL D ad cI cB A cells slots σ σ' pc st rest none)
    (kk : ∀ σ', wpO (g σ') K → V p l e R s m args below meth c nL D A cells slots Q (wl ad cI cB σ') (pc + 3) lv rest) : V p l e R s m args below meth c nL D A cells slots Q (wl ad cI cB σ) pc lv st := by
  obtain ⟨σ', e1, h1⟩ := wp_V h
  exact V_call X (hc σ' e1) (kk σ' h1)
theorem V_cR {t : Nat} (X : Cx p R s m args meth c own cc nL d D ad cI cB A cells slots) (hc : CallOK p l e R s m args below meth c nL D ad cI cB A cells slots σ σ pc st rest (some (.ref (ad t))))
    (kk : V p l e R s m args below meth c nL D A cells slots Q (wl ad cI cB σ) (pc + 3) lv (.ref (ad t) :: rest)) : V p l e R s m args below meth c nL D A cells slots Q (wl ad cI cB σ) pc lv st :=
  V_call X hc kk
theorem jv_r18 {rest : List Value} {d : Nat} {R : Room} (h1 : (rest.map fun v => v.category).sum ≤ 8) (h2 : 64 * d ≤ R.locals) (h3 : 1 ≤ d) : (rest.map fun v => v.category).sum + 13 ≤ R.locals := by omega
theorem V_mmax (X : Cx p R s m args meth c own cc nL d D ad cI cB A cells slots) {idx : Nat} {x y : Int32} (ml : Cond.methodLink own idx Lib.Math.max.name ∈ gtbl) (hd : decode cc pc = .ok (.invokestatic idx, 3)) (h1 : 1 ≤ d) (hr8 : (rest.map fun v => v.category).sum ≤ 8) (k : V p l e R s m args below meth c nL D A cells slots Q ws (pc + 3) lv (.int (if x < y then y else x) :: rest)) : V p l e R s m args below meth c nL D A cells slots Q ws pc lv (.int y :: .int x :: rest) :=
  fun H locs ls hP hD hS hl => va_mmax X.1 X.2.1 (X.2.2.1.trans hl.1.symm) X.2.2.2.1 (X.2.2.2.2.1 _ ml) (X.2.2.2.2.1 _ (gt_of 391 (by decide +kernel) rfl)) (X.2.2.2.2.1 _ (gt_of 59 (by decide +kernel) rfl)) (X.2.2.2.2.1 _ (gt_of 392 (by decide +kernel) rfl)) (Nat.le_trans h1 X.2.2.2.2.2.2.2.2.1.1) (jv_r18 hr8 X.2.2.2.2.2.2.2.2.1.2.1 h1) X.2.2.2.2.2.2.2.2.1.2.2.1 X.2.2.2.2.2.2.2.2.1.2.2.2 hd (k H locs ls hP hD hS hl)
theorem V_mmin (X : Cx p R s m args meth c own cc nL d D ad cI cB A cells slots) {idx : Nat} {x y : Int32} (ml : Cond.methodLink own idx Lib.Math.min.name ∈ gtbl) (hd : decode cc pc = .ok (.invokestatic idx, 3)) (h1 : 1 ≤ d) (hr8 : (rest.map fun v => v.category).sum ≤ 8) (k : V p l e R s m args below meth c nL D A cells slots Q ws (pc + 3) lv (.int (if y < x then y else x) :: rest)) : V p l e R s m args below meth c nL D A cells slots Q ws pc lv (.int y :: .int x :: rest) :=
  fun H locs ls hP hD hS hl => va_mmin X.1 X.2.1 (X.2.2.1.trans hl.1.symm) X.2.2.2.1 (X.2.2.2.2.1 _ ml) (X.2.2.2.2.1 _ (gt_of 394 (by decide +kernel) rfl)) (X.2.2.2.2.1 _ (gt_of 59 (by decide +kernel) rfl)) (X.2.2.2.2.1 _ (gt_of 395 (by decide +kernel) rfl)) (Nat.le_trans h1 X.2.2.2.2.2.2.2.2.1.1) (jv_r18 hr8 X.2.2.2.2.2.2.2.2.1.2.1 h1) X.2.2.2.2.2.2.2.2.1.2.2.1 X.2.2.2.2.2.2.2.2.1.2.2.2 hd (k H locs ls hP hD hS hl)
end VCALLS
end
