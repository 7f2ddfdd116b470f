section
-- ===== PART A: goes FIRST, ahead of the names: the tables' words, and 'selects' of the private methods out of them =====
/-- a private method of a class that the tables say can be made, by its rows of tables_1 -/
def lw_okq (q : MethodName × Nat) : Prop := (q.1.cls ≠ "java/lang/invoke/MethodHandle" ∧ q.1.cls ≠ "java/lang/invoke/VarHandle") ∧ Cond.instantiable q.1.cls q.2 ∈ tables_1 ∧ Cond.privateMethod q.1 ∈ tables_1 ∧ Cond.instanceMethod q.1 ∈ tables_1
theorem lw_p0 : lw_okq (⟨"MistletoeCourt$Reader", "takes", "(I)Z"⟩, 4) := ⟨⟨by decide +kernel, by decide +kernel⟩, List.mem_of_getElem? (i := 53) (by decide +kernel), List.mem_of_getElem? (i := 298) (by decide +kernel), List.mem_of_getElem? (i := 299) (by decide +kernel)⟩
theorem lw_p1 : lw_okq (⟨"MistletoeCourt$Reader", "takesDigitOfTree", "(I)Z"⟩, 4) := ⟨⟨by decide +kernel, by decide +kernel⟩, List.mem_of_getElem? (i := 53) (by decide +kernel), List.mem_of_getElem? (i := 302) (by decide +kernel), List.mem_of_getElem? (i := 303) (by decide +kernel)⟩
theorem lw_p2 : lw_okq (⟨"MistletoeCourt$Reader", "goesOn", "(ZI)Z"⟩, 4) := ⟨⟨by decide +kernel, by decide +kernel⟩, List.mem_of_getElem? (i := 53) (by decide +kernel), List.mem_of_getElem? (i := 309) (by decide +kernel), List.mem_of_getElem? (i := 310) (by decide +kernel)⟩
theorem lw_p3 : lw_okq (⟨"MistletoeCourt$Reader", "takesTreeEnd", "(I)Z"⟩, 4) := ⟨⟨by decide +kernel, by decide +kernel⟩, List.mem_of_getElem? (i := 53) (by decide +kernel), List.mem_of_getElem? (i := 313) (by decide +kernel), List.mem_of_getElem? (i := 314) (by decide +kernel)⟩
theorem lw_p4 : lw_okq (⟨"MistletoeCourt$Reader", "takesHang", "(I)Z"⟩, 4) := ⟨⟨by decide +kernel, by decide +kernel⟩, List.mem_of_getElem? (i := 53) (by decide +kernel), List.mem_of_getElem? (i := 404) (by decide +kernel), List.mem_of_getElem? (i := 405) (by decide +kernel)⟩
theorem lw_p5 : lw_okq (⟨"MistletoeCourt$Guesser", "leftAtWorst", "(III)I"⟩, 1) := ⟨⟨by decide +kernel, by decide +kernel⟩, List.mem_of_getElem? (i := 144) (by decide +kernel), List.mem_of_getElem? (i := 555) (by decide +kernel), List.mem_of_getElem? (i := 556) (by decide +kernel)⟩
theorem lw_p6 : lw_okq (⟨"MistletoeCourt", "isRead", "()Z"⟩, 11) := ⟨⟨by decide +kernel, by decide +kernel⟩, List.mem_of_getElem? (i := 21) (by decide +kernel), List.mem_of_getElem? (i := 591) (by decide +kernel), List.mem_of_getElem? (i := 592) (by decide +kernel)⟩
theorem lw_p7 : lw_okq (⟨"MistletoeCourt$Planner", "placeFrom", "(III)V"⟩, 6) := ⟨⟨by decide +kernel, by decide +kernel⟩, List.mem_of_getElem? (i := 154) (by decide +kernel), List.mem_of_getElem? (i := 651) (by decide +kernel), List.mem_of_getElem? (i := 652) (by decide +kernel)⟩
theorem lw_p8 : lw_okq (⟨"MistletoeCourt$Planner", "canBeBetter", "(III)Z"⟩, 6) := ⟨⟨by decide +kernel, by decide +kernel⟩, List.mem_of_getElem? (i := 154) (by decide +kernel), List.mem_of_getElem? (i := 655) (by decide +kernel), List.mem_of_getElem? (i := 656) (by decide +kernel)⟩
theorem lw_p9 : lw_okq (⟨"MistletoeCourt$Planner", "placeAtEachTree", "(III)V"⟩, 6) := ⟨⟨by decide +kernel, by decide +kernel⟩, List.mem_of_getElem? (i := 154) (by decide +kernel), List.mem_of_getElem? (i := 670) (by decide +kernel), List.mem_of_getElem? (i := 671) (by decide +kernel)⟩
theorem lw_p10 : lw_okq (⟨"MistletoeCourt$Contest", "bestLead", "(I)I"⟩, 5) := ⟨⟨by decide +kernel, by decide +kernel⟩, List.mem_of_getElem? (i := 181) (by decide +kernel), List.mem_of_getElem? (i := 701) (by decide +kernel), List.mem_of_getElem? (i := 702) (by decide +kernel)⟩
theorem lw_p11 : lw_okq (⟨"MistletoeCourt$Contest", "costOf", "(I)I"⟩, 5) := ⟨⟨by decide +kernel, by decide +kernel⟩, List.mem_of_getElem? (i := 181) (by decide +kernel), List.mem_of_getElem? (i := 705) (by decide +kernel), List.mem_of_getElem? (i := 706) (by decide +kernel)⟩
theorem lw_p12 : lw_okq (⟨"MistletoeCourt$Foresight", "draw", "(I)I"⟩, 3) := ⟨⟨by decide +kernel, by decide +kernel⟩, List.mem_of_getElem? (i := 205) (by decide +kernel), List.mem_of_getElem? (i := 775) (by decide +kernel), List.mem_of_getElem? (i := 776) (by decide +kernel)⟩
theorem lw_p13 : lw_okq (⟨"MistletoeCourtModel", "read", "()I"⟩, 46) := ⟨⟨by decide +kernel, by decide +kernel⟩, List.mem_of_getElem? (i := 843) (by decide +kernel), List.mem_of_getElem? (i := 1003) (by decide +kernel), List.mem_of_getElem? (i := 1004) (by decide +kernel)⟩
theorem lw_p14 : lw_okq (⟨"MistletoeCourtModel", "isFigure", "(III)Z"⟩, 46) := ⟨⟨by decide +kernel, by decide +kernel⟩, List.mem_of_getElem? (i := 843) (by decide +kernel), List.mem_of_getElem? (i := 1007) (by decide +kernel), List.mem_of_getElem? (i := 1008) (by decide +kernel)⟩
theorem lw_p15 : lw_okq (⟨"MistletoeCourtModel", "at", "(I)I"⟩, 46) := ⟨⟨by decide +kernel, by decide +kernel⟩, List.mem_of_getElem? (i := 843) (by decide +kernel), List.mem_of_getElem? (i := 1011) (by decide +kernel), List.mem_of_getElem? (i := 1012) (by decide +kernel)⟩
def lw_privs_1 : List (MethodName × Nat) := [(⟨"MistletoeCourt$Reader", "takes", "(I)Z"⟩, 4), (⟨"MistletoeCourt$Reader", "takesDigitOfTree", "(I)Z"⟩, 4), (⟨"MistletoeCourt$Reader", "goesOn", "(ZI)Z"⟩, 4), (⟨"MistletoeCourt$Reader", "takesTreeEnd", "(I)Z"⟩, 4), (⟨"MistletoeCourt$Reader", "takesHang", "(I)Z"⟩, 4), (⟨"MistletoeCourt$Guesser", "leftAtWorst", "(III)I"⟩, 1), (⟨"MistletoeCourt", "isRead", "()Z"⟩, 11), (⟨"MistletoeCourt$Planner", "placeFrom", "(III)V"⟩, 6), (⟨"MistletoeCourt$Planner", "canBeBetter", "(III)Z"⟩, 6), (⟨"MistletoeCourt$Planner", "placeAtEachTree", "(III)V"⟩, 6), (⟨"MistletoeCourt$Contest", "bestLead", "(I)I"⟩, 5), (⟨"MistletoeCourt$Contest", "costOf", "(I)I"⟩, 5), (⟨"MistletoeCourt$Foresight", "draw", "(I)I"⟩, 3), (⟨"MistletoeCourtModel", "read", "()I"⟩, 46), (⟨"MistletoeCourtModel", "isFigure", "(III)Z"⟩, 46), (⟨"MistletoeCourtModel", "at", "(I)I"⟩, 46)]
theorem lw_r1 : ∀ q ∈ lw_privs_1, lw_okq q := List.forall_mem_cons.mpr ⟨lw_p0, List.forall_mem_cons.mpr ⟨lw_p1, List.forall_mem_cons.mpr ⟨lw_p2, List.forall_mem_cons.mpr ⟨lw_p3, List.forall_mem_cons.mpr ⟨lw_p4, List.forall_mem_cons.mpr ⟨lw_p5, List.forall_mem_cons.mpr ⟨lw_p6, List.forall_mem_cons.mpr ⟨lw_p7, List.forall_mem_cons.mpr ⟨lw_p8, List.forall_mem_cons.mpr ⟨lw_p9, List.forall_mem_cons.mpr ⟨lw_p10, List.forall_mem_cons.mpr ⟨lw_p11, List.forall_mem_cons.mpr ⟨lw_p12, List.forall_mem_cons.mpr ⟨lw_p13, List.forall_mem_cons.mpr ⟨lw_p14, List.forall_mem_cons.mpr ⟨lw_p15, fun _ h => absurd h List.not_mem_nil⟩⟩⟩⟩⟩⟩⟩⟩⟩⟩⟩⟩⟩⟩⟩⟩
theorem lw_p16 : lw_okq (⟨"MistletoeCourtModel", "readCases", "(I)I"⟩, 46) := ⟨⟨by decide +kernel, by decide +kernel⟩, List.mem_of_getElem? (i := 843) (by decide +kernel), List.mem_of_getElem? (i := 1015) (by decide +kernel), List.mem_of_getElem? (i := 1016) (by decide +kernel)⟩
theorem lw_p17 : lw_okq (⟨"MistletoeCourtModel", "readCase", "(I)I"⟩, 46) := ⟨⟨by decide +kernel, by decide +kernel⟩, List.mem_of_getElem? (i := 843) (by decide +kernel), List.mem_of_getElem? (i := 1019) (by decide +kernel), List.mem_of_getElem? (i := 1020) (by decide +kernel)⟩
theorem lw_p18 : lw_okq (⟨"MistletoeCourtModel", "isTree", "(I)Z"⟩, 46) := ⟨⟨by decide +kernel, by decide +kernel⟩, List.mem_of_getElem? (i := 843) (by decide +kernel), List.mem_of_getElem? (i := 1034) (by decide +kernel), List.mem_of_getElem? (i := 1035) (by decide +kernel)⟩
theorem lw_p19 : lw_okq (⟨"MistletoeCourtModel", "treeNow", "(II)I"⟩, 46) := ⟨⟨by decide +kernel, by decide +kernel⟩, List.mem_of_getElem? (i := 843) (by decide +kernel), List.mem_of_getElem? (i := 1038) (by decide +kernel), List.mem_of_getElem? (i := 1039) (by decide +kernel)⟩
theorem lw_p20 : lw_okq (⟨"MistletoeCourtModel", "mayRight", "(II)Z"⟩, 46) := ⟨⟨by decide +kernel, by decide +kernel⟩, List.mem_of_getElem? (i := 843) (by decide +kernel), List.mem_of_getElem? (i := 1042) (by decide +kernel), List.mem_of_getElem? (i := 1043) (by decide +kernel)⟩
theorem lw_p21 : lw_okq (⟨"MistletoeCourtModel", "isOpen", "(II)Z"⟩, 46) := ⟨⟨by decide +kernel, by decide +kernel⟩, List.mem_of_getElem? (i := 843) (by decide +kernel), List.mem_of_getElem? (i := 1046) (by decide +kernel), List.mem_of_getElem? (i := 1047) (by decide +kernel)⟩
theorem lw_p22 : lw_okq (⟨"MistletoeCourtModel", "cost", "(I)I"⟩, 46) := ⟨⟨by decide +kernel, by decide +kernel⟩, List.mem_of_getElem? (i := 843) (by decide +kernel), List.mem_of_getElem? (i := 1053) (by decide +kernel), List.mem_of_getElem? (i := 1054) (by decide +kernel)⟩
theorem lw_p23 : lw_okq (⟨"MistletoeCourtModel", "straight", "(I)I"⟩, 46) := ⟨⟨by decide +kernel, by decide +kernel⟩, List.mem_of_getElem? (i := 843) (by decide +kernel), List.mem_of_getElem? (i := 1057) (by decide +kernel), List.mem_of_getElem? (i := 1058) (by decide +kernel)⟩
theorem lw_p24 : lw_okq (⟨"MistletoeCourtModel", "isCase", "(I)Z"⟩, 46) := ⟨⟨by decide +kernel, by decide +kernel⟩, List.mem_of_getElem? (i := 843) (by decide +kernel), List.mem_of_getElem? (i := 1065) (by decide +kernel), List.mem_of_getElem? (i := 1066) (by decide +kernel)⟩
theorem lw_p25 : lw_okq (⟨"MistletoeCourtModel", "suitNow", "(II)I"⟩, 46) := ⟨⟨by decide +kernel, by decide +kernel⟩, List.mem_of_getElem? (i := 843) (by decide +kernel), List.mem_of_getElem? (i := 1069) (by decide +kernel), List.mem_of_getElem? (i := 1070) (by decide +kernel)⟩
theorem lw_p26 : lw_okq (⟨"MistletoeCourtModel", "allOn", "(I)I"⟩, 46) := ⟨⟨by decide +kernel, by decide +kernel⟩, List.mem_of_getElem? (i := 843) (by decide +kernel), List.mem_of_getElem? (i := 1073) (by decide +kernel), List.mem_of_getElem? (i := 1074) (by decide +kernel)⟩
theorem lw_p27 : lw_okq (⟨"MistletoeCourtModel", "needsOf", "(I)I"⟩, 46) := ⟨⟨by decide +kernel, by decide +kernel⟩, List.mem_of_getElem? (i := 843) (by decide +kernel), List.mem_of_getElem? (i := 1080) (by decide +kernel), List.mem_of_getElem? (i := 1081) (by decide +kernel)⟩
theorem lw_p28 : lw_okq (⟨"MistletoeCourtModel", "costWith", "(II)I"⟩, 46) := ⟨⟨by decide +kernel, by decide +kernel⟩, List.mem_of_getElem? (i := 843) (by decide +kernel), List.mem_of_getElem? (i := 1084) (by decide +kernel), List.mem_of_getElem? (i := 1085) (by decide +kernel)⟩
theorem lw_p29 : lw_okq (⟨"MistletoeCourtModel", "tryFor", "(I)I"⟩, 46) := ⟨⟨by decide +kernel, by decide +kernel⟩, List.mem_of_getElem? (i := 843) (by decide +kernel), List.mem_of_getElem? (i := 1088) (by decide +kernel), List.mem_of_getElem? (i := 1089) (by decide +kernel)⟩
theorem lw_p30 : lw_okq (⟨"MistletoeCourtModel", "goYear", "()V"⟩, 46) := ⟨⟨by decide +kernel, by decide +kernel⟩, List.mem_of_getElem? (i := 843) (by decide +kernel), List.mem_of_getElem? (i := 1105) (by decide +kernel), List.mem_of_getElem? (i := 1106) (by decide +kernel)⟩
theorem lw_p31 : lw_okq (⟨"MistletoeCourtModel", "worthIn", "(I)I"⟩, 46) := ⟨⟨by decide +kernel, by decide +kernel⟩, List.mem_of_getElem? (i := 843) (by decide +kernel), List.mem_of_getElem? (i := 1121) (by decide +kernel), List.mem_of_getElem? (i := 1122) (by decide +kernel)⟩
def lw_privs_2 : List (MethodName × Nat) := [(⟨"MistletoeCourtModel", "readCases", "(I)I"⟩, 46), (⟨"MistletoeCourtModel", "readCase", "(I)I"⟩, 46), (⟨"MistletoeCourtModel", "isTree", "(I)Z"⟩, 46), (⟨"MistletoeCourtModel", "treeNow", "(II)I"⟩, 46), (⟨"MistletoeCourtModel", "mayRight", "(II)Z"⟩, 46), (⟨"MistletoeCourtModel", "isOpen", "(II)Z"⟩, 46), (⟨"MistletoeCourtModel", "cost", "(I)I"⟩, 46), (⟨"MistletoeCourtModel", "straight", "(I)I"⟩, 46), (⟨"MistletoeCourtModel", "isCase", "(I)Z"⟩, 46), (⟨"MistletoeCourtModel", "suitNow", "(II)I"⟩, 46), (⟨"MistletoeCourtModel", "allOn", "(I)I"⟩, 46), (⟨"MistletoeCourtModel", "needsOf", "(I)I"⟩, 46), (⟨"MistletoeCourtModel", "costWith", "(II)I"⟩, 46), (⟨"MistletoeCourtModel", "tryFor", "(I)I"⟩, 46), (⟨"MistletoeCourtModel", "goYear", "()V"⟩, 46), (⟨"MistletoeCourtModel", "worthIn", "(I)I"⟩, 46)]
theorem lw_r2 : ∀ q ∈ lw_privs_2, lw_okq q := List.forall_mem_cons.mpr ⟨lw_p16, List.forall_mem_cons.mpr ⟨lw_p17, List.forall_mem_cons.mpr ⟨lw_p18, List.forall_mem_cons.mpr ⟨lw_p19, List.forall_mem_cons.mpr ⟨lw_p20, List.forall_mem_cons.mpr ⟨lw_p21, List.forall_mem_cons.mpr ⟨lw_p22, List.forall_mem_cons.mpr ⟨lw_p23, List.forall_mem_cons.mpr ⟨lw_p24, List.forall_mem_cons.mpr ⟨lw_p25, List.forall_mem_cons.mpr ⟨lw_p26, List.forall_mem_cons.mpr ⟨lw_p27, List.forall_mem_cons.mpr ⟨lw_p28, List.forall_mem_cons.mpr ⟨lw_p29, List.forall_mem_cons.mpr ⟨lw_p30, List.forall_mem_cons.mpr ⟨lw_p31, fun _ h => absurd h List.not_mem_nil⟩⟩⟩⟩⟩⟩⟩⟩⟩⟩⟩⟩⟩⟩⟩⟩
theorem lw_p32 : lw_okq (⟨"MistletoeCourtModel", "planNow", "(I)I"⟩, 46) := ⟨⟨by decide +kernel, by decide +kernel⟩, List.mem_of_getElem? (i := 843) (by decide +kernel), List.mem_of_getElem? (i := 1129) (by decide +kernel), List.mem_of_getElem? (i := 1130) (by decide +kernel)⟩
theorem lw_p33 : lw_okq (⟨"MistletoeCourtModel", "canBe", "()Z"⟩, 46) := ⟨⟨by decide +kernel, by decide +kernel⟩, List.mem_of_getElem? (i := 843) (by decide +kernel), List.mem_of_getElem? (i := 1133) (by decide +kernel), List.mem_of_getElem? (i := 1134) (by decide +kernel)⟩
theorem lw_p34 : lw_okq (⟨"MistletoeCourtModel", "nextRow", "()Z"⟩, 46) := ⟨⟨by decide +kernel, by decide +kernel⟩, List.mem_of_getElem? (i := 843) (by decide +kernel), List.mem_of_getElem? (i := 1137) (by decide +kernel), List.mem_of_getElem? (i := 1138) (by decide +kernel)⟩
theorem lw_p35 : lw_okq (⟨"MistletoeCourtModel", "gameNow", "(II)I"⟩, 46) := ⟨⟨by decide +kernel, by decide +kernel⟩, List.mem_of_getElem? (i := 843) (by decide +kernel), List.mem_of_getElem? (i := 1145) (by decide +kernel), List.mem_of_getElem? (i := 1146) (by decide +kernel)⟩
theorem lw_p36 : lw_okq (⟨"MistletoeCourtModel", "bestNext", "(II)I"⟩, 46) := ⟨⟨by decide +kernel, by decide +kernel⟩, List.mem_of_getElem? (i := 843) (by decide +kernel), List.mem_of_getElem? (i := 1149) (by decide +kernel), List.mem_of_getElem? (i := 1150) (by decide +kernel)⟩
theorem lw_p37 : lw_okq (⟨"MistletoeCourtModel", "mayNext", "(III)Z"⟩, 46) := ⟨⟨by decide +kernel, by decide +kernel⟩, List.mem_of_getElem? (i := 843) (by decide +kernel), List.mem_of_getElem? (i := 1153) (by decide +kernel), List.mem_of_getElem? (i := 1154) (by decide +kernel)⟩
theorem lw_p38 : lw_okq (⟨"MistletoeCourtModel", "costIn", "(I)I"⟩, 46) := ⟨⟨by decide +kernel, by decide +kernel⟩, List.mem_of_getElem? (i := 843) (by decide +kernel), List.mem_of_getElem? (i := 1157) (by decide +kernel), List.mem_of_getElem? (i := 1158) (by decide +kernel)⟩
theorem lw_p39 : lw_okq (⟨"MistletoeCourtModel", "oddsNow", "(IIII)I"⟩, 46) := ⟨⟨by decide +kernel, by decide +kernel⟩, List.mem_of_getElem? (i := 843) (by decide +kernel), List.mem_of_getElem? (i := 1165) (by decide +kernel), List.mem_of_getElem? (i := 1166) (by decide +kernel)⟩
theorem lw_p40 : lw_okq (⟨"MistletoeCourtModel", "centuriesNow", "(III)I"⟩, 46) := ⟨⟨by decide +kernel, by decide +kernel⟩, List.mem_of_getElem? (i := 843) (by decide +kernel), List.mem_of_getElem? (i := 1184) (by decide +kernel), List.mem_of_getElem? (i := 1185) (by decide +kernel)⟩
theorem lw_p41 : lw_okq (⟨"MistletoeCourtModel", "draw", "(I)I"⟩, 46) := ⟨⟨by decide +kernel, by decide +kernel⟩, List.mem_of_getElem? (i := 843) (by decide +kernel), List.mem_of_getElem? (i := 1188) (by decide +kernel), List.mem_of_getElem? (i := 1189) (by decide +kernel)⟩
theorem lw_p42 : lw_okq (⟨"MistletoeCourtModel", "howMany", "(I)I"⟩, 46) := ⟨⟨by decide +kernel, by decide +kernel⟩, List.mem_of_getElem? (i := 843) (by decide +kernel), List.mem_of_getElem? (i := 1208) (by decide +kernel), List.mem_of_getElem? (i := 1209) (by decide +kernel)⟩
theorem lw_p43 : lw_okq (⟨"MistletoeCourtModel", "ofTrees", "(I)I"⟩, 46) := ⟨⟨by decide +kernel, by decide +kernel⟩, List.mem_of_getElem? (i := 843) (by decide +kernel), List.mem_of_getElem? (i := 1212) (by decide +kernel), List.mem_of_getElem? (i := 1213) (by decide +kernel)⟩
theorem lw_p44 : lw_okq (⟨"MistletoeCourtModel", "mix", "(J)V"⟩, 46) := ⟨⟨by decide +kernel, by decide +kernel⟩, List.mem_of_getElem? (i := 843) (by decide +kernel), List.mem_of_getElem? (i := 1221) (by decide +kernel), List.mem_of_getElem? (i := 1222) (by decide +kernel)⟩
def lw_privs_3 : List (MethodName × Nat) := [(⟨"MistletoeCourtModel", "planNow", "(I)I"⟩, 46), (⟨"MistletoeCourtModel", "canBe", "()Z"⟩, 46), (⟨"MistletoeCourtModel", "nextRow", "()Z"⟩, 46), (⟨"MistletoeCourtModel", "gameNow", "(II)I"⟩, 46), (⟨"MistletoeCourtModel", "bestNext", "(II)I"⟩, 46), (⟨"MistletoeCourtModel", "mayNext", "(III)Z"⟩, 46), (⟨"MistletoeCourtModel", "costIn", "(I)I"⟩, 46), (⟨"MistletoeCourtModel", "oddsNow", "(IIII)I"⟩, 46), (⟨"MistletoeCourtModel", "centuriesNow", "(III)I"⟩, 46), (⟨"MistletoeCourtModel", "draw", "(I)I"⟩, 46), (⟨"MistletoeCourtModel", "howMany", "(I)I"⟩, 46), (⟨"MistletoeCourtModel", "ofTrees", "(I)I"⟩, 46), (⟨"MistletoeCourtModel", "mix", "(J)V"⟩, 46)]
theorem lw_r3 : ∀ q ∈ lw_privs_3, lw_okq q := List.forall_mem_cons.mpr ⟨lw_p32, List.forall_mem_cons.mpr ⟨lw_p33, List.forall_mem_cons.mpr ⟨lw_p34, List.forall_mem_cons.mpr ⟨lw_p35, List.forall_mem_cons.mpr ⟨lw_p36, List.forall_mem_cons.mpr ⟨lw_p37, List.forall_mem_cons.mpr ⟨lw_p38, List.forall_mem_cons.mpr ⟨lw_p39, List.forall_mem_cons.mpr ⟨lw_p40, List.forall_mem_cons.mpr ⟨lw_p41, List.forall_mem_cons.mpr ⟨lw_p42, List.forall_mem_cons.mpr ⟨lw_p43, List.forall_mem_cons.mpr ⟨lw_p44, fun _ h => absurd h List.not_mem_nil⟩⟩⟩⟩⟩⟩⟩⟩⟩⟩⟩⟩⟩
def lw_privs : List (MethodName × Nat) := lw_privs_1 ++ (lw_privs_2 ++ (lw_privs_3))
def lw_tbl : List Cond := k2_sels lw_privs ++ tables_1
theorem lw_privs_ok : ∀ q ∈ lw_privs, lw_okq q := by
  show ∀ q ∈ lw_privs_1 ++ (lw_privs_2 ++ (lw_privs_3)), lw_okq q
  exact List.forall_mem_append.mpr ⟨lw_r1, List.forall_mem_append.mpr ⟨lw_r2, lw_r3⟩⟩
end
section
/-! THE FRAME: after the constructors the heap has a fixed shape of 116 cells; the state is what the ints, the arrays and the longs hold -/
def gtbl : List Cond := lw_tbl.filter goodWord
theorem gt_of {w : Cond} (i : Nat) (h : lw_tbl[i]? = some w) (hg : goodWord w = true) : w ∈ gtbl := List.mem_filter.mpr ⟨List.mem_of_getElem? h, hg⟩
def jR0 : String := "MistletoeCourt"
def jT0 : u_T := fun k => match k with
  | 0 => ("MistletoeCourt", "page", "LMistletoeCourt$Page;", true)
  | 1 => ("MistletoeCourt", "reader", "LMistletoeCourt$Reader;", true)
  | 2 => ("MistletoeCourt", "now", "LMistletoeCourt$Shire;", true)
  | 3 => ("MistletoeCourt", "kept", "LMistletoeCourt$Shire;", true)
  | 4 => ("MistletoeCourt", "guesser", "LMistletoeCourt$Guesser;", true)
  | 5 => ("MistletoeCourt", "planner", "LMistletoeCourt$Planner;", true)
  | 6 => ("MistletoeCourt", "contest", "LMistletoeCourt$Contest;", true)
  | 7 => ("MistletoeCourt", "foresight", "LMistletoeCourt$Foresight;", true)
  | 8 => ("MistletoeCourt", "isKept", "Z", false)
  | 9 => ("MistletoeCourt", "readings", "I", false)
  | _ => ("MistletoeCourt", "plans", "I", false)
def jt0 : Nat → FieldType := fun k => match k with
  | 0 => .object "MistletoeCourt$Page"
  | 1 => .object "MistletoeCourt$Reader"
  | 2 => .object "MistletoeCourt$Shire"
  | 3 => .object "MistletoeCourt$Shire"
  | 4 => .object "MistletoeCourt$Guesser"
  | 5 => .object "MistletoeCourt$Planner"
  | 6 => .object "MistletoeCourt$Contest"
  | 7 => .object "MistletoeCourt$Foresight"
  | 8 => .boolean
  | 9 => .int
  | _ => .int
theorem jn0 : ∀ a, a < 11 → ∀ b, b < 11 → a ≠ b → (jT0 a).2.1 ≠ (jT0 b).2.1 := by decide +kernel
theorem jk0 : ∀ k, k < 11 → parseFieldDescriptor (jT0 k).2.2.1 = some (jt0 k) := by decide +kernel
theorem ji0 : ∀ w ∈ u_ws jR0 jT0 11, w ∈ gtbl := by decide +kernel
def jR1 : String := "MistletoeCourt$Page"
def jT1 : u_T := fun k => match k with
  | 0 => ("MistletoeCourt$Page", "codes", "LMistletoeCourt$Row;", true)
  | _ => ("MistletoeCourt$Page", "size", "I", false)
def jt1 : Nat → FieldType := fun k => match k with
  | 0 => .object "MistletoeCourt$Row"
  | _ => .int
theorem jn1 : ∀ a, a < 2 → ∀ b, b < 2 → a ≠ b → (jT1 a).2.1 ≠ (jT1 b).2.1 := by decide +kernel
theorem jk1 : ∀ k, k < 2 → parseFieldDescriptor (jT1 k).2.2.1 = some (jt1 k) := by decide +kernel
theorem ji1 : ∀ w ∈ u_ws jR1 jT1 2, w ∈ gtbl := by decide +kernel
def jR2 : String := "MistletoeCourt$Reader"
def jT2 : u_T := fun k => match k with
  | 0 => ("MistletoeCourt$Reader", "page", "LMistletoeCourt$Page;", true)
  | 1 => ("MistletoeCourt$Reader", "part", "I", false)
  | 2 => ("MistletoeCourt$Reader", "trees", "I", false)
  | _ => ("MistletoeCourt$Reader", "suits", "I", false)
def jt2 : Nat → FieldType := fun k => match k with
  | 0 => .object "MistletoeCourt$Page"
  | 1 => .int
  | 2 => .int
  | _ => .int
theorem jn2 : ∀ a, a < 4 → ∀ b, b < 4 → a ≠ b → (jT2 a).2.1 ≠ (jT2 b).2.1 := by decide +kernel
theorem jk2 : ∀ k, k < 4 → parseFieldDescriptor (jT2 k).2.2.1 = some (jt2 k) := by decide +kernel
theorem ji2 : ∀ w ∈ u_ws jR2 jT2 4, w ∈ gtbl := by decide +kernel
def jR3 : String := "MistletoeCourt$Shire"
def jT3 : u_T := fun k => match k with
  | 0 => ("MistletoeCourt$Shire", "trees", "I", false)
  | 1 => ("MistletoeCourt$Shire", "suits", "I", false)
  | 2 => ("MistletoeCourt$Shire", "berries", "LMistletoeCourt$Row;", true)
  | 3 => ("MistletoeCourt$Shire", "birds", "LMistletoeCourt$Row;", true)
  | 4 => ("MistletoeCourt$Shire", "kinds", "LMistletoeCourt$Row;", true)
  | 5 => ("MistletoeCourt$Shire", "needs", "LMistletoeCourt$Row;", true)
  | 6 => ("MistletoeCourt$Shire", "worths", "LMistletoeCourt$Row;", true)
  | 7 => ("MistletoeCourt$Shire", "hangs", "LMistletoeCourt$Row;", true)
  | 8 => ("MistletoeCourt$Shire", "straight", "LMistletoeCourt$Row;", true)
  | 9 => ("MistletoeCourt$Shire", "below", "LMistletoeCourt$Row;", true)
  | 10 => ("MistletoeCourt$Shire", "sightings", "LMistletoeCourt$Sightings;", true)
  | 11 => ("MistletoeCourt$Shire", "righted", "I", false)
  | 12 => ("MistletoeCourt$Shire", "years", "I", false)
  | _ => ("MistletoeCourt$Shire", "rightings", "I", false)
def jt3 : Nat → FieldType := fun k => match k with
  | 0 => .int
  | 1 => .int
  | 2 => .object "MistletoeCourt$Row"
  | 3 => .object "MistletoeCourt$Row"
  | 4 => .object "MistletoeCourt$Row"
  | 5 => .object "MistletoeCourt$Row"
  | 6 => .object "MistletoeCourt$Row"
  | 7 => .object "MistletoeCourt$Row"
  | 8 => .object "MistletoeCourt$Row"
  | 9 => .object "MistletoeCourt$Row"
  | 10 => .object "MistletoeCourt$Sightings"
  | 11 => .int
  | 12 => .int
  | _ => .int
theorem jn3 : ∀ a, a < 14 → ∀ b, b < 14 → a ≠ b → (jT3 a).2.1 ≠ (jT3 b).2.1 := by decide +kernel
theorem jk3 : ∀ k, k < 14 → parseFieldDescriptor (jT3 k).2.2.1 = some (jt3 k) := by decide +kernel
theorem ji3 : ∀ w ∈ u_ws jR3 jT3 14, w ∈ gtbl := by decide +kernel
def jR4 : String := "MistletoeCourt$Sightings"
def jT4 : u_T := fun k => match k with
  | 0 => ("MistletoeCourt$Sightings", "suits", "LMistletoeCourt$Row;", true)
  | 1 => ("MistletoeCourt$Sightings", "berries", "LMistletoeCourt$Row;", true)
  | 2 => ("MistletoeCourt$Sightings", "enough", "LMistletoeCourt$Row;", true)
  | _ => ("MistletoeCourt$Sightings", "size", "I", false)
def jt4 : Nat → FieldType := fun k => match k with
  | 0 => .object "MistletoeCourt$Row"
  | 1 => .object "MistletoeCourt$Row"
  | 2 => .object "MistletoeCourt$Row"
  | _ => .int
theorem jn4 : ∀ a, a < 4 → ∀ b, b < 4 → a ≠ b → (jT4 a).2.1 ≠ (jT4 b).2.1 := by decide +kernel
theorem jk4 : ∀ k, k < 4 → parseFieldDescriptor (jT4 k).2.2.1 = some (jt4 k) := by decide +kernel
theorem ji4 : ∀ w ∈ u_ws jR4 jT4 4, w ∈ gtbl := by decide +kernel
def jR5 : String := "MistletoeCourt$Guesser"
def jT5 : u_T := fun k => match k with
  | _ => ("MistletoeCourt$Guesser", "shire", "LMistletoeCourt$Shire;", true)
def jt5 : Nat → FieldType := fun k => match k with
  | _ => .object "MistletoeCourt$Shire"
theorem jn5 : ∀ a, a < 1 → ∀ b, b < 1 → a ≠ b → (jT5 a).2.1 ≠ (jT5 b).2.1 := by decide +kernel
theorem jk5 : ∀ k, k < 1 → parseFieldDescriptor (jT5 k).2.2.1 = some (jt5 k) := by decide +kernel
theorem ji5 : ∀ w ∈ u_ws jR5 jT5 1, w ∈ gtbl := by decide +kernel
def jR6 : String := "MistletoeCourt$Planner"
def jT6 : u_T := fun k => match k with
  | 0 => ("MistletoeCourt$Planner", "shire", "LMistletoeCourt$Shire;", true)
  | 1 => ("MistletoeCourt$Planner", "left", "LMistletoeCourt$Row;", true)
  | 2 => ("MistletoeCourt$Planner", "places", "LMistletoeCourt$Row;", true)
  | 3 => ("MistletoeCourt$Planner", "bestPlaces", "LMistletoeCourt$Row;", true)
  | 4 => ("MistletoeCourt$Planner", "bestHolds", "I", false)
  | _ => ("MistletoeCourt$Planner", "bestSpent", "I", false)
def jt6 : Nat → FieldType := fun k => match k with
  | 0 => .object "MistletoeCourt$Shire"
  | 1 => .object "MistletoeCourt$Row"
  | 2 => .object "MistletoeCourt$Row"
  | 3 => .object "MistletoeCourt$Row"
  | 4 => .int
  | _ => .int
theorem jn6 : ∀ a, a < 6 → ∀ b, b < 6 → a ≠ b → (jT6 a).2.1 ≠ (jT6 b).2.1 := by decide +kernel
theorem jk6 : ∀ k, k < 6 → parseFieldDescriptor (jT6 k).2.2.1 = some (jt6 k) := by decide +kernel
theorem ji6 : ∀ w ∈ u_ws jR6 jT6 6, w ∈ gtbl := by decide +kernel
def jR7 : String := "MistletoeCourt$Contest"
def jT7 : u_T := fun k => match k with
  | 0 => ("MistletoeCourt$Contest", "shire", "LMistletoeCourt$Shire;", true)
  | 1 => ("MistletoeCourt$Contest", "leads", "LMistletoeCourt$Row;", true)
  | 2 => ("MistletoeCourt$Contest", "costs", "LMistletoeCourt$Row;", true)
  | 3 => ("MistletoeCourt$Contest", "berries", "I", false)
  | _ => ("MistletoeCourt$Contest", "opening", "I", false)
def jt7 : Nat → FieldType := fun k => match k with
  | 0 => .object "MistletoeCourt$Shire"
  | 1 => .object "MistletoeCourt$Row"
  | 2 => .object "MistletoeCourt$Row"
  | 3 => .int
  | _ => .int
theorem jn7 : ∀ a, a < 5 → ∀ b, b < 5 → a ≠ b → (jT7 a).2.1 ≠ (jT7 b).2.1 := by decide +kernel
theorem jk7 : ∀ k, k < 5 → parseFieldDescriptor (jT7 k).2.2.1 = some (jt7 k) := by decide +kernel
theorem ji7 : ∀ w ∈ u_ws jR7 jT7 5, w ∈ gtbl := by decide +kernel
def jR8 : String := "MistletoeCourt$Foresight"
def jT8 : u_T := fun k => match k with
  | 0 => ("MistletoeCourt$Foresight", "real", "LMistletoeCourt$Shire;", true)
  | 1 => ("MistletoeCourt$Foresight", "would", "LMistletoeCourt$Shire;", true)
  | _ => ("MistletoeCourt$Foresight", "seed", "J", false)
def jt8 : Nat → FieldType := fun k => match k with
  | 0 => .object "MistletoeCourt$Shire"
  | 1 => .object "MistletoeCourt$Shire"
  | _ => .long
theorem jn8 : ∀ a, a < 3 → ∀ b, b < 3 → a ≠ b → (jT8 a).2.1 ≠ (jT8 b).2.1 := by decide +kernel
theorem jk8 : ∀ k, k < 3 → parseFieldDescriptor (jT8 k).2.2.1 = some (jt8 k) := by decide +kernel
theorem ji8 : ∀ w ∈ u_ws jR8 jT8 3, w ∈ gtbl := by decide +kernel
def jR9 : String := "MistletoeCourt$Row"
def jT9 : u_T := fun k => match k with
  | _ => ("MistletoeCourt$Row", "cells", "[I", true)
def jt9 : Nat → FieldType := fun k => match k with
  | _ => .array .int
theorem jn9 : ∀ a, a < 1 → ∀ b, b < 1 → a ≠ b → (jT9 a).2.1 ≠ (jT9 b).2.1 := by decide +kernel
theorem jk9 : ∀ k, k < 1 → parseFieldDescriptor (jT9 k).2.2.1 = some (jt9 k) := by decide +kernel
theorem ji9 : ∀ w ∈ u_ws jR9 jT9 1, w ∈ gtbl := by decide +kernel
def jR10 : String := "MistletoeCourtModel"
def jT10 : u_T := fun k => match k with
  | 0 => ("MistletoeCourtModel", "shires", "I", false)
  | 1 => ("MistletoeCourtModel", "trees", "I", false)
  | 2 => ("MistletoeCourtModel", "cases", "I", false)
  | 3 => ("MistletoeCourtModel", "berriesOf", "[I", true)
  | 4 => ("MistletoeCourtModel", "birdsOf", "[I", true)
  | 5 => ("MistletoeCourtModel", "kindOf", "[I", true)
  | 6 => ("MistletoeCourtModel", "needOf", "[I", true)
  | 7 => ("MistletoeCourtModel", "worthOf", "[I", true)
  | 8 => ("MistletoeCourtModel", "hangsOn", "[I", true)
  | 9 => ("MistletoeCourtModel", "righted", "I", false)
  | 10 => ("MistletoeCourtModel", "often", "I", false)
  | 11 => ("MistletoeCourtModel", "years", "I", false)
  | 12 => ("MistletoeCourtModel", "asks", "I", false)
  | 13 => ("MistletoeCourtModel", "seen", "I", false)
  | 14 => ("MistletoeCourtModel", "seenSuit", "[I", true)
  | 15 => ("MistletoeCourtModel", "seenBerries", "[I", true)
  | 16 => ("MistletoeCourtModel", "seenEnough", "[I", true)
  | 17 => ("MistletoeCourtModel", "pageLength", "I", false)
  | 18 => ("MistletoeCourtModel", "page", "[B", true)
  | 19 => ("MistletoeCourtModel", "isWhole", "Z", false)
  | 20 => ("MistletoeCourtModel", "newTrees", "I", false)
  | 21 => ("MistletoeCourtModel", "newCases", "I", false)
  | 22 => ("MistletoeCourtModel", "row", "[I", true)
  | 23 => ("MistletoeCourtModel", "bestRow", "[I", true)
  | 24 => ("MistletoeCourtModel", "left", "[I", true)
  | 25 => ("MistletoeCourtModel", "done", "I", false)
  | 26 => ("MistletoeCourtModel", "plucked", "I", false)
  | 27 => ("MistletoeCourtModel", "moreBy", "[I", true)
  | 28 => ("MistletoeCourtModel", "ways", "[I", true)
  | 29 => ("MistletoeCourtModel", "nextWays", "[I", true)
  | 30 => ("MistletoeCourtModel", "seedNow", "J", false)
  | 31 => ("MistletoeCourtModel", "savedBerries", "[I", true)
  | 32 => ("MistletoeCourtModel", "isKept", "Z", false)
  | 33 => ("MistletoeCourtModel", "keptShire", "I", false)
  | 34 => ("MistletoeCourtModel", "keptRighted", "I", false)
  | 35 => ("MistletoeCourtModel", "keptOften", "I", false)
  | 36 => ("MistletoeCourtModel", "keptYears", "I", false)
  | 37 => ("MistletoeCourtModel", "keptSeen", "I", false)
  | 38 => ("MistletoeCourtModel", "keptBerries", "[I", true)
  | 39 => ("MistletoeCourtModel", "keptBirds", "[I", true)
  | 40 => ("MistletoeCourtModel", "keptNeed", "[I", true)
  | 41 => ("MistletoeCourtModel", "keptWorth", "[I", true)
  | 42 => ("MistletoeCourtModel", "keptSuit", "[I", true)
  | 43 => ("MistletoeCourtModel", "keptTried", "[I", true)
  | 44 => ("MistletoeCourtModel", "keptEnough", "[I", true)
  | _ => ("MistletoeCourtModel", "h", "J", false)
def jt10 : Nat → FieldType := fun k => match k with
  | 0 => .int
  | 1 => .int
  | 2 => .int
  | 3 => .array .int
  | 4 => .array .int
  | 5 => .array .int
  | 6 => .array .int
  | 7 => .array .int
  | 8 => .array .int
  | 9 => .int
  | 10 => .int
  | 11 => .int
  | 12 => .int
  | 13 => .int
  | 14 => .array .int
  | 15 => .array .int
  | 16 => .array .int
  | 17 => .int
  | 18 => .array .byte
  | 19 => .boolean
  | 20 => .int
  | 21 => .int
  | 22 => .array .int
  | 23 => .array .int
  | 24 => .array .int
  | 25 => .int
  | 26 => .int
  | 27 => .array .int
  | 28 => .array .int
  | 29 => .array .int
  | 30 => .long
  | 31 => .array .int
  | 32 => .boolean
  | 33 => .int
  | 34 => .int
  | 35 => .int
  | 36 => .int
  | 37 => .int
  | 38 => .array .int
  | 39 => .array .int
  | 40 => .array .int
  | 41 => .array .int
  | 42 => .array .int
  | 43 => .array .int
  | 44 => .array .int
  | _ => .long
theorem jn10 : ∀ a, a < 46 → ∀ b, b < 46 → a ≠ b → (jT10 a).2.1 ≠ (jT10 b).2.1 := by decide +kernel
theorem jk10 : ∀ k, k < 46 → parseFieldDescriptor (jT10 k).2.2.1 = some (jt10 k) := by decide +kernel
theorem ji10 : ∀ w ∈ u_ws jR10 jT10 46, w ∈ gtbl := by decide +kernel
abbrev classes : List vw_C := [(jR0, jT0, 11), (jR1, jT1, 2), (jR2, jT2, 4), (jR3, jT3, 14), (jR4, jT4, 4), (jR5, jT5, 1), (jR6, jT6, 6), (jR7, jT7, 5), (jR8, jT8, 3), (jR9, jT9, 1), (jR10, jT10, 46)]
def jv_cls (k : Nat) : Nat := ([0, 1, 9, 100, 2, 3, 9, 100, 9, 100, 9, 100, 9, 100, 9, 100, 9, 100, 9, 100, 9, 100, 4, 9, 100, 9, 100, 9, 100, 3, 9, 100, 9, 100, 9, 100, 9, 100, 9, 100, 9, 100, 9, 100, 9, 100, 4, 9, 100, 9, 100, 9, 100, 5, 6, 9, 100, 9, 100, 9, 100, 7, 9, 100, 9, 100, 8, 3, 9, 100, 9, 100, 9, 100, 9, 100, 9, 100, 9, 100, 9, 100, 9, 100, 4, 9, 100, 9, 100, 9, 100, 10, 100, 100, 100, 100, 100, 100, 100, 100, 100, 101, 100, 100, 100, 100, 100, 100, 100, 100, 100, 100, 100, 100, 100, 100] : List Nat).getD k 99
def jv_ln (k : Nat) : Nat := ([0, 0, 0, 46, 0, 0, 0, 3, 0, 3, 0, 7, 0, 7, 0, 7, 0, 7, 0, 7, 0, 7, 0, 0, 8, 0, 8, 0, 8, 0, 0, 3, 0, 3, 0, 7, 0, 7, 0, 7, 0, 7, 0, 7, 0, 7, 0, 0, 8, 0, 8, 0, 8, 0, 0, 0, 3, 0, 7, 0, 7, 0, 0, 128, 0, 7, 0, 0, 0, 3, 0, 3, 0, 7, 0, 7, 0, 7, 0, 7, 0, 7, 0, 7, 0, 0, 8, 0, 8, 0, 8, 0, 3, 3, 7, 7, 7, 7, 8, 8, 8, 46, 7, 7, 3, 128, 21, 21, 3, 3, 3, 7, 7, 8, 8, 8] : List Nat).getD k 0
def jv_rf (k j : Nat) : Nat := (([[1, 4, 5, 29, 53, 54, 61, 66, 0, 0, 0], [2, 0], [3], [], [1, 0, 0, 0], [0, 0, 6, 8, 10, 12, 14, 16, 18, 20, 22, 0, 0, 0], [7], [], [9], [], [11], [], [13], [], [15], [], [17], [], [19], [], [21], [], [23, 25, 27, 0], [24], [], [26], [], [28], [], [0, 0, 30, 32, 34, 36, 38, 40, 42, 44, 46, 0, 0, 0], [31], [], [33], [], [35], [], [37], [], [39], [], [41], [], [43], [], [45], [], [47, 49, 51, 0], [48], [], [50], [], [52], [], [5], [5, 55, 57, 59, 0, 0], [56], [], [58], [], [60], [], [5, 62, 64, 0, 0], [63], [], [65], [], [5, 67, 0], [0, 0, 68, 70, 72, 74, 76, 78, 80, 82, 84, 0, 0, 0], [69], [], [71], [], [73], [], [75], [], [77], [], [79], [], [81], [], [83], [], [85, 87, 89, 0], [86], [], [88], [], [90], [], [0, 0, 0, 92, 93, 94, 95, 96, 97, 0, 0, 0, 0, 0, 98, 99, 100, 0, 101, 0, 0, 0, 102, 103, 104, 0, 0, 105, 106, 107, 0, 108, 0, 0, 0, 0, 0, 0, 109, 110, 111, 112, 113, 114, 115, 0], [], [], [], [], [], [], [], [], [], [], [], [], [], [], [], [], [], [], [], [], [], [], [], []] : List (List Nat)).getD k []).getD j 0
def jv_ty (c j : Nat) : Nat := (([[1, 1, 1, 1, 1, 1, 1, 1, 0, 0, 0], [1, 0], [1, 0, 0, 0], [0, 0, 1, 1, 1, 1, 1, 1, 1, 1, 1, 0, 0, 0], [1, 1, 1, 0], [1], [1, 1, 1, 1, 0, 0], [1, 1, 1, 0, 0], [1, 1, 2], [1], [0, 0, 0, 1, 1, 1, 1, 1, 1, 0, 0, 0, 0, 0, 1, 1, 1, 0, 1, 0, 0, 0, 1, 1, 1, 0, 0, 1, 1, 1, 2, 1, 0, 0, 0, 0, 0, 0, 1, 1, 1, 1, 1, 1, 1, 2]] : List (List Nat)).getD c []).getD j 0
def jv_nf (c : Nat) : Nat := ([11, 2, 4, 14, 4, 1, 6, 5, 3, 1, 46] : List Nat).getD c 0
theorem jl_row : ∀ k, k < 116 → jv_cls k = 9 → k + 1 < 116 ∧ jv_cls (k + 1) = 100 ∧ jv_rf k 0 = k + 1 := by decide +kernel
theorem jl_sh2 : ∀ k, k < 116 → jv_cls k = 3 → k + 1 < 116 ∧ jv_cls (k + 1) = 9 ∧ jv_rf k 2 = k + 1 := by decide +kernel
theorem jl_sh3 : ∀ k, k < 116 → jv_cls k = 3 → k + 3 < 116 ∧ jv_cls (k + 3) = 9 ∧ jv_rf k 3 = k + 3 := by decide +kernel
theorem jl_sh4 : ∀ k, k < 116 → jv_cls k = 3 → k + 5 < 116 ∧ jv_cls (k + 5) = 9 ∧ jv_rf k 4 = k + 5 := by decide +kernel
theorem jl_sh5 : ∀ k, k < 116 → jv_cls k = 3 → k + 7 < 116 ∧ jv_cls (k + 7) = 9 ∧ jv_rf k 5 = k + 7 := by decide +kernel
theorem jl_sh6 : ∀ k, k < 116 → jv_cls k = 3 → k + 9 < 116 ∧ jv_cls (k + 9) = 9 ∧ jv_rf k 6 = k + 9 := by decide +kernel
theorem jl_sh7 : ∀ k, k < 116 → jv_cls k = 3 → k + 11 < 116 ∧ jv_cls (k + 11) = 9 ∧ jv_rf k 7 = k + 11 := by decide +kernel
theorem jl_sh8 : ∀ k, k < 116 → jv_cls k = 3 → k + 13 < 116 ∧ jv_cls (k + 13) = 9 ∧ jv_rf k 8 = k + 13 := by decide +kernel
theorem jl_sh9 : ∀ k, k < 116 → jv_cls k = 3 → k + 15 < 116 ∧ jv_cls (k + 15) = 9 ∧ jv_rf k 9 = k + 15 := by decide +kernel
theorem jl_sh10 : ∀ k, k < 116 → jv_cls k = 3 → k + 17 < 116 ∧ jv_cls (k + 17) = 4 ∧ jv_rf k 10 = k + 17 := by decide +kernel
theorem jl_si0 : ∀ k, k < 116 → jv_cls k = 4 → k + 1 < 116 ∧ jv_cls (k + 1) = 9 ∧ jv_rf k 0 = k + 1 := by decide +kernel
theorem jl_si1 : ∀ k, k < 116 → jv_cls k = 4 → k + 3 < 116 ∧ jv_cls (k + 3) = 9 ∧ jv_rf k 1 = k + 3 := by decide +kernel
theorem jl_si2 : ∀ k, k < 116 → jv_cls k = 4 → k + 5 < 116 ∧ jv_cls (k + 5) = 9 ∧ jv_rf k 2 = k + 5 := by decide +kernel
end
section
/-! THE STATE: ints, arrays, longs, each by its cell; THE WORLD that it makes; THE JUDGEMENT V; its rows -/
abbrev Sg : Type := (Nat → Nat → Int32) × (Nat → Nat → Int32) × (Nat → Nat → Int64)
def gF (σ : Sg) (k j : Nat) : Int32 := σ.1 k j
def gA (σ : Sg) (k i : Nat) : Int32 := σ.2.1 k i
def gL (σ : Sg) (k j : Nat) : Int64 := σ.2.2 k j
def sF (σ : Sg) (k j : Nat) (v : Int32) : Sg := (fun a b => if a = k ∧ b = j then v else σ.1 a b, σ.2)
def sA (σ : Sg) (k i : Nat) (v : Int32) : Sg := (σ.1, fun a b => if a = k ∧ b = i then v else σ.2.1 a b, σ.2.2)
def sL (σ : Sg) (k j : Nat) (v : Int64) : Sg := (σ.1, σ.2.1, fun a b => if a = k ∧ b = j then v else σ.2.2 a b)
def jv_fv (ad : Nat → Nat) (σ : Sg) (c k j : Nat) : Value := if jv_ty c j = 0 then .int (gF σ k j) else if jv_ty c j = 1 then .ref (ad (jv_rf k j)) else .long (gL σ k j)
def jv_fs (ad : Nat → Nat) (σ : Sg) (c k : Nat) : List Value := (List.range (jv_nf c)).map (jv_fv ad σ c k)
def jv_ce (ad : Nat → Nat) (cI cB : ClassId) (σ : Sg) (k : Nat) : va_E := if jv_cls k = 100 then .inl (cI, jv_ln k, .inl (σ.2.1 k)) else if jv_cls k = 101 then .inl (cB, jv_ln k, .inl (σ.2.1 k)) else .inr (jv_cls k, jv_fs ad σ (jv_cls k) k)
def wl (ad : Nat → Nat) (cI cB : ClassId) (σ : Sg) : va_W := (List.range 116).map (fun k => (ad k, jv_ce ad cI cB σ k))
theorem wl_get {ad : Nat → Nat} {cI cB : ClassId} {σ : Sg} {k : Nat} (hk : k < 116) : (wl ad cI cB σ)[k]? = some (ad k, jv_ce ad cI cB σ k) := by
  simp [wl, hk]
theorem wl_out {ad : Nat → Nat} {cI cB : ClassId} {σ : Sg} {k : Nat} {q : Nat × va_E} (h : (wl ad cI cB σ)[k]? = some q) : k < 116 ∧ q = (ad k, jv_ce ad cI cB σ k) := by
  have hk : k < 116 := by
    have h1 := (List.getElem?_eq_some_iff.mp h).1
    simpa [wl] using h1
  rw [wl_get hk] at h
  exact ⟨hk, (Option.some.inj h).symm⟩
theorem wl_set {ad : Nat → Nat} {cI cB : ClassId} {σ σ' : Sg} {k : Nat} {e : va_E} (hk : k < 116) (h1 : jv_ce ad cI cB σ' k = e) (h2 : ∀ j, j < 116 → j ≠ k → jv_ce ad cI cB σ' j = jv_ce ad cI cB σ j) : (wl ad cI cB σ).set k (ad k, e) = wl ad cI cB σ' := by
  apply List.ext_getElem?
  intro j
  by_cases hj : j < 116
  · rw [wl_get hj, List.getElem?_set]
    by_cases e1 : k = j
    · subst e1
      simp [wl, hk, h1]
    · rw [if_neg e1, wl_get hj, h2 j hj (Ne.symm e1)]
  · rw [List.getElem?_eq_none (by simp [wl]; omega), List.getElem?_eq_none (by simp [wl]; omega)]
theorem jv_ceO {ad : Nat → Nat} {cI cB : ClassId} {σ : Sg} {k c : Nat} (hc : jv_cls k = c) (h : c < 11) : jv_ce ad cI cB σ k = .inr (c, jv_fs ad σ c k) := by
  subst hc
  rw [jv_ce, if_neg (by omega), if_neg (by omega)]
theorem jv_ceI {ad : Nat → Nat} {cI cB : ClassId} {σ : Sg} {k : Nat} (hc : jv_cls k = 100) : jv_ce ad cI cB σ k = .inl (cI, jv_ln k, .inl (σ.2.1 k)) := by
  rw [jv_ce, if_pos hc]
theorem jv_ceB {ad : Nat → Nat} {cI cB : ClassId} {σ : Sg} {k : Nat} (hc : jv_cls k = 101) : jv_ce ad cI cB σ k = .inl (cB, jv_ln k, .inl (σ.2.1 k)) := by
  rw [jv_ce, if_neg (by omega), if_pos hc]
theorem jv_fsAt {ad : Nat → Nat} {σ : Sg} {c k j : Nat} (hj : j < jv_nf c) : (jv_fs ad σ c k)[j]? = some (jv_fv ad σ c k j) := by
  simp [jv_fs, hj]
theorem jv_fsSet {ad : Nat → Nat} {σ σ' : Sg} {c k j : Nat} {v : Value} (hj : j < jv_nf c) (h1 : jv_fv ad σ' c k j = v) (h2 : ∀ i, i ≠ j → jv_fv ad σ' c k i = jv_fv ad σ c k i) : (jv_fs ad σ c k).set j v = jv_fs ad σ' c k := by
  apply List.ext_getElem?
  intro i
  by_cases hi : i < jv_nf c
  · rw [jv_fsAt hi, List.getElem?_set]
    by_cases e1 : j = i
    · subst e1
      simp [jv_fs, hj, h1]
    · rw [if_neg e1, jv_fsAt hi, h2 i (Ne.symm e1)]
  · rw [List.getElem?_eq_none (by simp [jv_fs]; omega), List.getElem?_eq_none (by simp [jv_fs]; omega)]
theorem jv_ceOther {ad : Nat → Nat} {cI cB : ClassId} {σ σ' : Sg} {i : Nat} (h1 : ∀ j, gF σ' i j = gF σ i j) (h2 : σ'.2.1 i = σ.2.1 i) (h3 : ∀ j, gL σ' i j = gL σ i j) : jv_ce ad cI cB σ' i = jv_ce ad cI cB σ i := by
  have e : jv_fs ad σ' (jv_cls i) i = jv_fs ad σ (jv_cls i) i := by
    have e0 : jv_fv ad σ' (jv_cls i) i = jv_fv ad σ (jv_cls i) i := by
      funext j
      simp only [jv_fv, h1, h3]
    rw [jv_fs, jv_fs, e0]
  rw [jv_ce, jv_ce, h2, e]
/-- which cells a method may change -/
def Aw (ad : Nat → Nat) (sz : Nat) : Nat → Prop := fun q => (∃ k, k < 116 ∧ q = ad k) ∨ sz ≤ q
/-- what lies outside: the one String constant, a static, the links to private members of nest mates -/
def Sx (ad : Nat → Nat) (B : Nat → Prop) (U : State) : Prop :=
  (∀ (a : String) (i : Nat) (x : MethodName) (h : String), Cond.methodLinkNest a i x h ∈ lw_tbl → va_Nw (.methodLinkNest a i x h) U) ∧ vk_S 1 [5] [[99, 109, 117, 111, 97]] (fun _ => ad 1000) (fun _ => ad 1001) B U U.heap ∧ vk_R "MistletoeCourt$Reader" 54 "cmuoa" (ad 1000) U ∧ va_Z "java/lang/String" "COMPACT_STRINGS" "Z" (.int 1) B U U.heap
theorem Sx.calling {ad : Nat → Nat} {B : Nat → Prop} {U : State} (g : JFrame) (mk : MethodId) (a : Array Value) (h : Sx ad B U) : Sx ad B (U.calling g mk a) :=
  ⟨fun a i x hh hm => va_Nw.same rfl rfl (h.1 a i x hh hm), vk_S.moved (u := U) (U := U.calling g mk a) (Vm.Alike.refl U.vm) h.2.1, vk_R.same (u := U) (U := U.calling g mk a) rfl h.2.2.1, va_Z.moved (u := U) (U := U.calling g mk a) (Vm.Alike.refl U.vm) h.2.2.2⟩
theorem Sx.go {ad : Nat → Nat} {A B : Nat → Prop} {s U : State} {H : Heap} {locs : List Loc} (h : Sx ad A s) (hS : va_S A s.heap H locs) (hU : U.heap = H) (hW : s.WarmedH U.vm) (hAB : ∀ q, B q → A q) : Sx ad B U := by
  refine ⟨fun a i x hh hm => va_Nw.warmM hW (h.1 a i x hh hm), ?_, h.2.2.1.warm hW, ?_⟩
  · rw [hU]
    exact ((h.2.1.kept hS.2.1).narrow hAB).moved hW.alike
  · rw [hU]
    exact ((h.2.2.2.kept hS.2.1).narrow hAB).moved hW.alike
/-- a method's start -/
def Pre (D : va_G) (ad : Nat → Nat) (cI cB : ClassId) (ws : va_W) (sz : Nat) (av : List Value) : Array Value → State → Prop :=
  va_Pc av (fun U => U.heap.size = sz ∧ va_P D classes ws U.heap ∧ va_K D classes [(cI, .int), (cB, .byte)] U ∧ va_D (fun _ => True) ws ∧ Sx ad (Aw ad sz) U)
/-- a method's end -/
def Pst (D : va_G) (ws : va_W) (A : Nat → Prop) (rv : Option Value) : Array Value → State → Outcome → State → Prop :=
  fun _ st oc t => (oc = .returned rv ∧ va_P D classes ws t.heap ∧ va_D A ws) ∧ va_F A st t
theorem Pre.blind {D : va_G} {ad : Nat → Nat} {cI cB : ClassId} {ws : va_W} {sz : Nat} {av : List Value} : FrameBlind (Pre D ad cI cB ws sz av) :=
  fun a U g mk q => ⟨q.1, q.2.1, q.2.2.1, va_K.moved (u := U) (U := U.calling g mk a) (Vm.Alike.refl U.vm) q.2.2.2.1, q.2.2.2.2.1, q.2.2.2.2.2.calling g mk a⟩
/-- the contract of a method: from this state, with these arguments, this answer and that state -/
def Evc (y : MethodName) (b : ByteArray) (mL : Nat) (ret : Option FieldType) (d : Nat) (av : (Nat → Nat) → List Value) (σ σ' : Sg) (rv : (Nat → Nat) → Option Value) : Prop :=
  ∀ (l : Launch) (D : va_G) (ad : Nat → Nat) (cI cB : ClassId) (sz : Nat), Met l y (Cond.code y b mL ret :: gtbl) { frames := d, cells := 0, slots := 0, locals := 64 * d } (Pre D ad cI cB (wl ad cI cB σ) sz (av ad)) (Pst D (wl ad cI cB σ') (Aw ad sz) (rv ad)) 0 0 (Aw ad sz)
/-- what a method's body knows -/
def Cx (p : Program) (R : Room) (s : State) (m : MethodId) (args : Array Value) (meth : Method) (c : Code) (own : String) (cc : ByteArray) (nL d : Nat) (D : va_G) (ad : Nat → Nat) (cI cB : ClassId) (A : Nat → Prop) (cells slots : Nat) : Prop :=
  p.tables.exec = Jvm.exec ∧ c.code = cc ∧ c.maxLocals = nL ∧ s.vm.findClass own = some m.cls ∧ (∀ w ∈ gtbl, w.before args s = true) ∧ va_K D classes [(cI, .int), (cB, .byte)] s ∧ (∀ q, s.heap.size ≤ q → A q) ∧ Sx ad A s ∧ (d ≤ R.frames ∧ 64 * d ≤ R.locals ∧ cells ≤ R.cells ∧ slots ≤ R.slots) ∧ meth.locks = false
def V (p : Program) (l : Launch) (e : Env) (R : Room) (s : State) (m : MethodId) (args : Array Value) (below : List Frame) (meth : Method) (c : Code) (nL : Nat) (D : va_G) (A : Nat → Prop) (cells slots : Nat) (Q : State → Prop) (ws : va_W) (pc : Nat) (lv : List (Nat × Value)) (st : List Value) : Prop :=
  ∀ (H : Heap) (locs : List Loc) (ls : Array Slot), va_P D classes ws H → va_D A ws → va_S A s.heap H locs → lv_has ls nL lv → W p l e R s m args below meth c H locs cells slots Q (F0 m pc ls st)
/-- a computation that answers, and its answer is so -/
def wpO {α : Type} (x : Option α) (K : α → Prop) : Prop := ∃ a, x = some a ∧ K a
def inb (i : Int32) (n : Nat) : Bool := decide (0 ≤ i.toInt ∧ i.toInt < (n : Int))
def ix (i : Int32) : Nat := i.toNatClampNeg
def isb (v : Int32) : Bool := v == 0 || v == 1
def bindP {α β : Type} (f : Option (α × Sg)) (g : α → Sg → Option β) : Option β := match f with
  | none => none
  | some q => g q.1 q.2
def bindV {α β : Type} (f : Option α) (g : α → Option β) : Option β := match f with
  | none => none
  | some q => g q
theorem wp_P {α β : Type} {f : Option (α × Sg)} {g : α → Sg → Option β} {K : β → Prop} (h : wpO (bindP f g) K) : ∃ r σ, f = some (r, σ) ∧ wpO (g r σ) K := by
  cases f with
  | none => obtain ⟨a, h1, -⟩ := h; cases h1
  | some q => exact ⟨q.1, q.2, rfl, h⟩
theorem wp_V {α β : Type} {f : Option α} {g : α → Option β} {K : β → Prop} (h : wpO (bindV f g) K) : ∃ r, f = some r ∧ wpO (g r) K := by
  cases f with
  | none => obtain ⟨a, h1, -⟩ := h; cases h1
  | some q => exact ⟨q, rfl, h⟩
theorem wp_none {β : Type} {K : β → Prop} (h : wpO (none : Option β) K) : False := by
  obtain ⟨a, h1, -⟩ := h
  cases h1
theorem wp_if {β : Type} {b : Bool} {x : Option β} {K : β → Prop} (h : wpO (if b = true then x else none) K) : b = true ∧ wpO x K := by
  by_cases hb : b = true
  · rw [if_pos hb] at h; exact ⟨hb, h⟩
  · rw [if_neg hb] at h; exact (wp_none h).elim
theorem wp_nz {β : Type} {q : Prop} [Decidable q] {x : Option β} {K : β → Prop} (h : wpO (if q then none else x) K) : ¬ q ∧ wpO x K := by
  by_cases hb : q
  · rw [if_pos hb] at h; exact (wp_none h).elim
  · rw [if_neg hb] at h; exact ⟨hb, h⟩
theorem wp_some {β : Type} {x : β} {K : β → Prop} (h : wpO (some x) K) : K x := by
  obtain ⟨a, h1, h2⟩ := h
  cases h1
  exact h2
theorem inb_vp {i : Int32} {n : Nat} (h : inb i n = true) : vp_in i n := vp_in_iff.mpr (of_decide_eq_true h)
theorem isb_nar {v : Int32} (h : isb v = true) : narrow .boolean (.int v) = .int v ∧ fits .boolean (.int v) = true := by
  simp only [isb, Bool.or_eq_true, beq_iff_eq] at h
  rcases h with rfl | rfl <;> exact ⟨by decide +kernel, by decide +kernel⟩
theorem sw_ne {x v : Int32} (h : ¬ x = v) (z : Int) (hv : v.toInt = z) : x.toInt ≠ z := fun e => h (Int32.toInt_inj.mp (e.trans hv.symm))
section VROWS
variable {p : Program} {l : Launch} {e : Env} {R : Room} {s : State} {m : MethodId} {args : Array Value} {below : List Frame} {meth : Method} {c : Code} {own : String} {cc : ByteArray} {nL d : Nat} {D : va_G} {ad : Nat → Nat} {cI cB : ClassId} {A : Nat → Prop} {cells slots : Nat} {Q : State → Prop} {ws : va_W} {σ : Sg} {pc : Nat} {lv lv' : List (Nat × Value)} {st : List Value}
theorem V_sub (ks : List Nat) (h : lv_pick lv ks = lv') (k : V p l e R s m args below meth c nL D A cells slots Q ws pc lv' st) : V p l e R s m args below meth c nL D A cells slots Q ws pc lv st :=
  fun H locs ls hP hD hS hl => k H locs ls hP hD hS (lv_sub hl ks h)
theorem V_iconst (X : Cx p R s m args meth c own cc nL d D ad cI cB A cells slots) {n : Int} {v : Int32} (hd : decode cc pc = .ok (.iconst n, 1)) (hv : Int32.ofInt n = v) (k : V p l e R s m args below meth c nL D A cells slots Q ws (pc + 1) lv (.int v :: st)) : V p l e R s m args below meth c nL D A cells slots Q ws pc lv st :=
  fun H locs ls hP hD hS hl => lv_iconst X.1 X.2.1 hd hv (k H locs ls hP hD hS hl)
theorem V_bipush (X : Cx p R s m args meth c own cc nL d D ad cI cB A cells slots) {n : Int} {v : Int32} (hd : decode cc pc = .ok (.bipush n, 2)) (hv : (Int8.ofInt n).toInt32 = v) (k : V p l e R s m args below meth c nL D A cells slots Q ws (pc + 2) lv (.int v :: st)) : V p l e R s m args below meth c nL D A cells slots Q ws pc lv st :=
  fun H locs ls hP hD hS hl => lv_bipush X.1 X.2.1 hd hv (k H locs ls hP hD hS hl)
theorem V_sipush (X : Cx p R s m args meth c own cc nL d D ad cI cB A cells slots) {n : Int} {v : Int32} (hd : decode cc pc = .ok (.sipush n, 3)) (hv : (Int16.ofInt n).toInt32 = v) (k : V p l e R s m args below meth c nL D A cells slots Q ws (pc + 3) lv (.int v :: st)) : V p l e R s m args below meth c nL D A cells slots Q ws pc lv st :=
  fun H locs ls hP hD hS hl => lv_sipush X.1 X.2.1 hd hv (k H locs ls hP hD hS hl)
theorem V_ldc (X : Cx p R s m args meth c own cc nL d D ad cI cB A cells slots) {i : Nat} {v : Int32} (hd : decode cc pc = .ok (.ldc i, 2)) (hw : Cond.constant own i v ∈ gtbl) (k : V p l e R s m args below meth c nL D A cells slots Q ws (pc + 2) lv (.int v :: st)) : V p l e R s m args below meth c nL D A cells slots Q ws pc lv st :=
  fun H locs ls hP hD hS hl => lv_ldc X.1 X.2.1 X.2.2.2.1 (X.2.2.2.2.1 _ hw) hd (k H locs ls hP hD hS hl)
theorem V_ldcw (X : Cx p R s m args meth c own cc nL d D ad cI cB A cells slots) {i : Nat} {v : Int32} (hd : decode cc pc = .ok (.ldc_w i, 3)) (hw : Cond.constant own i v ∈ gtbl) (k : V p l e R s m args below meth c nL D A cells slots Q ws (pc + 3) lv (.int v :: st)) : V p l e R s m args below meth c nL D A cells slots Q ws pc lv st :=
  fun H locs ls hP hD hS hl => lv_ldcw X.1 X.2.1 X.2.2.2.1 (X.2.2.2.2.1 _ hw) hd (k H locs ls hP hD hS hl)
theorem V_ldc2 (X : Cx p R s m args meth c own cc nL d D ad cI cB A cells slots) {i : Nat} {v : Int64} (hd : decode cc pc = .ok (.ldc2_w i, 3)) (hw : Cond.constantLong own i v ∈ gtbl) (k : V p l e R s m args below meth c nL D A cells slots Q ws (pc + 3) lv (.long v :: st)) : V p l e R s m args below meth c nL D A cells slots Q ws pc lv st :=
  fun H locs ls hP hD hS hl => lv_ldc2 X.1 X.2.1 X.2.2.2.1 (X.2.2.2.2.1 _ hw) hd (k H locs ls hP hD hS hl)
theorem V_ldcS (X : Cx p R s m args meth c "MistletoeCourt$Reader" cc nL d D ad cI cB A cells slots) (hd : decode cc pc = .ok (.ldc 54, 2)) (k : V p l e R s m args below meth c nL D A cells slots Q ws (pc + 2) lv (.ref (ad 1000) :: st)) : V p l e R s m args below meth c nL D A cells slots Q ws pc lv st :=
  fun H locs ls hP hD hS hl => va_ldcS X.1 X.2.1 X.2.2.2.1 X.2.2.2.2.2.2.2.1.2.2.1 hd (k H locs ls hP hD hS hl)
theorem V_iload_n (X : Cx p R s m args meth c own cc nL d D ad cI cB A cells slots) {i : Fin 4} (q : Nat) {x : Int32} (hd : decode cc pc = .ok (.iload_n i, 1)) (hq : lv[q]? = some ((i : Nat), .int x)) (k : V p l e R s m args below meth c nL D A cells slots Q ws (pc + 1) lv (.int x :: st)) : V p l e R s m args below meth c nL D A cells slots Q ws pc lv st :=
  fun H locs ls hP hD hS hl => lv_iload_n X.1 X.2.1 hd rfl (lv_at hl q hq) (k H locs ls hP hD hS hl)
theorem V_iload (X : Cx p R s m args meth c own cc nL d D ad cI cB A cells slots) {i : Nat} (q : Nat) {x : Int32} (hd : decode cc pc = .ok (.iload i, 2)) (hq : lv[q]? = some (i, .int x)) (k : V p l e R s m args below meth c nL D A cells slots Q ws (pc + 2) lv (.int x :: st)) : V p l e R s m args below meth c nL D A cells slots Q ws pc lv st :=
  fun H locs ls hP hD hS hl => lv_iload X.1 X.2.1 hd (lv_at hl q hq) (k H locs ls hP hD hS hl)
theorem V_lload_n (X : Cx p R s m args meth c own cc nL d D ad cI cB A cells slots) {i : Fin 4} (q : Nat) {x : Int64} (hd : decode cc pc = .ok (.lload_n i, 1)) (hq : lv[q]? = some ((i : Nat), .long x)) (k : V p l e R s m args below meth c nL D A cells slots Q ws (pc + 1) lv (.long x :: st)) : V p l e R s m args below meth c nL D A cells slots Q ws pc lv st :=
  fun H locs ls hP hD hS hl => lv_lload_n X.1 X.2.1 hd rfl (lv_at hl q hq) (k H locs ls hP hD hS hl)
theorem V_aload_n (X : Cx p R s m args meth c own cc nL d D ad cI cB A cells slots) {i : Fin 4} (q : Nat) {x : Nat} (hd : decode cc pc = .ok (.aload_n i, 1)) (hq : lv[q]? = some ((i : Nat), .ref x)) (k : V p l e R s m args below meth c nL D A cells slots Q ws (pc + 1) lv (.ref x :: st)) : V p l e R s m args below meth c nL D A cells slots Q ws pc lv st :=
  fun H locs ls hP hD hS hl => lv_aload_n X.1 X.2.1 hd rfl (lv_at hl q hq) (k H locs ls hP hD hS hl)
theorem V_istore_n (X : Cx p R s m args meth c own cc nL d D ad cI cB A cells slots) {i : Fin 4} {x : Int32} (lv' : List (Nat × Value)) (hd : decode cc pc = .ok (.istore_n i, 1)) (hn : (i : Nat) < nL) (hl' : ((i : Nat), Value.int x) :: lv.filter (fun q => !(q.1 == (i : Nat)) && !(q.1 + 1 == (i : Nat) && q.2.category == 2)) = lv') (k : V p l e R s m args below meth c nL D A cells slots Q ws (pc + 1) lv' st) : V p l e R s m args below meth c nL D A cells slots Q ws pc lv (.int x :: st) :=
  fun H locs ls hP hD hS hl => lv_istore_n X.1 X.2.1 hd rfl hl hn hl' (fun ls hl => k H locs ls hP hD hS hl)
theorem V_istore (X : Cx p R s m args meth c own cc nL d D ad cI cB A cells slots) {i : Nat} {x : Int32} (lv' : List (Nat × Value)) (hd : decode cc pc = .ok (.istore i, 2)) (hn : i < nL) (hl' : (i, Value.int x) :: lv.filter (fun q => !(q.1 == i) && !(q.1 + 1 == i && q.2.category == 2)) = lv') (k : V p l e R s m args below meth c nL D A cells slots Q ws (pc + 2) lv' st) : V p l e R s m args below meth c nL D A cells slots Q ws pc lv (.int x :: st) :=
  fun H locs ls hP hD hS hl => lv_istore X.1 X.2.1 hd hl hn hl' (fun ls hl => k H locs ls hP hD hS hl)
theorem V_lstore_n (X : Cx p R s m args meth c own cc nL d D ad cI cB A cells slots) {i : Fin 4} {x : Int64} (lv' : List (Nat × Value)) (hd : decode cc pc = .ok (.lstore_n i, 1)) (hn : (i : Nat) + 1 < nL) (hl' : ((i : Nat), Value.long x) :: lv.filter (fun q => !(q.1 == (i : Nat)) && (!(q.1 == (i : Nat) + 1) && !(q.1 + 1 == (i : Nat) && q.2.category == 2))) = lv') (k : V p l e R s m args below meth c nL D A cells slots Q ws (pc + 1) lv' st) : V p l e R s m args below meth c nL D A cells slots Q ws pc lv (.long x :: st) :=
  fun H locs ls hP hD hS hl => lv_lstore_n X.1 X.2.1 hd rfl hl hn hl' (fun ls hl => k H locs ls hP hD hS hl)
theorem V_astore_n (X : Cx p R s m args meth c own cc nL d D ad cI cB A cells slots) {i : Fin 4} {x : Nat} (lv' : List (Nat × Value)) (hd : decode cc pc = .ok (.astore_n i, 1)) (hn : (i : Nat) < nL) (hl' : ((i : Nat), Value.ref x) :: lv.filter (fun q => !(q.1 == (i : Nat)) && !(q.1 + 1 == (i : Nat) && q.2.category == 2)) = lv') (k : V p l e R s m args below meth c nL D A cells slots Q ws (pc + 1) lv' st) : V p l e R s m args below meth c nL D A cells slots Q ws pc lv (.ref x :: st) :=
  fun H locs ls hP hD hS hl => lv_astore_n X.1 X.2.1 hd rfl hl hn hl' (fun ls hl => k H locs ls hP hD hS hl)
theorem V_iinc (X : Cx p R s m args meth c own cc nL d D ad cI cB A cells slots) {i : Nat} {n : Int} {x : Int32} (q : Nat) (v : Int32) (lv' : List (Nat × Value)) (hd : decode cc pc = .ok (.iinc i n, 3)) (hq : lv[q]? = some (i, .int x)) (hv : x + Int32.ofInt n = v) (hn : i < nL) (hl' : (i, Value.int v) :: lv.filter (fun q => !(q.1 == i) && !(q.1 + 1 == i && q.2.category == 2)) = lv') (k : V p l e R s m args below meth c nL D A cells slots Q ws (pc + 3) lv' st) : V p l e R s m args below meth c nL D A cells slots Q ws pc lv st :=
  fun H locs ls hP hD hS hl => lv_iinc X.1 X.2.1 hd hl hq hv hn hl' (fun ls hl => k H locs ls hP hD hS hl)
theorem V_iadd (X : Cx p R s m args meth c own cc nL d D ad cI cB A cells slots) {x y : Int32} (hd : decode cc pc = .ok (.iadd, 1)) (k : V p l e R s m args below meth c nL D A cells slots Q ws (pc + 1) lv (.int (x + y) :: st)) : V p l e R s m args below meth c nL D A cells slots Q ws pc lv (.int y :: .int x :: st) :=
  fun H locs ls hP hD hS hl => lv_iadd X.1 X.2.1 hd (k H locs ls hP hD hS hl)
theorem V_isub (X : Cx p R s m args meth c own cc nL d D ad cI cB A cells slots) {x y : Int32} (hd : decode cc pc = .ok (.isub, 1)) (k : V p l e R s m args below meth c nL D A cells slots Q ws (pc + 1) lv (.int (x - y) :: st)) : V p l e R s m args below meth c nL D A cells slots Q ws pc lv (.int y :: .int x :: st) :=
  fun H locs ls hP hD hS hl => lv_isub X.1 X.2.1 hd (k H locs ls hP hD hS hl)
theorem V_imul (X : Cx p R s m args meth c own cc nL d D ad cI cB A cells slots) {x y : Int32} (hd : decode cc pc = .ok (.imul, 1)) (k : V p l e R s m args below meth c nL D A cells slots Q ws (pc + 1) lv (.int (x * y) :: st)) : V p l e R s m args below meth c nL D A cells slots Q ws pc lv (.int y :: .int x :: st) :=
  fun H locs ls hP hD hS hl => lv_imul X.1 X.2.1 hd (k H locs ls hP hD hS hl)
theorem V_iand (X : Cx p R s m args meth c own cc nL d D ad cI cB A cells slots) {x y : Int32} (hd : decode cc pc = .ok (.iand, 1)) (k : V p l e R s m args below meth c nL D A cells slots Q ws (pc + 1) lv (.int (x &&& y) :: st)) : V p l e R s m args below meth c nL D A cells slots Q ws pc lv (.int y :: .int x :: st) :=
  fun H locs ls hP hD hS hl => lv_iand X.1 X.2.1 hd (k H locs ls hP hD hS hl)
theorem V_ior (X : Cx p R s m args meth c own cc nL d D ad cI cB A cells slots) {x y : Int32} (hd : decode cc pc = .ok (.ior, 1)) (k : V p l e R s m args below meth c nL D A cells slots Q ws (pc + 1) lv (.int (x ||| y) :: st)) : V p l e R s m args below meth c nL D A cells slots Q ws pc lv (.int y :: .int x :: st) :=
  fun H locs ls hP hD hS hl => lv_ior X.1 X.2.1 hd (k H locs ls hP hD hS hl)
theorem V_ixor (X : Cx p R s m args meth c own cc nL d D ad cI cB A cells slots) {x y : Int32} (hd : decode cc pc = .ok (.ixor, 1)) (k : V p l e R s m args below meth c nL D A cells slots Q ws (pc + 1) lv (.int (x ^^^ y) :: st)) : V p l e R s m args below meth c nL D A cells slots Q ws pc lv (.int y :: .int x :: st) :=
  fun H locs ls hP hD hS hl => lv_ixor X.1 X.2.1 hd (k H locs ls hP hD hS hl)
theorem V_ishl (X : Cx p R s m args meth c own cc nL d D ad cI cB A cells slots) {x y : Int32} (hd : decode cc pc = .ok (.ishl, 1)) (k : V p l e R s m args below meth c nL D A cells slots Q ws (pc + 1) lv (.int (x <<< (y &&& 31)) :: st)) : V p l e R s m args below meth c nL D A cells slots Q ws pc lv (.int y :: .int x :: st) :=
  fun H locs ls hP hD hS hl => lv_ishl X.1 X.2.1 hd (k H locs ls hP hD hS hl)
theorem V_ishr (X : Cx p R s m args meth c own cc nL d D ad cI cB A cells slots) {x y : Int32} (hd : decode cc pc = .ok (.ishr, 1)) (k : V p l e R s m args below meth c nL D A cells slots Q ws (pc + 1) lv (.int (x >>> (y &&& 31)) :: st)) : V p l e R s m args below meth c nL D A cells slots Q ws pc lv (.int y :: .int x :: st) :=
  fun H locs ls hP hD hS hl => lv_ishr X.1 X.2.1 hd (k H locs ls hP hD hS hl)
theorem V_idiv (X : Cx p R s m args meth c own cc nL d D ad cI cB A cells slots) {x y : Int32} (hd : decode cc pc = .ok (.idiv, 1)) (hne : ¬ y = 0) (k : V p l e R s m args below meth c nL D A cells slots Q ws (pc + 1) lv (.int (x / y) :: st)) : V p l e R s m args below meth c nL D A cells slots Q ws pc lv (.int y :: .int x :: st) :=
  fun H locs ls hP hD hS hl => lv_idiv X.1 X.2.1 hd hne (k H locs ls hP hD hS hl)
theorem V_irem (X : Cx p R s m args meth c own cc nL d D ad cI cB A cells slots) {x y : Int32} (hd : decode cc pc = .ok (.irem, 1)) (hne : ¬ y = 0) (k : V p l e R s m args below meth c nL D A cells slots Q ws (pc + 1) lv (.int (x - x / y * y) :: st)) : V p l e R s m args below meth c nL D A cells slots Q ws pc lv (.int y :: .int x :: st) :=
  fun H locs ls hP hD hS hl => lv_irem X.1 X.2.1 hd hne (k H locs ls hP hD hS hl)
theorem V_ladd (X : Cx p R s m args meth c own cc nL d D ad cI cB A cells slots) {x y : Int64} (hd : decode cc pc = .ok (.ladd, 1)) (k : V p l e R s m args below meth c nL D A cells slots Q ws (pc + 1) lv (.long (x + y) :: st)) : V p l e R s m args below meth c nL D A cells slots Q ws pc lv (.long y :: .long x :: st) :=
  fun H locs ls hP hD hS hl => lv_ladd X.1 X.2.1 hd (k H locs ls hP hD hS hl)
theorem V_lmul (X : Cx p R s m args meth c own cc nL d D ad cI cB A cells slots) {x y : Int64} (hd : decode cc pc = .ok (.lmul, 1)) (k : V p l e R s m args below meth c nL D A cells slots Q ws (pc + 1) lv (.long (x * y) :: st)) : V p l e R s m args below meth c nL D A cells slots Q ws pc lv (.long y :: .long x :: st) :=
  fun H locs ls hP hD hS hl => lv_lmul X.1 X.2.1 hd (k H locs ls hP hD hS hl)
theorem V_land (X : Cx p R s m args meth c own cc nL d D ad cI cB A cells slots) {x y : Int64} (hd : decode cc pc = .ok (.land, 1)) (k : V p l e R s m args below meth c nL D A cells slots Q ws (pc + 1) lv (.long (x &&& y) :: st)) : V p l e R s m args below meth c nL D A cells slots Q ws pc lv (.long y :: .long x :: st) :=
  fun H locs ls hP hD hS hl => lv_land X.1 X.2.1 hd (k H locs ls hP hD hS hl)
theorem V_ldiv (X : Cx p R s m args meth c own cc nL d D ad cI cB A cells slots) {x y : Int64} (hd : decode cc pc = .ok (.ldiv, 1)) (hne : ¬ y = 0) (k : V p l e R s m args below meth c nL D A cells slots Q ws (pc + 1) lv (.long (x / y) :: st)) : V p l e R s m args below meth c nL D A cells slots Q ws pc lv (.long y :: .long x :: st) :=
  fun H locs ls hP hD hS hl => lv_ldiv X.1 X.2.1 hd hne (k H locs ls hP hD hS hl)
theorem V_lrem (X : Cx p R s m args meth c own cc nL d D ad cI cB A cells slots) {x y : Int64} (hd : decode cc pc = .ok (.lrem, 1)) (hne : ¬ y = 0) (k : V p l e R s m args below meth c nL D A cells slots Q ws (pc + 1) lv (.long (x - x / y * y) :: st)) : V p l e R s m args below meth c nL D A cells slots Q ws pc lv (.long y :: .long x :: st) :=
  fun H locs ls hP hD hS hl => lv_lrem X.1 X.2.1 hd hne (k H locs ls hP hD hS hl)
theorem V_iushr (X : Cx p R s m args meth c own cc nL d D ad cI cB A cells slots) {x y : Int32} (hd : decode cc pc = .ok (.iushr, 1)) (k : V p l e R s m args below meth c nL D A cells slots Q ws (pc + 1) lv (.int ((x.toUInt32 >>> (y.toUInt32 &&& Int32.toUInt32 31)).toInt32) :: st)) : V p l e R s m args below meth c nL D A cells slots Q ws pc lv (.int y :: .int x :: st) :=
  fun H locs ls hP hD hS hl => lv_iushr X.1 X.2.1 hd rfl (k H locs ls hP hD hS hl)
theorem V_ineg (X : Cx p R s m args meth c own cc nL d D ad cI cB A cells slots) {x : Int32} (hd : decode cc pc = .ok (.ineg, 1)) (k : V p l e R s m args below meth c nL D A cells slots Q ws (pc + 1) lv (.int (-x) :: st)) : V p l e R s m args below meth c nL D A cells slots Q ws pc lv (.int x :: st) :=
  fun H locs ls hP hD hS hl => lv_ineg X.1 X.2.1 hd (k H locs ls hP hD hS hl)
theorem V_i2l (X : Cx p R s m args meth c own cc nL d D ad cI cB A cells slots) {x : Int32} (hd : decode cc pc = .ok (.i2l, 1)) (k : V p l e R s m args below meth c nL D A cells slots Q ws (pc + 1) lv (.long (x.toInt64) :: st)) : V p l e R s m args below meth c nL D A cells slots Q ws pc lv (.int x :: st) :=
  fun H locs ls hP hD hS hl => lv_i2l X.1 X.2.1 hd rfl (k H locs ls hP hD hS hl)
theorem V_l2i (X : Cx p R s m args meth c own cc nL d D ad cI cB A cells slots) {x : Int64} (hd : decode cc pc = .ok (.l2i, 1)) (k : V p l e R s m args below meth c nL D A cells slots Q ws (pc + 1) lv (.int (x.toInt32) :: st)) : V p l e R s m args below meth c nL D A cells slots Q ws pc lv (.long x :: st) :=
  fun H locs ls hP hD hS hl => lv_l2i X.1 X.2.1 hd rfl (k H locs ls hP hD hS hl)
theorem V_i2b (X : Cx p R s m args meth c own cc nL d D ad cI cB A cells slots) {x : Int32} (hd : decode cc pc = .ok (.i2b, 1)) (k : V p l e R s m args below meth c nL D A cells slots Q ws (pc + 1) lv (.int (x.toInt8.toInt32) :: st)) : V p l e R s m args below meth c nL D A cells slots Q ws pc lv (.int x :: st) :=
  fun H locs ls hP hD hS hl => lv_i2b X.1 X.2.1 hd rfl (k H locs ls hP hD hS hl)
theorem V_i2c (X : Cx p R s m args meth c own cc nL d D ad cI cB A cells slots) {x : Int32} (hd : decode cc pc = .ok (.i2c, 1)) (k : V p l e R s m args below meth c nL D A cells slots Q ws (pc + 1) lv (.int ((x.toUInt32 % 65536).toInt32) :: st)) : V p l e R s m args below meth c nL D A cells slots Q ws pc lv (.int x :: st) :=
  fun H locs ls hP hD hS hl => lv_i2c X.1 X.2.1 hd rfl (k H locs ls hP hD hS hl)
theorem V_icmp_eq (X : Cx p R s m args meth c own cc nL d D ad cI cB A cells slots) {x y : Int32} {off : Int} (tgt : Nat) {α : Type} {A1 A2 : Option α} {K : α → Prop} (hd : decode cc pc = .ok (.if_icmp .eq off, 3)) (ht : (pc : Int) + off = (tgt : Int)) (h : wpO (if x = y then A1 else A2) K) (kt : x = y → wpO A1 K → V p l e R s m args below meth c nL D A cells slots Q ws tgt lv st) (kf : ¬ (x = y) → wpO A2 K → V p l e R s m args below meth c nL D A cells slots Q ws (pc + 3) lv st) : V p l e R s m args below meth c nL D A cells slots Q ws pc lv (.int y :: .int x :: st) :=
  fun H locs ls hP hD hS hl => lv_icmp_eq X.1 X.2.1 hd ht (fun q => kt q (by rw [if_pos q] at h; exact h) H locs ls hP hD hS hl) (fun q => kf q (by rw [if_neg q] at h; exact h) H locs ls hP hD hS hl)
theorem V_if_eq (X : Cx p R s m args meth c own cc nL d D ad cI cB A cells slots) {x : Int32} {off : Int} (tgt : Nat) {α : Type} {A1 A2 : Option α} {K : α → Prop} (hd : decode cc pc = .ok (.ifCond .eq off, 3)) (ht : (pc : Int) + off = (tgt : Int)) (h : wpO (if x = 0 then A1 else A2) K) (kt : x = 0 → wpO A1 K → V p l e R s m args below meth c nL D A cells slots Q ws tgt lv st) (kf : ¬ (x = 0) → wpO A2 K → V p l e R s m args below meth c nL D A cells slots Q ws (pc + 3) lv st) : V p l e R s m args below meth c nL D A cells slots Q ws pc lv (.int x :: st) :=
  fun H locs ls hP hD hS hl => lv_if_eq X.1 X.2.1 hd ht (fun q => kt q (by rw [if_pos q] at h; exact h) H locs ls hP hD hS hl) (fun q => kf q (by rw [if_neg q] at h; exact h) H locs ls hP hD hS hl)
theorem V_if_eqT (X : Cx p R s m args meth c own cc nL d D ad cI cB A cells slots) {x : Int32} {off : Int} (tgt : Nat) (hd : decode cc pc = .ok (.ifCond .eq off, 3)) (ht : (pc : Int) + off = (tgt : Int)) (hx : x = 0) (k : V p l e R s m args below meth c nL D A cells slots Q ws tgt lv st) : V p l e R s m args below meth c nL D A cells slots Q ws pc lv (.int x :: st) :=
  fun H locs ls hP hD hS hl => lv_if_eq X.1 X.2.1 hd ht (fun q => k H locs ls hP hD hS hl) (fun q => absurd hx q)
theorem V_if_eqF (X : Cx p R s m args meth c own cc nL d D ad cI cB A cells slots) {x : Int32} {off : Int} (hd : decode cc pc = .ok (.ifCond .eq off, 3)) (tgt : Nat) (ht : (pc : Int) + off = (tgt : Int)) (hx : ¬ (x = 0)) (k : V p l e R s m args below meth c nL D A cells slots Q ws (pc + 3) lv st) : V p l e R s m args below meth c nL D A cells slots Q ws pc lv (.int x :: st) :=
  fun H locs ls hP hD hS hl => lv_if_eq X.1 X.2.1 hd ht (fun q => absurd q hx) (fun q => k H locs ls hP hD hS hl)
theorem V_icmp_ne (X : Cx p R s m args meth c own cc nL d D ad cI cB A cells slots) {x y : Int32} {off : Int} (tgt : Nat) {α : Type} {A1 A2 : Option α} {K : α → Prop} (hd : decode cc pc = .ok (.if_icmp .ne off, 3)) (ht : (pc : Int) + off = (tgt : Int)) (h : wpO (if ¬ x = y then A1 else A2) K) (kt : ¬ x = y → wpO A1 K → V p l e R s m args below meth c nL D A cells slots Q ws tgt lv st) (kf : ¬ (¬ x = y) → wpO A2 K → V p l e R s m args below meth c nL D A cells slots Q ws (pc + 3) lv st) : V p l e R s m args below meth c nL D A cells slots Q ws pc lv (.int y :: .int x :: st) :=
  fun H locs ls hP hD hS hl => lv_icmp_ne X.1 X.2.1 hd ht (fun q => kt q (by rw [if_pos q] at h; exact h) H locs ls hP hD hS hl) (fun q => kf (fun z => z q) (by rw [if_neg (fun z => z q)] at h; exact h) H locs ls hP hD hS hl)
theorem V_if_ne (X : Cx p R s m args meth c own cc nL d D ad cI cB A cells slots) {x : Int32} {off : Int} (tgt : Nat) {α : Type} {A1 A2 : Option α} {K : α → Prop} (hd : decode cc pc = .ok (.ifCond .ne off, 3)) (ht : (pc : Int) + off = (tgt : Int)) (h : wpO (if ¬ x = 0 then A1 else A2) K) (kt : ¬ x = 0 → wpO A1 K → V p l e R s m args below meth c nL D A cells slots Q ws tgt lv st) (kf : ¬ (¬ x = 0) → wpO A2 K → V p l e R s m args below meth c nL D A cells slots Q ws (pc + 3) lv st) : V p l e R s m args below meth c nL D A cells slots Q ws pc lv (.int x :: st) :=
  fun H locs ls hP hD hS hl => lv_if_ne X.1 X.2.1 hd ht (fun q => kt q (by rw [if_pos q] at h; exact h) H locs ls hP hD hS hl) (fun q => kf (fun z => z q) (by rw [if_neg (fun z => z q)] at h; exact h) H locs ls hP hD hS hl)
theorem V_if_neT (X : Cx p R s m args meth c own cc nL d D ad cI cB A cells slots) {x : Int32} {off : Int} (tgt : Nat) (hd : decode cc pc = .ok (.ifCond .ne off, 3)) (ht : (pc : Int) + off = (tgt : Int)) (hx : ¬ x = 0) (k : V p l e R s m args below meth c nL D A cells slots Q ws tgt lv st) : V p l e R s m args below meth c nL D A cells slots Q ws pc lv (.int x :: st) :=
  fun H locs ls hP hD hS hl => lv_if_ne X.1 X.2.1 hd ht (fun q => k H locs ls hP hD hS hl) (fun q => absurd q hx)
theorem V_if_neF (X : Cx p R s m args meth c own cc nL d D ad cI cB A cells slots) {x : Int32} {off : Int} (hd : decode cc pc = .ok (.ifCond .ne off, 3)) (tgt : Nat) (ht : (pc : Int) + off = (tgt : Int)) (hx : ¬ (¬ x = 0)) (k : V p l e R s m args below meth c nL D A cells slots Q ws (pc + 3) lv st) : V p l e R s m args below meth c nL D A cells slots Q ws pc lv (.int x :: st) :=
  fun H locs ls hP hD hS hl => lv_if_ne X.1 X.2.1 hd ht (fun q => absurd q hx) (fun q => k H locs ls hP hD hS hl)
theorem V_icmp_lt (X : Cx p R s m args meth c own cc nL d D ad cI cB A cells slots) {x y : Int32} {off : Int} (tgt : Nat) {α : Type} {A1 A2 : Option α} {K : α → Prop} (hd : decode cc pc = .ok (.if_icmp .lt off, 3)) (ht : (pc : Int) + off = (tgt : Int)) (h : wpO (if x < y then A1 else A2) K) (kt : x < y → wpO A1 K → V p l e R s m args below meth c nL D A cells slots Q ws tgt lv st) (kf : ¬ (x < y) → wpO A2 K → V p l e R s m args below meth c nL D A cells slots Q ws (pc + 3) lv st) : V p l e R s m args below meth c nL D A cells slots Q ws pc lv (.int y :: .int x :: st) :=
  fun H locs ls hP hD hS hl => lv_icmp_lt X.1 X.2.1 hd ht (fun q => kt q (by rw [if_pos q] at h; exact h) H locs ls hP hD hS hl) (fun q => kf q (by rw [if_neg q] at h; exact h) H locs ls hP hD hS hl)
theorem V_if_lt (X : Cx p R s m args meth c own cc nL d D ad cI cB A cells slots) {x : Int32} {off : Int} (tgt : Nat) {α : Type} {A1 A2 : Option α} {K : α → Prop} (hd : decode cc pc = .ok (.ifCond .lt off, 3)) (ht : (pc : Int) + off = (tgt : Int)) (h : wpO (if x < 0 then A1 else A2) K) (kt : x < 0 → wpO A1 K → V p l e R s m args below meth c nL D A cells slots Q ws tgt lv st) (kf : ¬ (x < 0) → wpO A2 K → V p l e R s m args below meth c nL D A cells slots Q ws (pc + 3) lv st) : V p l e R s m args below meth c nL D A cells slots Q ws pc lv (.int x :: st) :=
  fun H locs ls hP hD hS hl => lv_if_lt X.1 X.2.1 hd ht (fun q => kt q (by rw [if_pos q] at h; exact h) H locs ls hP hD hS hl) (fun q => kf q (by rw [if_neg q] at h; exact h) H locs ls hP hD hS hl)
theorem V_if_ltT (X : Cx p R s m args meth c own cc nL d D ad cI cB A cells slots) {x : Int32} {off : Int} (tgt : Nat) (hd : decode cc pc = .ok (.ifCond .lt off, 3)) (ht : (pc : Int) + off = (tgt : Int)) (hx : x < 0) (k : V p l e R s m args below meth c nL D A cells slots Q ws tgt lv st) : V p l e R s m args below meth c nL D A cells slots Q ws pc lv (.int x :: st) :=
  fun H locs ls hP hD hS hl => lv_if_lt X.1 X.2.1 hd ht (fun q => k H locs ls hP hD hS hl) (fun q => absurd hx q)
theorem V_if_ltF (X : Cx p R s m args meth c own cc nL d D ad cI cB A cells slots) {x : Int32} {off : Int} (hd : decode cc pc = .ok (.ifCond .lt off, 3)) (tgt : Nat) (ht : (pc : Int) + off = (tgt : Int)) (hx : ¬ (x < 0)) (k : V p l e R s m args below meth c nL D A cells slots Q ws (pc + 3) lv st) : V p l e R s m args below meth c nL D A cells slots Q ws pc lv (.int x :: st) :=
  fun H locs ls hP hD hS hl => lv_if_lt X.1 X.2.1 hd ht (fun q => absurd q hx) (fun q => k H locs ls hP hD hS hl)
theorem V_icmp_ge (X : Cx p R s m args meth c own cc nL d D ad cI cB A cells slots) {x y : Int32} {off : Int} (tgt : Nat) {α : Type} {A1 A2 : Option α} {K : α → Prop} (hd : decode cc pc = .ok (.if_icmp .ge off, 3)) (ht : (pc : Int) + off = (tgt : Int)) (h : wpO (if y ≤ x then A1 else A2) K) (kt : y ≤ x → wpO A1 K → V p l e R s m args below meth c nL D A cells slots Q ws tgt lv st) (kf : ¬ (y ≤ x) → wpO A2 K → V p l e R s m args below meth c nL D A cells slots Q ws (pc + 3) lv st) : V p l e R s m args below meth c nL D A cells slots Q ws pc lv (.int y :: .int x :: st) :=
  fun H locs ls hP hD hS hl => lv_icmp_ge X.1 X.2.1 hd ht (fun q => kt q (by rw [if_pos q] at h; exact h) H locs ls hP hD hS hl) (fun q => kf q (by rw [if_neg q] at h; exact h) H locs ls hP hD hS hl)
theorem V_if_ge (X : Cx p R s m args meth c own cc nL d D ad cI cB A cells slots) {x : Int32} {off : Int} (tgt : Nat) {α : Type} {A1 A2 : Option α} {K : α → Prop} (hd : decode cc pc = .ok (.ifCond .ge off, 3)) (ht : (pc : Int) + off = (tgt : Int)) (h : wpO (if 0 ≤ x then A1 else A2) K) (kt : 0 ≤ x → wpO A1 K → V p l e R s m args below meth c nL D A cells slots Q ws tgt lv st) (kf : ¬ (0 ≤ x) → wpO A2 K → V p l e R s m args below meth c nL D A cells slots Q ws (pc + 3) lv st) : V p l e R s m args below meth c nL D A cells slots Q ws pc lv (.int x :: st) :=
  fun H locs ls hP hD hS hl => lv_if_ge X.1 X.2.1 hd ht (fun q => kt q (by rw [if_pos q] at h; exact h) H locs ls hP hD hS hl) (fun q => kf q (by rw [if_neg q] at h; exact h) H locs ls hP hD hS hl)
theorem V_if_geT (X : Cx p R s m args meth c own cc nL d D ad cI cB A cells slots) {x : Int32} {off : Int} (tgt : Nat) (hd : decode cc pc = .ok (.ifCond .ge off, 3)) (ht : (pc : Int) + off = (tgt : Int)) (hx : 0 ≤ x) (k : V p l e R s m args below meth c nL D A cells slots Q ws tgt lv st) : V p l e R s m args below meth c nL D A cells slots Q ws pc lv (.int x :: st) :=
  fun H locs ls hP hD hS hl => lv_if_ge X.1 X.2.1 hd ht (fun q => k H locs ls hP hD hS hl) (fun q => absurd hx q)
theorem V_if_geF (X : Cx p R s m args meth c own cc nL d D ad cI cB A cells slots) {x : Int32} {off : Int} (hd : decode cc pc = .ok (.ifCond .ge off, 3)) (tgt : Nat) (ht : (pc : Int) + off = (tgt : Int)) (hx : ¬ (0 ≤ x)) (k : V p l e R s m args below meth c nL D A cells slots Q ws (pc + 3) lv st) : V p l e R s m args below meth c nL D A cells slots Q ws pc lv (.int x :: st) :=
  fun H locs ls hP hD hS hl => lv_if_ge X.1 X.2.1 hd ht (fun q => absurd q hx) (fun q => k H locs ls hP hD hS hl)
theorem V_icmp_gt (X : Cx p R s m args meth c own cc nL d D ad cI cB A cells slots) {x y : Int32} {off : Int} (tgt : Nat) {α : Type} {A1 A2 : Option α} {K : α → Prop} (hd : decode cc pc = .ok (.if_icmp .gt off, 3)) (ht : (pc : Int) + off = (tgt : Int)) (h : wpO (if y < x then A1 else A2) K) (kt : y < x → wpO A1 K → V p l e R s m args below meth c nL D A cells slots Q ws tgt lv st) (kf : ¬ (y < x) → wpO A2 K → V p l e R s m args below meth c nL D A cells slots Q ws (pc + 3) lv st) : V p l e R s m args below meth c nL D A cells slots Q ws pc lv (.int y :: .int x :: st) :=
  fun H locs ls hP hD hS hl => lv_icmp_gt X.1 X.2.1 hd ht (fun q => kt q (by rw [if_pos q] at h; exact h) H locs ls hP hD hS hl) (fun q => kf q (by rw [if_neg q] at h; exact h) H locs ls hP hD hS hl)
theorem V_if_gt (X : Cx p R s m args meth c own cc nL d D ad cI cB A cells slots) {x : Int32} {off : Int} (tgt : Nat) {α : Type} {A1 A2 : Option α} {K : α → Prop} (hd : decode cc pc = .ok (.ifCond .gt off, 3)) (ht : (pc : Int) + off = (tgt : Int)) (h : wpO (if 0 < x then A1 else A2) K) (kt : 0 < x → wpO A1 K → V p l e R s m args below meth c nL D A cells slots Q ws tgt lv st) (kf : ¬ (0 < x) → wpO A2 K → V p l e R s m args below meth c nL D A cells slots Q ws (pc + 3) lv st) : V p l e R s m args below meth c nL D A cells slots Q ws pc lv (.int x :: st) :=
  fun H locs ls hP hD hS hl => lv_if_gt X.1 X.2.1 hd ht (fun q => kt q (by rw [if_pos q] at h; exact h) H locs ls hP hD hS hl) (fun q => kf q (by rw [if_neg q] at h; exact h) H locs ls hP hD hS hl)
theorem V_if_gtT (X : Cx p R s m args meth c own cc nL d D ad cI cB A cells slots) {x : Int32} {off : Int} (tgt : Nat) (hd : decode cc pc = .ok (.ifCond .gt off, 3)) (ht : (pc : Int) + off = (tgt : Int)) (hx : 0 < x) (k : V p l e R s m args below meth c nL D A cells slots Q ws tgt lv st) : V p l e R s m args below meth c nL D A cells slots Q ws pc lv (.int x :: st) :=
  fun H locs ls hP hD hS hl => lv_if_gt X.1 X.2.1 hd ht (fun q => k H locs ls hP hD hS hl) (fun q => absurd hx q)
theorem V_if_gtF (X : Cx p R s m args meth c own cc nL d D ad cI cB A cells slots) {x : Int32} {off : Int} (hd : decode cc pc = .ok (.ifCond .gt off, 3)) (tgt : Nat) (ht : (pc : Int) + off = (tgt : Int)) (hx : ¬ (0 < x)) (k : V p l e R s m args below meth c nL D A cells slots Q ws (pc + 3) lv st) : V p l e R s m args below meth c nL D A cells slots Q ws pc lv (.int x :: st) :=
  fun H locs ls hP hD hS hl => lv_if_gt X.1 X.2.1 hd ht (fun q => absurd q hx) (fun q => k H locs ls hP hD hS hl)
theorem V_icmp_le (X : Cx p R s m args meth c own cc nL d D ad cI cB A cells slots) {x y : Int32} {off : Int} (tgt : Nat) {α : Type} {A1 A2 : Option α} {K : α → Prop} (hd : decode cc pc = .ok (.if_icmp .le off, 3)) (ht : (pc : Int) + off = (tgt : Int)) (h : wpO (if x ≤ y then A1 else A2) K) (kt : x ≤ y → wpO A1 K → V p l e R s m args below meth c nL D A cells slots Q ws tgt lv st) (kf : ¬ (x ≤ y) → wpO A2 K → V p l e R s m args below meth c nL D A cells slots Q ws (pc + 3) lv st) : V p l e R s m args below meth c nL D A cells slots Q ws pc lv (.int y :: .int x :: st) :=
  fun H locs ls hP hD hS hl => lv_icmp_le X.1 X.2.1 hd ht (fun q => kt q (by rw [if_pos q] at h; exact h) H locs ls hP hD hS hl) (fun q => kf q (by rw [if_neg q] at h; exact h) H locs ls hP hD hS hl)
theorem V_if_le (X : Cx p R s m args meth c own cc nL d D ad cI cB A cells slots) {x : Int32} {off : Int} (tgt : Nat) {α : Type} {A1 A2 : Option α} {K : α → Prop} (hd : decode cc pc = .ok (.ifCond .le off, 3)) (ht : (pc : Int) + off = (tgt : Int)) (h : wpO (if x ≤ 0 then A1 else A2) K) (kt : x ≤ 0 → wpO A1 K → V p l e R s m args below meth c nL D A cells slots Q ws tgt lv st) (kf : ¬ (x ≤ 0) → wpO A2 K → V p l e R s m args below meth c nL D A cells slots Q ws (pc + 3) lv st) : V p l e R s m args below meth c nL D A cells slots Q ws pc lv (.int x :: st) :=
  fun H locs ls hP hD hS hl => lv_if_le X.1 X.2.1 hd ht (fun q => kt q (by rw [if_pos q] at h; exact h) H locs ls hP hD hS hl) (fun q => kf q (by rw [if_neg q] at h; exact h) H locs ls hP hD hS hl)
theorem V_if_leT (X : Cx p R s m args meth c own cc nL d D ad cI cB A cells slots) {x : Int32} {off : Int} (tgt : Nat) (hd : decode cc pc = .ok (.ifCond .le off, 3)) (ht : (pc : Int) + off = (tgt : Int)) (hx : x ≤ 0) (k : V p l e R s m args below meth c nL D A cells slots Q ws tgt lv st) : V p l e R s m args below meth c nL D A cells slots Q ws pc lv (.int x :: st) :=
  fun H locs ls hP hD hS hl => lv_if_le X.1 X.2.1 hd ht (fun q => k H locs ls hP hD hS hl) (fun q => absurd hx q)
theorem V_if_leF (X : Cx p R s m args meth c own cc nL d D ad cI cB A cells slots) {x : Int32} {off : Int} (hd : decode cc pc = .ok (.ifCond .le off, 3)) (tgt : Nat) (ht : (pc : Int) + off = (tgt : Int)) (hx : ¬ (x ≤ 0)) (k : V p l e R s m args below meth c nL D A cells slots Q ws (pc + 3) lv st) : V p l e R s m args below meth c nL D A cells slots Q ws pc lv (.int x :: st) :=
  fun H locs ls hP hD hS hl => lv_if_le X.1 X.2.1 hd ht (fun q => absurd q hx) (fun q => k H locs ls hP hD hS hl)
theorem V_goto (X : Cx p R s m args meth c own cc nL d D ad cI cB A cells slots) {off : Int} (tgt : Nat) (hd : decode cc pc = .ok (.goto off, 3)) (ht : (pc : Int) + off = (tgt : Int)) (k : V p l e R s m args below meth c nL D A cells slots Q ws tgt lv st) : V p l e R s m args below meth c nL D A cells slots Q ws pc lv st :=
  fun H locs ls hP hD hS hl => lv_goto X.1 X.2.1 hd ht (k H locs ls hP hD hS hl)
theorem V_dup (X : Cx p R s m args meth c own cc nL d D ad cI cB A cells slots) {v : Value} (hd : decode cc pc = .ok (.dup, 1)) (hv : v.category = 1) (k : V p l e R s m args below meth c nL D A cells slots Q ws (pc + 1) lv (v :: v :: st)) : V p l e R s m args below meth c nL D A cells slots Q ws pc lv (v :: st) :=
  fun H locs ls hP hD hS hl => lv_dup X.1 X.2.1 hd hv (k H locs ls hP hD hS hl)
theorem V_pop (X : Cx p R s m args meth c own cc nL d D ad cI cB A cells slots) {v : Value} (hd : decode cc pc = .ok (.pop, 1)) (hv : v.category = 1) (k : V p l e R s m args below meth c nL D A cells slots Q ws (pc + 1) lv st) : V p l e R s m args below meth c nL D A cells slots Q ws pc lv (v :: st) :=
  fun H locs ls hP hD hS hl => lv_pop X.1 X.2.1 hd hv (k H locs ls hP hD hS hl)
theorem V_dup2 (X : Cx p R s m args meth c own cc nL d D ad cI cB A cells slots) {v u : Value} (hd : decode cc pc = .ok (.dup2, 1)) (hv : v.category = 1) (hu : u.category = 1) (k : V p l e R s m args below meth c nL D A cells slots Q ws (pc + 1) lv (v :: u :: v :: u :: st)) : V p l e R s m args below meth c nL D A cells slots Q ws pc lv (v :: u :: st) :=
  fun H locs ls hP hD hS hl => lv_dup2_11 X.1 X.2.1 hd hv hu (k H locs ls hP hD hS hl)
theorem V_ifnonnull (X : Cx p R s m args meth c own cc nL d D ad cI cB A cells slots) {x : Nat} {off : Int} (tgt : Nat) (hd : decode cc pc = .ok (.ifnonnull off, 3)) (ht : (pc : Int) + off = (tgt : Int)) (k : V p l e R s m args below meth c nL D A cells slots Q ws tgt lv st) : V p l e R s m args below meth c nL D A cells slots Q ws pc lv (.ref x :: st) :=
  fun H locs ls hP hD hS hl => lv_ifnonnull X.1 X.2.1 hd ht (k H locs ls hP hD hS hl)
theorem V_tableOut (X : Cx p R s m args meth c own cc nL d D ad cI cB A cells slots) {dflt lo hi : Int} {offs : Array Int} {len : Nat} {x : Int32} (tgt : Nat) (hd : decode cc pc = .ok (.tableswitch dflt lo hi offs, len)) (hx : x.toInt < lo ∨ hi < x.toInt) (ht : (pc : Int) + dflt = (tgt : Int)) (k : V p l e R s m args below meth c nL D A cells slots Q ws tgt lv st) : V p l e R s m args below meth c nL D A cells slots Q ws pc lv (.int x :: st) :=
  fun H locs ls hP hD hS hl => lv_tableOut X.1 X.2.1 hd hx ht (k H locs ls hP hD hS hl)
theorem V_tableIn (X : Cx p R s m args meth c own cc nL d D ad cI cB A cells slots) {dflt lo hi : Int} {offs : Array Int} {len : Nat} {x : Int32} (off : Int) (tgt : Nat) (hd : decode cc pc = .ok (.tableswitch dflt lo hi offs, len)) (z : Int) (hx : x.toInt = z) (h1 : ¬ z < lo) (h2 : ¬ hi < z) (ho : offs[(z - lo).toNat]? = some off) (ht : (pc : Int) + off = (tgt : Int)) (k : V p l e R s m args below meth c nL D A cells slots Q ws tgt lv st) : V p l e R s m args below meth c nL D A cells slots Q ws pc lv (.int x :: st) := by
  subst hx
  exact fun H locs ls hP hD hS hl => lv_tableIn X.1 X.2.1 hd h1 h2 ho ht (k H locs ls hP hD hS hl)
theorem V_lookup (X : Cx p R s m args meth c own cc nL d D ad cI cB A cells slots) {dflt : Int} {ps : Array (Int × Int)} {len : Nat} {x : Int32} (off : Int) (tgt : Nat) (hd : decode cc pc = .ok (.lookupswitch dflt ps, len)) (hp : (ps.toList.zip (ps.toList.drop 1)).all (fun (a, next) => a.1 < next.1) = true) (ho : Op.lookupswitch.offset ps.toList dflt x.toInt = off) (ht : (pc : Int) + off = (tgt : Int)) (k : V p l e R s m args below meth c nL D A cells slots Q ws tgt lv st) : V p l e R s m args below meth c nL D A cells slots Q ws pc lv (.int x :: st) :=
  fun H locs ls hP hD hS hl => lv_lookup X.1 X.2.1 hd hp ho ht (k H locs ls hP hD hS hl)
theorem V_lcmp (X : Cx p R s m args meth c own cc nL d D ad cI cB A cells slots) {x y : Int64} (hd : decode cc pc = .ok (.lcmp, 1)) (k : V p l e R s m args below meth c nL D A cells slots Q ws (pc + 1) lv (.int (lg_cmp x y) :: st)) : V p l e R s m args below meth c nL D A cells slots Q ws pc lv (.long y :: .long x :: st) :=
  fun H locs ls hP hD hS hl => W.lcmp X.1 X.2.1 hd (k H locs ls hP hD hS hl)
/-- a field: q is its class's place, j its own -/
theorem V_get (X : Cx p R s m args meth c own cc nL d D ad cI cB A cells slots) (q j : Nat) {C : String} {T : u_T} {N idx k : Nat} (hq : classes[q]? = some (C, T, N)) (hin : ∀ w ∈ u_ws C T N, w ∈ gtbl) (hj : j < N) (hn : j < jv_nf q) (hl : Cond.fieldLink own idx (T j).1 (T j).2.1 (T j).2.2.1 ∈ gtbl) (hd : decode cc pc = .ok (.getfield idx, 3)) (hk : k < 116) (hc : jv_cls k = q) (hq11 : q < 11)
    (kk : V p l e R s m args below meth c nL D A cells slots Q (wl ad cI cB σ) (pc + 3) lv (jv_fv ad σ q k j :: st)) : V p l e R s m args below meth c nL D A cells slots Q (wl ad cI cB σ) pc lv (.ref (ad k) :: st) :=
  fun H locs ls hP hD hS hl' => va_get (D := D) (ci := q) (C := C) (T := T) (N := N) X.1 X.2.1 X.2.2.2.2.1 hin X.2.2.2.1 X.2.2.2.2.2.1 hP k (by rw [wl_get hk, jv_ceO hc hq11]) hq j hj (X.2.2.2.2.1 _ hl) (fun _ h9 => h9) (jv_fsAt hn) hd (kk H locs ls hP hD hS hl')
theorem jv_fvI {ad : Nat → Nat} {σ : Sg} {q k j : Nat} (h : jv_ty q j = 0) : jv_fv ad σ q k j = .int (gF σ k j) := by rw [jv_fv, if_pos h]
theorem jv_fvR {ad : Nat → Nat} {σ : Sg} {q k j : Nat} (h : jv_ty q j = 1) : jv_fv ad σ q k j = .ref (ad (jv_rf k j)) := by rw [jv_fv, if_neg (by omega), if_pos h]
theorem jv_fvL {ad : Nat → Nat} {σ : Sg} {q k j : Nat} (h : jv_ty q j = 2) : jv_fv ad σ q k j = .long (gL σ k j) := by rw [jv_fv, if_neg (by omega), if_neg (by omega)]
theorem V_getI (X : Cx p R s m args meth c own cc nL d D ad cI cB A cells slots) (q j : Nat) {C : String} {T : u_T} {N idx k : Nat} (hq : classes[q]? = some (C, T, N)) (hin : ∀ w ∈ u_ws C T N, w ∈ gtbl) (hj : j < N) (hn : j < jv_nf q) (ht : jv_ty q j = 0) (hl : Cond.fieldLink own idx (T j).1 (T j).2.1 (T j).2.2.1 ∈ gtbl) (hd : decode cc pc = .ok (.getfield idx, 3)) (hk : k < 116) (hc : jv_cls k = q) (hq11 : q < 11)
    (kk : V p l e R s m args below meth c nL D A cells slots Q (wl ad cI cB σ) (pc + 3) lv (.int (gF σ k j) :: st)) : V p l e R s m args below meth c nL D A cells slots Q (wl ad cI cB σ) pc lv (.ref (ad k) :: st) :=
  V_get X q j hq hin hj hn hl hd hk hc hq11 (by rw [jv_fvI ht]; exact kk)
theorem V_getR (X : Cx p R s m args meth c own cc nL d D ad cI cB A cells slots) (q j t : Nat) {C : String} {T : u_T} {N idx k : Nat} (hq : classes[q]? = some (C, T, N)) (hin : ∀ w ∈ u_ws C T N, w ∈ gtbl) (hj : j < N) (hn : j < jv_nf q) (ht : jv_ty q j = 1) (hl : Cond.fieldLink own idx (T j).1 (T j).2.1 (T j).2.2.1 ∈ gtbl) (hd : decode cc pc = .ok (.getfield idx, 3)) (hk : k < 116) (hc : jv_cls k = q) (hq11 : q < 11) (hr : jv_rf k j = t)
    (kk : V p l e R s m args below meth c nL D A cells slots Q (wl ad cI cB σ) (pc + 3) lv (.ref (ad t) :: st)) : V p l e R s m args below meth c nL D A cells slots Q (wl ad cI cB σ) pc lv (.ref (ad k) :: st) :=
  V_get X q j hq hin hj hn hl hd hk hc hq11 (by rw [jv_fvR ht, hr]; exact kk)
theorem V_getL (X : Cx p R s m args meth c own cc nL d D ad cI cB A cells slots) (q j : Nat) {C : String} {T : u_T} {N idx k : Nat} (hq : classes[q]? = some (C, T, N)) (hin : ∀ w ∈ u_ws C T N, w ∈ gtbl) (hj : j < N) (hn : j < jv_nf q) (ht : jv_ty q j = 2) (hl : Cond.fieldLink own idx (T j).1 (T j).2.1 (T j).2.2.1 ∈ gtbl) (hd : decode cc pc = .ok (.getfield idx, 3)) (hk : k < 116) (hc : jv_cls k = q) (hq11 : q < 11)
    (kk : V p l e R s m args below meth c nL D A cells slots Q (wl ad cI cB σ) (pc + 3) lv (.long (gL σ k j) :: st)) : V p l e R s m args below meth c nL D A cells slots Q (wl ad cI cB σ) pc lv (.ref (ad k) :: st) :=
  V_get X q j hq hin hj hn hl hd hk hc hq11 (by rw [jv_fvL ht]; exact kk)
theorem V_put (X : Cx p R s m args meth c own cc nL d D ad cI cB A cells slots) (q j : Nat) {C : String} {T : u_T} {N idx k : Nat} {σ' : Sg} {v : Value} {ty : FieldType} {ty0 : Nat → FieldType} (hq : classes[q]? = some (C, T, N)) (hin : ∀ w ∈ u_ws C T N, w ∈ gtbl) (hty : ∀ k, k < N → parseFieldDescriptor (T k).2.2.1 = some (ty0 k)) (hnm : ∀ a, a < N → ∀ b, b < N → a ≠ b → (T a).2.1 ≠ (T b).2.1) (hj : j < N) (hn : j < jv_nf q) (hfin : (T j).2.2.2 = false) (htd : parseFieldDescriptor (T j).2.2.1 = some ty) (hnar : narrow ty v = v) (hfit : fits ty v = true) (hl : Cond.fieldLink own idx (T j).1 (T j).2.1 (T j).2.2.1 ∈ gtbl) (hd : decode cc pc = .ok (.putfield idx, 3)) (hk : k < 116) (hc : jv_cls k = q) (hq11 : q < 11)
    (h1 : jv_fv ad σ' q k j = v) (h2 : ∀ i, i ≠ j → jv_fv ad σ' q k i = jv_fv ad σ q k i) (h3 : ∀ i, i < 116 → i ≠ k → jv_ce ad cI cB σ' i = jv_ce ad cI cB σ i)
    (kk : V p l e R s m args below meth c nL D A cells slots Q (wl ad cI cB σ') (pc + 3) lv st) : V p l e R s m args below meth c nL D A cells slots Q (wl ad cI cB σ) pc lv (v :: .ref (ad k) :: st) := by
  intro H locs ls hP hD hS hl'
  have e : (wl ad cI cB σ).set k (ad k, .inr (q, (jv_fs ad σ q k).set j v)) = wl ad cI cB σ' := wl_set hk (by rw [jv_ceO hc hq11, jv_fsSet hn h1 h2]) h3
  refine va_put (D := D) (ci := q) (C := C) (T := T) (N := N) (ty := ty) X.1 X.2.1 X.2.2.2.2.1 hin ty0 hty hnm X.2.2.2.1 X.2.2.2.2.2.1 hP hD hS k (by rw [wl_get hk, jv_ceO hc hq11]) hq j hj (X.2.2.2.2.1 _ hl) (fun _ h9 => h9) hfin htd hnar hfit (by simp [jv_fs, hn]) hd (fun H1 locs1 hP1 hD1 hS1 => ?_)
  rw [e] at hP1 hD1
  exact kk H1 locs1 ls hP1 hD1 hS1 hl'
theorem V_putI (X : Cx p R s m args meth c own cc nL d D ad cI cB A cells slots) (q j : Nat) {C : String} {T : u_T} {N idx k : Nat} {x : Int32} {ty0 : Nat → FieldType} (hq : classes[q]? = some (C, T, N)) (hin : ∀ w ∈ u_ws C T N, w ∈ gtbl) (hty : ∀ k, k < N → parseFieldDescriptor (T k).2.2.1 = some (ty0 k)) (hnm : ∀ a, a < N → ∀ b, b < N → a ≠ b → (T a).2.1 ≠ (T b).2.1) (hj : j < N) (hn : j < jv_nf q) (ht : jv_ty q j = 0) (hfin : (T j).2.2.2 = false) (htd : parseFieldDescriptor (T j).2.2.1 = some .int) (hl : Cond.fieldLink own idx (T j).1 (T j).2.1 (T j).2.2.1 ∈ gtbl) (hd : decode cc pc = .ok (.putfield idx, 3)) (hk : k < 116) (hc : jv_cls k = q) (hq11 : q < 11)
    (kk : V p l e R s m args below meth c nL D A cells slots Q (wl ad cI cB (sF σ k j x)) (pc + 3) lv st) : V p l e R s m args below meth c nL D A cells slots Q (wl ad cI cB σ) pc lv (.int x :: .ref (ad k) :: st) :=
  V_put (σ' := sF σ k j x) X q j hq hin hty hnm hj hn hfin htd rfl rfl hl hd hk hc hq11 (by simp [jv_fvI ht, gF, sF]) (fun i hi => by simp [jv_fv, gF, gL, sF, hi]) (fun i _ hi => jv_ceOther (fun j => by simp [gF, sF, hi]) rfl (fun j => rfl)) kk
theorem V_putZ (X : Cx p R s m args meth c own cc nL d D ad cI cB A cells slots) (q j : Nat) {C : String} {T : u_T} {N idx k : Nat} {x : Int32} {ty0 : Nat → FieldType} (hb : isb x = true) (hq : classes[q]? = some (C, T, N)) (hin : ∀ w ∈ u_ws C T N, w ∈ gtbl) (hty : ∀ k, k < N → parseFieldDescriptor (T k).2.2.1 = some (ty0 k)) (hnm : ∀ a, a < N → ∀ b, b < N → a ≠ b → (T a).2.1 ≠ (T b).2.1) (hj : j < N) (hn : j < jv_nf q) (ht : jv_ty q j = 0) (hfin : (T j).2.2.2 = false) (htd : parseFieldDescriptor (T j).2.2.1 = some .boolean) (hl : Cond.fieldLink own idx (T j).1 (T j).2.1 (T j).2.2.1 ∈ gtbl) (hd : decode cc pc = .ok (.putfield idx, 3)) (hk : k < 116) (hc : jv_cls k = q) (hq11 : q < 11)
    (kk : V p l e R s m args below meth c nL D A cells slots Q (wl ad cI cB (sF σ k j x)) (pc + 3) lv st) : V p l e R s m args below meth c nL D A cells slots Q (wl ad cI cB σ) pc lv (.int x :: .ref (ad k) :: st) :=
  V_put (σ' := sF σ k j x) X q j hq hin hty hnm hj hn hfin htd (isb_nar hb).1 (isb_nar hb).2 hl hd hk hc hq11 (by simp [jv_fvI ht, gF, sF]) (fun i hi => by simp [jv_fv, gF, gL, sF, hi]) (fun i _ hi => jv_ceOther (fun j => by simp [gF, sF, hi]) rfl (fun j => rfl)) kk
theorem V_putL (X : Cx p R s m args meth c own cc nL d D ad cI cB A cells slots) (q j : Nat) {C : String} {T : u_T} {N idx k : Nat} {x : Int64} {ty0 : Nat → FieldType} (hq : classes[q]? = some (C, T, N)) (hin : ∀ w ∈ u_ws C T N, w ∈ gtbl) (hty : ∀ k, k < N → parseFieldDescriptor (T k).2.2.1 = some (ty0 k)) (hnm : ∀ a, a < N → ∀ b, b < N → a ≠ b → (T a).2.1 ≠ (T b).2.1) (hj : j < N) (hn : j < jv_nf q) (ht : jv_ty q j = 2) (hfin : (T j).2.2.2 = false) (htd : parseFieldDescriptor (T j).2.2.1 = some .long) (hl : Cond.fieldLink own idx (T j).1 (T j).2.1 (T j).2.2.1 ∈ gtbl) (hd : decode cc pc = .ok (.putfield idx, 3)) (hk : k < 116) (hc : jv_cls k = q) (hq11 : q < 11)
    (kk : V p l e R s m args below meth c nL D A cells slots Q (wl ad cI cB (sL σ k j x)) (pc + 3) lv st) : V p l e R s m args below meth c nL D A cells slots Q (wl ad cI cB σ) pc lv (.long x :: .ref (ad k) :: st) :=
  V_put (σ' := sL σ k j x) X q j hq hin hty hnm hj hn hfin htd rfl rfl hl hd hk hc hq11 (by simp [jv_fvL ht, gL, sL]) (fun i hi => by simp [jv_fv, gF, gL, sL, hi]) (fun i _ hi => jv_ceOther (fun j => rfl) rfl (fun j => by simp [gL, sL, hi])) kk
theorem V_iald (X : Cx p R s m args meth c own cc nL d D ad cI cB A cells slots) {k n : Nat} {i : Int32} {α : Type} {A1 : Option α} {K : α → Prop} (hd : decode cc pc = .ok (.iaload, 1)) (hk : k < 116) (hc : jv_cls k = 100) (hn : jv_ln k = n) (h : wpO (if inb i n = true then A1 else none) K)
    (kk : wpO A1 K → V p l e R s m args below meth c nL D A cells slots Q (wl ad cI cB σ) (pc + 1) lv (.int (gA σ k (ix i)) :: st)) : V p l e R s m args below meth c nL D A cells slots Q (wl ad cI cB σ) pc lv (.int i :: .ref (ad k) :: st) :=
  fun H locs ls hP hD hS hl => va_iald (D := D) (cA := cI) (n := jv_ln k) (f := σ.2.1 k) X.1 X.2.1 X.2.2.2.2.2.1 hP k 0 (by rw [wl_get hk, jv_ceI hc]) rfl (by rw [hn]; exact inb_vp (wp_if h).1) hd (kk (wp_if h).2 H locs ls hP hD hS hl)
theorem V_bald (X : Cx p R s m args meth c own cc nL d D ad cI cB A cells slots) {k n : Nat} {i : Int32} {α : Type} {A1 : Option α} {K : α → Prop} (hd : decode cc pc = .ok (.baload, 1)) (hk : k < 116) (hc : jv_cls k = 101) (hn : jv_ln k = n) (h : wpO (if inb i n = true then A1 else none) K)
    (kk : wpO A1 K → V p l e R s m args below meth c nL D A cells slots Q (wl ad cI cB σ) (pc + 1) lv (.int (gA σ k (ix i)) :: st)) : V p l e R s m args below meth c nL D A cells slots Q (wl ad cI cB σ) pc lv (.int i :: .ref (ad k) :: st) :=
  fun H locs ls hP hD hS hl => va_bald (D := D) (cA := cB) (n := jv_ln k) (f := σ.2.1 k) X.1 X.2.1 X.2.2.2.2.2.1 hP k 1 (by rw [wl_get hk, jv_ceB hc]) rfl (by rw [hn]; exact inb_vp (wp_if h).1) hd (kk (wp_if h).2 H locs ls hP hD hS hl)
theorem jv_sAce {ad : Nat → Nat} {cI cB : ClassId} {σ : Sg} {k i j : Nat} {v : Int32} (hj : j ≠ k) : jv_ce ad cI cB (sA σ k i v) j = jv_ce ad cI cB σ j :=
  jv_ceOther (fun _ => rfl) (by funext b; simp [sA, hj]) (fun _ => rfl)
theorem jv_sAup {σ : Sg} {k i : Nat} {v : Int32} : (sA σ k i v).2.1 k = upd (σ.2.1 k) i v := by funext b; simp [sA, upd]
theorem V_iast (X : Cx p R s m args meth c own cc nL d D ad cI cB A cells slots) {k n : Nat} {i x : Int32} {α : Type} {A1 : Option α} {K : α → Prop} (hd : decode cc pc = .ok (.iastore, 1)) (hk : k < 116) (hc : jv_cls k = 100) (hn : jv_ln k = n) (h : wpO (if inb i n = true then A1 else none) K)
    (kk : wpO A1 K → V p l e R s m args below meth c nL D A cells slots Q (wl ad cI cB (sA σ k (ix i) x)) (pc + 1) lv st) : V p l e R s m args below meth c nL D A cells slots Q (wl ad cI cB σ) pc lv (.int x :: .int i :: .ref (ad k) :: st) := by
  intro H locs ls hP hD hS hl
  have e : (wl ad cI cB σ).set k (ad k, .inl (cI, jv_ln k, .inl (upd (σ.2.1 k) i.toNatClampNeg x))) = wl ad cI cB (sA σ k (ix i) x) := wl_set hk (by rw [jv_ceI hc, jv_sAup]; rfl) (fun j _ hj => jv_sAce hj)
  refine va_iast (D := D) X.1 X.2.1 X.2.2.2.2.2.1 hP hD hS k 0 (by rw [wl_get hk, jv_ceI hc]) rfl (by rw [hn]; exact inb_vp (wp_if h).1) hd (fun H1 locs1 hP1 hD1 hS1 => ?_)
  rw [e] at hP1 hD1
  exact kk (wp_if h).2 H1 locs1 ls hP1 hD1 hS1 hl
theorem V_bast (X : Cx p R s m args meth c own cc nL d D ad cI cB A cells slots) {k n : Nat} {i x : Int32} {α : Type} {A1 : Option α} {K : α → Prop} (hd : decode cc pc = .ok (.bastore, 1)) (hk : k < 116) (hc : jv_cls k = 101) (hn : jv_ln k = n) (h : wpO (if inb i n = true then A1 else none) K)
    (kk : wpO A1 K → V p l e R s m args below meth c nL D A cells slots Q (wl ad cI cB (sA σ k (ix i) x.toInt8.toInt32)) (pc + 1) lv st) : V p l e R s m args below meth c nL D A cells slots Q (wl ad cI cB σ) pc lv (.int x :: .int i :: .ref (ad k) :: st) := by
  intro H locs ls hP hD hS hl
  have e : (wl ad cI cB σ).set k (ad k, .inl (cB, jv_ln k, .inl (upd (σ.2.1 k) i.toNatClampNeg (vp_nar .byte x)))) = wl ad cI cB (sA σ k (ix i) x.toInt8.toInt32) := wl_set hk (by rw [jv_ceB hc, jv_sAup, vp_nar_byte]; rfl) (fun j _ hj => jv_sAce hj)
  refine va_bast (D := D) X.1 X.2.1 X.2.2.2.2.2.1 hP hD hS k 1 (by rw [wl_get hk, jv_ceB hc]) rfl (by rw [hn]; exact inb_vp (wp_if h).1) hd (fun H1 locs1 hP1 hD1 hS1 => ?_)
  rw [e] at hP1 hD1
  exact kk (wp_if h).2 H1 locs1 ls hP1 hD1 hS1 hl
theorem V_alen (X : Cx p R s m args meth c own cc nL d D ad cI cB A cells slots) {k n : Nat} (hd : decode cc pc = .ok (.arraylength, 1)) (hk : k < 116) (hc : jv_cls k = 100) (hn : jv_ln k = n)
    (kk : V p l e R s m args below meth c nL D A cells slots Q (wl ad cI cB σ) (pc + 1) lv (.int (Int32.ofNat n) :: st)) : V p l e R s m args below meth c nL D A cells slots Q (wl ad cI cB σ) pc lv (.ref (ad k) :: st) :=
  fun H locs ls hP hD hS hl => va_alen (D := D) X.1 X.2.1 X.2.2.2.2.2.1 hP k 0 (by rw [wl_get hk, jv_ceI hc]) (ty := .int) rfl (by rw [← hn]) hd (kk H locs ls hP hD hS hl)
theorem jv_recv (X : Cx p R s m args meth c own cc nL d D ad cI cB A cells slots) {q k : Nat} {C : String} {T : u_T} {N : Nat} {H : Heap} (hq : classes[q]? = some (C, T, N)) (hk : k < 116) (hc : jv_cls k = q) (hq11 : q < 11) (hP : va_P D classes (wl ad cI cB σ) H) : ∃ cell : Cell, H[ad k]? = some cell ∧ cell.vm.isStatics = false ∧ s.vm.findClass C = some cell.cls :=
  va_recv (q := (C, T, N)) X.2.2.2.2.2.1 hP (ci := q) (q0 := k) hq (by rw [wl_get hk, jv_ceO hc hq11])
theorem jv_AwA {H : Heap} (hP : va_P D classes (wl ad cI cB σ) H) (hD : va_D A (wl ad cI cB σ)) {locs : List Loc} (hS : va_S A s.heap H locs) (hA : ∀ q, s.heap.size ≤ q → A q) : ∀ q, Aw ad H.size q → A q := by
  intro q h
  rcases h with ⟨k, hk, rfl⟩ | h
  · exact hD.2 k (ad k, jv_ce ad cI cB σ k) (wl_get hk)
  · exact hA q (Nat.le_trans hS.1 h)
/-- what a method is called by -/
def Mt (y : MethodName) (b : ByteArray) (mL : Nat) (ret : Option FieldType) (n : Nat) : Prop := Cond.code y b mL ret ∈ gtbl ∧ Cond.initialized y.cls ∈ gtbl ∧ (y.cls ≠ "java/lang/invoke/MethodHandle" ∧ y.cls ≠ "java/lang/invoke/VarHandle") ∧ (parseMethodDescriptor y.desc).map (fun d => d.parameters.length) = some n ∧ mL ≤ 40
theorem jv_good {y : MethodName} {b : ByteArray} {mL : Nat} {ret : Option FieldType} (h : Cond.code y b mL ret ∈ gtbl) : GoodIn gtbl (Cond.code y b mL ret :: gtbl) := by
  intro w hw
  rcases List.mem_cons.mp hw with rfl | hw
  · exact ⟨h, good_of_word (List.mem_filter.mp h).2⟩
  · exact ⟨hw, good_of_word (List.mem_filter.mp hw).2⟩
def CallOK (p : Program) (l : Launch) (e : Env) (R : Room) (s : State) (m : MethodId) (args : Array Value) (below : List Frame) (meth : Method) (c : Code) (nL : Nat) (D : va_G) (ad : Nat → Nat) (cI cB : ClassId) (A : Nat → Prop) (cells slots : Nat) (σ σ' : Sg) (pc : Nat) (st rest : List Value) (rv : Option Value) : Prop :=
  ∀ (H : Heap) (locs : List Loc) (ls : Array Slot), va_P D classes (wl ad cI cB σ) H → va_D A (wl ad cI cB σ) → va_S A s.heap H locs → ls.size = nL → ∃ a : Array Value, va_Run p l e R s m args below meth c H locs cells slots 0 0 (F0 m pc ls st) rest (Pst D (wl ad cI cB σ') (Aw ad H.size) rv a) (Aw ad H.size)
theorem V_call (X : Cx p R s m args meth c own cc nL d D ad cI cB A cells slots) {σ' : Sg} {rest : List Value} {rv : Option Value} (hc : CallOK p l e R s m args below meth c nL D ad cI cB A cells slots σ σ' pc st rest rv)
    (kk : V p l e R s m args below meth c nL D A cells slots Q (wl ad cI cB σ') (pc + 3) lv (rv.toList ++ rest)) : V p l e R s m args below meth c nL D A cells slots Q (wl ad cI cB σ) pc lv st := by
  intro H locs ls hP hD hS hl T hT Y
  obtain ⟨a, hr⟩ := hc H locs ls hP hD hS hl.1
  obtain ⟨v, st₀, t, T', L, h0, Y', hL, e1, e2, ⟨⟨hv, hP1, hD1⟩, hz, hk⟩, stp⟩ := hr T hT Y
  cases hv
  rw [h0] at hz hk
  have hAA := jv_AwA hP hD hS X.2.2.2.2.2.2.1
  obtain ⟨t2, a1, b1⟩ := kk T'.heap (locs ++ L) ls (by rw [e1]; exact hP1) (hD1.weaken (fun _ q _ h => hAA q.1 h))
    ⟨Nat.le_trans hS.1 (by rw [e1]; exact hz), fun q h1 h2 => by rw [e1, hk q (Nat.lt_of_lt_of_le h1 hS.1) (fun z => h2 (hAA q z))]; exact hS.2.1 q h1 h2, fun q hq => by
      rcases List.mem_append.mp hq with h | h
      · exact hS.2.2 q h
      · exact hAA _ (hL q h)⟩ hl T' rfl Y'
  exact ⟨t2, stp t2 a1, b1⟩
theorem jv_pre (X : Cx p R s m args meth c own cc nL d D ad cI cB A cells slots) {H : Heap} {locs : List Loc} {av : List Value} (hP : va_P D classes (wl ad cI cB σ) H) (hD : va_D A (wl ad cI cB σ)) (hS : va_S A s.heap H locs) : ∀ U : State, U.heap = H → s.WarmedH U.vm → Pre D ad cI cB (wl ad cI cB σ) H.size av av.toArray U :=
  fun U hU hW => ⟨rfl, by rw [hU], by rw [hU]; exact hP, va_K.moved hW.alike X.2.2.2.2.2.1, hD.weaken (fun _ _ _ _ => trivial), X.2.2.2.2.2.2.2.1.go hS hU hW (jv_AwA hP hD hS X.2.2.2.2.2.2.1)⟩
theorem jv_callB (X : Cx p R s m args meth c own cc nL d D ad cI cB A cells slots) {y : MethodName} {b : ByteArray} {mL : Nat} {ret : Option FieldType} {n dc idx : Nat} (mt : Mt y b mL ret n) (hd : dc + 1 ≤ d) (ml : (Cond.methodLink own idx y).before args s = true) : CallB R s args own idx y b mL ret (Cond.code y b mL ret :: gtbl) { frames := dc, cells := 0, slots := 0, locals := 64 * dc } 0 0 n :=
  callB_of n X.2.2.2.2.1 (jv_good mt.1) rfl rfl rfl (X.2.2.2.2.1 _ mt.2.1) ml ⟨mt.2.2.1.1, mt.2.2.1.2, mt.2.2.2.1⟩ ⟨Nat.le_trans hd X.2.2.2.2.2.2.2.2.1.1, by
    have h1 := X.2.2.2.2.2.2.2.2.1.2.1
    have h2 := mt.2.2.2.2
    show 8 + (mL + 11) + 64 * dc ≤ R.locals
    omega⟩
theorem C_V (X : Cx p R s m args meth c own cc nL d D ad cI cB A cells slots) {y : MethodName} {b : ByteArray} {mL : Nat} {ret : Option FieldType} {n dc idx q k : Nat} {C : String} {T : u_T} {N : Nat} {σ' : Sg} {rv : (Nat → Nat) → Option Value} {av : (Nat → Nat) → List Value} (As : List Value) {rest : List Value} (mt : Mt y b mL ret n) (ms : Cond.instanceMethod y ∈ gtbl ∧ Cond.selects C y y ∈ gtbl) (ml : Cond.methodLink own idx y ∈ gtbl) (hE : Evc y b mL ret dc av σ σ' rv) (hav : av ad = .ref (ad k) :: As) (hn : As.length = n) (hdc : dc + 1 ≤ d) (hr8 : (rest.map fun v => v.category).sum ≤ 8) (hq : classes[q]? = some (C, T, N)) (hk : k < 116) (hc : jv_cls k = q) (hq11 : q < 11) (hd : decode cc pc = .ok (.invokevirtual idx, 3)) :
    CallOK p l e R s m args below meth c nL D ad cI cB A cells slots σ σ' pc (As.reverse ++ .ref (ad k) :: rest) rest (rv ad) := by
  intro H locs ls hP hD hS hsz
  have hM := hE l D ad cI cB H.size
  rw [hav] at hM
  exact ⟨_, va_runV (As := As) (rest := rest) ⟨X.1, X.2.1, X.2.2.1, X.2.2.2.1, X.2.2.2.2.1⟩ hM ⟨jv_callB X mt hdc (X.2.2.2.2.1 _ ml), X.2.2.2.2.1 _ ms.1, X.2.2.2.2.1 _ ms.2⟩ ⟨Pre.blind, jv_recv X hq hk hc hq11 hP, jv_pre X hP hD hS⟩ rfl hn hsz rfl (by simpa [JFrame.monitorRoom] using hr8) hd ⟨X.2.2.2.2.2.2.2.2.1.2.2.1, X.2.2.2.2.2.2.2.2.1.2.2.2⟩⟩
theorem C_S (X : Cx p R s m args meth c own cc nL d D ad cI cB A cells slots) {y : MethodName} {b : ByteArray} {mL : Nat} {ret : Option FieldType} {n dc idx : Nat} {σ' : Sg} {rv : (Nat → Nat) → Option Value} {av : (Nat → Nat) → List Value} (As : List Value) {rest : List Value} (mt : Mt y b mL ret n) (ms : Cond.static y ∈ gtbl) (ml : Cond.methodLink own idx y ∈ gtbl) (hE : Evc y b mL ret dc av σ σ' rv) (hav : av ad = As) (hn : As.length = n) (hdc : dc + 1 ≤ d) (hr8 : (rest.map fun v => v.category).sum ≤ 8) (hd : decode cc pc = .ok (.invokestatic idx, 3)) :
    CallOK p l e R s m args below meth c nL D ad cI cB A cells slots σ σ' pc (As.reverse ++ rest) rest (rv ad) := by
  intro H locs ls hP hD hS hsz
  have hM := hE l D ad cI cB H.size
  rw [hav] at hM
  exact ⟨_, va_runS (As := As) (rest := rest) ⟨X.1, X.2.1, X.2.2.1, X.2.2.2.1, X.2.2.2.2.1⟩ hM ⟨jv_callB X mt hdc (X.2.2.2.2.1 _ ml), X.2.2.2.2.1 _ ms⟩ ⟨Pre.blind, jv_pre X hP hD hS⟩ rfl hn hsz rfl (by simpa [JFrame.monitorRoom] using hr8) hd ⟨X.2.2.2.2.2.2.2.2.1.2.2.1, X.2.2.2.2.2.2.2.2.1.2.2.2⟩⟩
theorem C_SN (X : Cx p R s m args meth c own cc nL d D ad cI cB A cells slots) {y : MethodName} {b : ByteArray} {mL : Nat} {ret : Option FieldType} {n dc idx : Nat} {host : String} {σ' : Sg} {rv : (Nat → Nat) → Option Value} {av : (Nat → Nat) → List Value} (As : List Value) {rest : List Value} (mt : Mt y b mL ret n) (ms : Cond.static y ∈ gtbl) (ml : Cond.methodLinkNest own idx y host ∈ lw_tbl) (hE : Evc y b mL ret dc av σ σ' rv) (hav : av ad = As) (hn : As.length = n) (hdc : dc + 1 ≤ d) (hr8 : (rest.map fun v => v.category).sum ≤ 8) (hd : decode cc pc = .ok (.invokestatic idx, 3)) :
    CallOK p l e R s m args below meth c nL D ad cI cB A cells slots σ σ' pc (As.reverse ++ rest) rest (rv ad) := by
  intro H locs ls hP hD hS hsz
  have hM := hE l D ad cI cB H.size
  rw [hav] at hM
  exact ⟨_, va_runSN (As := As) (rest := rest) ⟨X.1, X.2.1, X.2.2.1, X.2.2.2.1, X.2.2.2.2.1⟩ hM ⟨va_cnB n X.2.2.2.2.1 (jv_good mt.1) rfl rfl rfl (X.2.2.2.2.2.2.2.1.1 _ _ _ _ ml) (X.2.2.2.2.1 _ mt.2.1) ⟨mt.2.2.1.1, mt.2.2.1.2, mt.2.2.2.1⟩ ⟨Nat.le_trans hdc X.2.2.2.2.2.2.2.2.1.1, by
    have h1 := X.2.2.2.2.2.2.2.2.1.2.1
    have h2 := mt.2.2.2.2
    show 8 + (mL + 11) + 64 * dc ≤ R.locals
    omega⟩, X.2.2.2.2.1 _ ms, trivial⟩ ⟨Pre.blind, jv_pre X hP hD hS⟩ rfl hn hsz rfl (by simpa [JFrame.monitorRoom] using hr8) hd ⟨X.2.2.2.2.2.2.2.2.1.2.2.1, X.2.2.2.2.2.2.2.2.1.2.2.2⟩⟩

end VROWS
end
