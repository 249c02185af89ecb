section
-- ===== PART A: goes FIRST, ahead of the names: the tables' words, and 'selects' of the private methods out of them =====
/-- a private method of a class that the tables say can be made, by its rows of tables_1 -/
def lw_okq (q : MethodName × Nat) : Prop := (q.1.cls ≠ "java/lang/invoke/MethodHandle" ∧ q.1.cls ≠ "java/lang/invoke/VarHandle") ∧ Cond.instantiable q.1.cls q.2 ∈ tables_1 ∧ Cond.privateMethod q.1 ∈ tables_1 ∧ Cond.instanceMethod q.1 ∈ tables_1
theorem lw_p0 : lw_okq (⟨"TreePlanks$Script", "step", "()V"⟩, 7) := ⟨⟨by decide +kernel, by decide +kernel⟩, List.mem_of_getElem? (i := 26) (by decide +kernel), List.mem_of_getElem? (i := 342) (by decide +kernel), List.mem_of_getElem? (i := 343) (by decide +kernel)⟩
theorem lw_p1 : lw_okq (⟨"TreePlanks$Script", "stepOverNumber", "()V"⟩, 7) := ⟨⟨by decide +kernel, by decide +kernel⟩, List.mem_of_getElem? (i := 26) (by decide +kernel), List.mem_of_getElem? (i := 350) (by decide +kernel), List.mem_of_getElem? (i := 351) (by decide +kernel)⟩
theorem lw_p2 : lw_okq (⟨"TreePlanks$Script", "readItem", "(LTreePlanks$Tree;)Z"⟩, 7) := ⟨⟨by decide +kernel, by decide +kernel⟩, List.mem_of_getElem? (i := 26) (by decide +kernel), List.mem_of_getElem? (i := 357) (by decide +kernel), List.mem_of_getElem? (i := 358) (by decide +kernel)⟩
theorem lw_p3 : lw_okq (⟨"TreePlanks$Script", "mayStand", "(LTreePlanks$Tree;II)Z"⟩, 7) := ⟨⟨by decide +kernel, by decide +kernel⟩, List.mem_of_getElem? (i := 26) (by decide +kernel), List.mem_of_getElem? (i := 372) (by decide +kernel), List.mem_of_getElem? (i := 373) (by decide +kernel)⟩
theorem lw_p4 : lw_okq (⟨"TreePlanks$Script", "mayBeUnder", "(LTreePlanks$Tree;I)Z"⟩, 7) := ⟨⟨by decide +kernel, by decide +kernel⟩, List.mem_of_getElem? (i := 26) (by decide +kernel), List.mem_of_getElem? (i := 380) (by decide +kernel), List.mem_of_getElem? (i := 381) (by decide +kernel)⟩
theorem lw_p5 : lw_okq (⟨"TreePlanks", "isPlank", "(I)Z"⟩, 13) := ⟨⟨by decide +kernel, by decide +kernel⟩, List.mem_of_getElem? (i := 18) (by decide +kernel), List.mem_of_getElem? (i := 439) (by decide +kernel), List.mem_of_getElem? (i := 440) (by decide +kernel)⟩
theorem lw_p6 : lw_okq (⟨"TreePlanks", "isEnd", "(II)Z"⟩, 13) := ⟨⟨by decide +kernel, by decide +kernel⟩, List.mem_of_getElem? (i := 18) (by decide +kernel), List.mem_of_getElem? (i := 447) (by decide +kernel), List.mem_of_getElem? (i := 448) (by decide +kernel)⟩
theorem lw_p7 : lw_okq (⟨"TreePlanks", "isChild", "(I)Z"⟩, 13) := ⟨⟨by decide +kernel, by decide +kernel⟩, List.mem_of_getElem? (i := 18) (by decide +kernel), List.mem_of_getElem? (i := 467) (by decide +kernel), List.mem_of_getElem? (i := 468) (by decide +kernel)⟩
theorem lw_p8 : lw_okq (⟨"TreePlanks$Scene", "shake", "(III)V"⟩, 1) := ⟨⟨by decide +kernel, by decide +kernel⟩, List.mem_of_getElem? (i := 58) (by decide +kernel), List.mem_of_getElem? (i := 545) (by decide +kernel), List.mem_of_getElem? (i := 546) (by decide +kernel)⟩
theorem lw_p9 : lw_okq (⟨"TreePlanks$Planner", "seek", "(LTreePlanks$Tree;LTreePlanks$Scene;)V"⟩, 6) := ⟨⟨by decide +kernel, by decide +kernel⟩, List.mem_of_getElem? (i := 146) (by decide +kernel), List.mem_of_getElem? (i := 608) (by decide +kernel), List.mem_of_getElem? (i := 609) (by decide +kernel)⟩
theorem lw_p10 : lw_okq (⟨"TreePlanks$Planner", "placeFrom", "(LTreePlanks$Tree;LTreePlanks$Scene;II)V"⟩, 6) := ⟨⟨by decide +kernel, by decide +kernel⟩, List.mem_of_getElem? (i := 146) (by decide +kernel), List.mem_of_getElem? (i := 614) (by decide +kernel), List.mem_of_getElem? (i := 615) (by decide +kernel)⟩
theorem lw_p11 : lw_okq (⟨"TreePlanks$Forecast", "blowAndTell", "(LTreePlanks$Tree;II)I"⟩, 1) := ⟨⟨by decide +kernel, by decide +kernel⟩, List.mem_of_getElem? (i := 173) (by decide +kernel), List.mem_of_getElem? (i := 682) (by decide +kernel), List.mem_of_getElem? (i := 683) (by decide +kernel)⟩
theorem lw_p12 : lw_okq (⟨"TreePlanks$Chance", "blowOnce", "(III)V"⟩, 2) := ⟨⟨by decide +kernel, by decide +kernel⟩, List.mem_of_getElem? (i := 185) (by decide +kernel), List.mem_of_getElem? (i := 710) (by decide +kernel), List.mem_of_getElem? (i := 711) (by decide +kernel)⟩
theorem lw_p13 : lw_okq (⟨"TreePlanks", "fewestPulling", "(II)I"⟩, 13) := ⟨⟨by decide +kernel, by decide +kernel⟩, List.mem_of_getElem? (i := 18) (by decide +kernel), List.mem_of_getElem? (i := 756) (by decide +kernel), List.mem_of_getElem? (i := 757) (by decide +kernel)⟩
theorem lw_p14 : lw_okq (⟨"TreePlanks$Rot", "agrees", "(LTreePlanks$Tree;I)Z"⟩, 6) := ⟨⟨by decide +kernel, by decide +kernel⟩, List.mem_of_getElem? (i := 118) (by decide +kernel), List.mem_of_getElem? (i := 785) (by decide +kernel), List.mem_of_getElem? (i := 786) (by decide +kernel)⟩
theorem lw_p15 : lw_okq (⟨"TreePlanks", "rateChild", "(I)I"⟩, 13) := ⟨⟨by decide +kernel, by decide +kernel⟩, List.mem_of_getElem? (i := 18) (by decide +kernel), List.mem_of_getElem? (i := 811) (by decide +kernel), List.mem_of_getElem? (i := 812) (by decide +kernel)⟩
def lw_privs_1 : List (MethodName × Nat) := [(⟨"TreePlanks$Script", "step", "()V"⟩, 7), (⟨"TreePlanks$Script", "stepOverNumber", "()V"⟩, 7), (⟨"TreePlanks$Script", "readItem", "(LTreePlanks$Tree;)Z"⟩, 7), (⟨"TreePlanks$Script", "mayStand", "(LTreePlanks$Tree;II)Z"⟩, 7), (⟨"TreePlanks$Script", "mayBeUnder", "(LTreePlanks$Tree;I)Z"⟩, 7), (⟨"TreePlanks", "isPlank", "(I)Z"⟩, 13), (⟨"TreePlanks", "isEnd", "(II)Z"⟩, 13), (⟨"TreePlanks", "isChild", "(I)Z"⟩, 13), (⟨"TreePlanks$Scene", "shake", "(III)V"⟩, 1), (⟨"TreePlanks$Planner", "seek", "(LTreePlanks$Tree;LTreePlanks$Scene;)V"⟩, 6), (⟨"TreePlanks$Planner", "placeFrom", "(LTreePlanks$Tree;LTreePlanks$Scene;II)V"⟩, 6), (⟨"TreePlanks$Forecast", "blowAndTell", "(LTreePlanks$Tree;II)I"⟩, 1), (⟨"TreePlanks$Chance", "blowOnce", "(III)V"⟩, 2), (⟨"TreePlanks", "fewestPulling", "(II)I"⟩, 13), (⟨"TreePlanks$Rot", "agrees", "(LTreePlanks$Tree;I)Z"⟩, 6), (⟨"TreePlanks", "rateChild", "(I)I"⟩, 13)]
theorem lw_r1 : ∀ q ∈ lw_privs_1, lw_okq q := List.forall_mem_cons.mpr ⟨lw_p0, List.forall_mem_cons.mpr ⟨lw_p1, List.forall_mem_cons.mpr ⟨lw_p2, List.forall_mem_cons.mpr ⟨lw_p3, List.forall_mem_cons.mpr ⟨lw_p4, List.forall_mem_cons.mpr ⟨lw_p5, List.forall_mem_cons.mpr ⟨lw_p6, List.forall_mem_cons.mpr ⟨lw_p7, List.forall_mem_cons.mpr ⟨lw_p8, List.forall_mem_cons.mpr ⟨lw_p9, List.forall_mem_cons.mpr ⟨lw_p10, List.forall_mem_cons.mpr ⟨lw_p11, List.forall_mem_cons.mpr ⟨lw_p12, List.forall_mem_cons.mpr ⟨lw_p13, List.forall_mem_cons.mpr ⟨lw_p14, List.forall_mem_cons.mpr ⟨lw_p15, fun _ h => absurd h List.not_mem_nil⟩⟩⟩⟩⟩⟩⟩⟩⟩⟩⟩⟩⟩⟩⟩⟩
theorem lw_p16 : lw_okq (⟨"TreePlanks", "rateClimber", "(I)I"⟩, 13) := ⟨⟨by decide +kernel, by decide +kernel⟩, List.mem_of_getElem? (i := 18) (by decide +kernel), List.mem_of_getElem? (i := 815) (by decide +kernel), List.mem_of_getElem? (i := 816) (by decide +kernel)⟩
theorem lw_p17 : lw_okq (⟨"TreePlanks", "rateGuest", "(I)I"⟩, 13) := ⟨⟨by decide +kernel, by decide +kernel⟩, List.mem_of_getElem? (i := 18) (by decide +kernel), List.mem_of_getElem? (i := 820) (by decide +kernel), List.mem_of_getElem? (i := 821) (by decide +kernel)⟩
theorem lw_p18 : lw_okq (⟨"TreePlanks", "rateCaptain", "(I)I"⟩, 13) := ⟨⟨by decide +kernel, by decide +kernel⟩, List.mem_of_getElem? (i := 18) (by decide +kernel), List.mem_of_getElem? (i := 825) (by decide +kernel), List.mem_of_getElem? (i := 826) (by decide +kernel)⟩
theorem lw_p19 : lw_okq (⟨"TreePlanks", "rateNeighbour", "(I)I"⟩, 13) := ⟨⟨by decide +kernel, by decide +kernel⟩, List.mem_of_getElem? (i := 18) (by decide +kernel), List.mem_of_getElem? (i := 830) (by decide +kernel), List.mem_of_getElem? (i := 831) (by decide +kernel)⟩
theorem lw_p20 : lw_okq (⟨"TreePlanks", "rateSister", "(I)I"⟩, 13) := ⟨⟨by decide +kernel, by decide +kernel⟩, List.mem_of_getElem? (i := 18) (by decide +kernel), List.mem_of_getElem? (i := 835) (by decide +kernel), List.mem_of_getElem? (i := 836) (by decide +kernel)⟩
theorem lw_p21 : lw_okq (⟨"TreePlanksModel", "next", "()V"⟩, 34) := ⟨⟨by decide +kernel, by decide +kernel⟩, List.mem_of_getElem? (i := 866) (by decide +kernel), List.mem_of_getElem? (i := 990) (by decide +kernel), List.mem_of_getElem? (i := 991) (by decide +kernel)⟩
theorem lw_p22 : lw_okq (⟨"TreePlanksModel", "letterAt", "(I)I"⟩, 34) := ⟨⟨by decide +kernel, by decide +kernel⟩, List.mem_of_getElem? (i := 866) (by decide +kernel), List.mem_of_getElem? (i := 994) (by decide +kernel), List.mem_of_getElem? (i := 995) (by decide +kernel)⟩
theorem lw_p23 : lw_okq (⟨"TreePlanksModel", "readItem", "()V"⟩, 34) := ⟨⟨by decide +kernel, by decide +kernel⟩, List.mem_of_getElem? (i := 866) (by decide +kernel), List.mem_of_getElem? (i := 998) (by decide +kernel), List.mem_of_getElem? (i := 999) (by decide +kernel)⟩
theorem lw_p24 : lw_okq (⟨"TreePlanksModel", "readBough", "()V"⟩, 34) := ⟨⟨by decide +kernel, by decide +kernel⟩, List.mem_of_getElem? (i := 866) (by decide +kernel), List.mem_of_getElem? (i := 1002) (by decide +kernel), List.mem_of_getElem? (i := 1003) (by decide +kernel)⟩
theorem lw_p25 : lw_okq (⟨"TreePlanksModel", "must", "(Z)V"⟩, 34) := ⟨⟨by decide +kernel, by decide +kernel⟩, List.mem_of_getElem? (i := 866) (by decide +kernel), List.mem_of_getElem? (i := 1006) (by decide +kernel), List.mem_of_getElem? (i := 1007) (by decide +kernel)⟩
theorem lw_p26 : lw_okq (⟨"TreePlanksModel", "readInto", "([IIII)I"⟩, 34) := ⟨⟨by decide +kernel, by decide +kernel⟩, List.mem_of_getElem? (i := 866) (by decide +kernel), List.mem_of_getElem? (i := 1010) (by decide +kernel), List.mem_of_getElem? (i := 1011) (by decide +kernel)⟩
theorem lw_p27 : lw_okq (⟨"TreePlanksModel", "readPlank", "()V"⟩, 34) := ⟨⟨by decide +kernel, by decide +kernel⟩, List.mem_of_getElem? (i := 866) (by decide +kernel), List.mem_of_getElem? (i := 1014) (by decide +kernel), List.mem_of_getElem? (i := 1015) (by decide +kernel)⟩
theorem lw_p28 : lw_okq (⟨"TreePlanksModel", "mayJoin", "(II)Z"⟩, 34) := ⟨⟨by decide +kernel, by decide +kernel⟩, List.mem_of_getElem? (i := 866) (by decide +kernel), List.mem_of_getElem? (i := 1018) (by decide +kernel), List.mem_of_getElem? (i := 1019) (by decide +kernel)⟩
theorem lw_p29 : lw_okq (⟨"TreePlanksModel", "readChild", "()V"⟩, 34) := ⟨⟨by decide +kernel, by decide +kernel⟩, List.mem_of_getElem? (i := 866) (by decide +kernel), List.mem_of_getElem? (i := 1022) (by decide +kernel), List.mem_of_getElem? (i := 1023) (by decide +kernel)⟩
theorem lw_p30 : lw_okq (⟨"TreePlanksModel", "isBough", "(I)Z"⟩, 34) := ⟨⟨by decide +kernel, by decide +kernel⟩, List.mem_of_getElem? (i := 866) (by decide +kernel), List.mem_of_getElem? (i := 1030) (by decide +kernel), List.mem_of_getElem? (i := 1031) (by decide +kernel)⟩
theorem lw_p31 : lw_okq (⟨"TreePlanksModel", "layLoadsNow", "()V"⟩, 34) := ⟨⟨by decide +kernel, by decide +kernel⟩, List.mem_of_getElem? (i := 866) (by decide +kernel), List.mem_of_getElem? (i := 1034) (by decide +kernel), List.mem_of_getElem? (i := 1035) (by decide +kernel)⟩
def lw_privs_2 : List (MethodName × Nat) := [(⟨"TreePlanks", "rateClimber", "(I)I"⟩, 13), (⟨"TreePlanks", "rateGuest", "(I)I"⟩, 13), (⟨"TreePlanks", "rateCaptain", "(I)I"⟩, 13), (⟨"TreePlanks", "rateNeighbour", "(I)I"⟩, 13), (⟨"TreePlanks", "rateSister", "(I)I"⟩, 13), (⟨"TreePlanksModel", "next", "()V"⟩, 34), (⟨"TreePlanksModel", "letterAt", "(I)I"⟩, 34), (⟨"TreePlanksModel", "readItem", "()V"⟩, 34), (⟨"TreePlanksModel", "readBough", "()V"⟩, 34), (⟨"TreePlanksModel", "must", "(Z)V"⟩, 34), (⟨"TreePlanksModel", "readInto", "([IIII)I"⟩, 34), (⟨"TreePlanksModel", "readPlank", "()V"⟩, 34), (⟨"TreePlanksModel", "mayJoin", "(II)Z"⟩, 34), (⟨"TreePlanksModel", "readChild", "()V"⟩, 34), (⟨"TreePlanksModel", "isBough", "(I)Z"⟩, 34), (⟨"TreePlanksModel", "layLoadsNow", "()V"⟩, 34)]
theorem lw_r2 : ∀ q ∈ lw_privs_2, lw_okq q := List.forall_mem_cons.mpr ⟨lw_p16, List.forall_mem_cons.mpr ⟨lw_p17, List.forall_mem_cons.mpr ⟨lw_p18, List.forall_mem_cons.mpr ⟨lw_p19, List.forall_mem_cons.mpr ⟨lw_p20, List.forall_mem_cons.mpr ⟨lw_p21, List.forall_mem_cons.mpr ⟨lw_p22, List.forall_mem_cons.mpr ⟨lw_p23, List.forall_mem_cons.mpr ⟨lw_p24, List.forall_mem_cons.mpr ⟨lw_p25, List.forall_mem_cons.mpr ⟨lw_p26, List.forall_mem_cons.mpr ⟨lw_p27, List.forall_mem_cons.mpr ⟨lw_p28, List.forall_mem_cons.mpr ⟨lw_p29, List.forall_mem_cons.mpr ⟨lw_p30, List.forall_mem_cons.mpr ⟨lw_p31, fun _ h => absurd h List.not_mem_nil⟩⟩⟩⟩⟩⟩⟩⟩⟩⟩⟩⟩⟩⟩⟩⟩
theorem lw_p32 : lw_okq (⟨"TreePlanksModel", "layNow", "()V"⟩, 34) := ⟨⟨by decide +kernel, by decide +kernel⟩, List.mem_of_getElem? (i := 866) (by decide +kernel), List.mem_of_getElem? (i := 1038) (by decide +kernel), List.mem_of_getElem? (i := 1039) (by decide +kernel)⟩
theorem lw_p33 : lw_okq (⟨"TreePlanksModel", "layLoads", "()V"⟩, 34) := ⟨⟨by decide +kernel, by decide +kernel⟩, List.mem_of_getElem? (i := 866) (by decide +kernel), List.mem_of_getElem? (i := 1042) (by decide +kernel), List.mem_of_getElem? (i := 1043) (by decide +kernel)⟩
theorem lw_p34 : lw_okq (⟨"TreePlanksModel", "isPlank", "(I)Z"⟩, 34) := ⟨⟨by decide +kernel, by decide +kernel⟩, List.mem_of_getElem? (i := 866) (by decide +kernel), List.mem_of_getElem? (i := 1050) (by decide +kernel), List.mem_of_getElem? (i := 1051) (by decide +kernel)⟩
theorem lw_p35 : lw_okq (⟨"TreePlanksModel", "isChild", "(I)Z"⟩, 34) := ⟨⟨by decide +kernel, by decide +kernel⟩, List.mem_of_getElem? (i := 866) (by decide +kernel), List.mem_of_getElem? (i := 1065) (by decide +kernel), List.mem_of_getElem? (i := 1066) (by decide +kernel)⟩
theorem lw_p36 : lw_okq (⟨"TreePlanksModel", "layEnds", "()V"⟩, 34) := ⟨⟨by decide +kernel, by decide +kernel⟩, List.mem_of_getElem? (i := 866) (by decide +kernel), List.mem_of_getElem? (i := 1073) (by decide +kernel), List.mem_of_getElem? (i := 1074) (by decide +kernel)⟩
theorem lw_p37 : lw_okq (⟨"TreePlanksModel", "holdsAll", "()Z"⟩, 34) := ⟨⟨by decide +kernel, by decide +kernel⟩, List.mem_of_getElem? (i := 866) (by decide +kernel), List.mem_of_getElem? (i := 1077) (by decide +kernel), List.mem_of_getElem? (i := 1078) (by decide +kernel)⟩
theorem lw_p38 : lw_okq (⟨"TreePlanksModel", "firstHeavy", "()I"⟩, 34) := ⟨⟨by decide +kernel, by decide +kernel⟩, List.mem_of_getElem? (i := 866) (by decide +kernel), List.mem_of_getElem? (i := 1081) (by decide +kernel), List.mem_of_getElem? (i := 1082) (by decide +kernel)⟩
theorem lw_p39 : lw_okq (⟨"TreePlanksModel", "firstWeak", "()I"⟩, 34) := ⟨⟨by decide +kernel, by decide +kernel⟩, List.mem_of_getElem? (i := 866) (by decide +kernel), List.mem_of_getElem? (i := 1085) (by decide +kernel), List.mem_of_getElem? (i := 1086) (by decide +kernel)⟩
theorem lw_p40 : lw_okq (⟨"TreePlanksModel", "firstLost", "()I"⟩, 34) := ⟨⟨by decide +kernel, by decide +kernel⟩, List.mem_of_getElem? (i := 866) (by decide +kernel), List.mem_of_getElem? (i := 1089) (by decide +kernel), List.mem_of_getElem? (i := 1090) (by decide +kernel)⟩
theorem lw_p41 : lw_okq (⟨"TreePlanksModel", "remembers", "()V"⟩, 34) := ⟨⟨by decide +kernel, by decide +kernel⟩, List.mem_of_getElem? (i := 866) (by decide +kernel), List.mem_of_getElem? (i := 1097) (by decide +kernel), List.mem_of_getElem? (i := 1098) (by decide +kernel)⟩
theorem lw_p42 : lw_okq (⟨"TreePlanksModel", "blowsAll", "([III)V"⟩, 34) := ⟨⟨by decide +kernel, by decide +kernel⟩, List.mem_of_getElem? (i := 866) (by decide +kernel), List.mem_of_getElem? (i := 1108) (by decide +kernel), List.mem_of_getElem? (i := 1109) (by decide +kernel)⟩
theorem lw_p43 : lw_okq (⟨"TreePlanksModel", "differ", "(I)I"⟩, 34) := ⟨⟨by decide +kernel, by decide +kernel⟩, List.mem_of_getElem? (i := 866) (by decide +kernel), List.mem_of_getElem? (i := 1112) (by decide +kernel), List.mem_of_getElem? (i := 1113) (by decide +kernel)⟩
theorem lw_p44 : lw_okq (⟨"TreePlanksModel", "outs", "([II)I"⟩, 34) := ⟨⟨by decide +kernel, by decide +kernel⟩, List.mem_of_getElem? (i := 866) (by decide +kernel), List.mem_of_getElem? (i := 1125) (by decide +kernel), List.mem_of_getElem? (i := 1126) (by decide +kernel)⟩
theorem lw_p45 : lw_okq (⟨"TreePlanksModel", "tells", "(IZ)I"⟩, 34) := ⟨⟨by decide +kernel, by decide +kernel⟩, List.mem_of_getElem? (i := 866) (by decide +kernel), List.mem_of_getElem? (i := 1145) (by decide +kernel), List.mem_of_getElem? (i := 1146) (by decide +kernel)⟩
theorem lw_p46 : lw_okq (⟨"TreePlanksModel", "bestRow", "(Z)I"⟩, 34) := ⟨⟨by decide +kernel, by decide +kernel⟩, List.mem_of_getElem? (i := 866) (by decide +kernel), List.mem_of_getElem? (i := 1149) (by decide +kernel), List.mem_of_getElem? (i := 1150) (by decide +kernel)⟩
theorem lw_p47 : lw_okq (⟨"TreePlanksModel", "lays", "(I)V"⟩, 34) := ⟨⟨by decide +kernel, by decide +kernel⟩, List.mem_of_getElem? (i := 866) (by decide +kernel), List.mem_of_getElem? (i := 1153) (by decide +kernel), List.mem_of_getElem? (i := 1154) (by decide +kernel)⟩
def lw_privs_3 : List (MethodName × Nat) := [(⟨"TreePlanksModel", "layNow", "()V"⟩, 34), (⟨"TreePlanksModel", "layLoads", "()V"⟩, 34), (⟨"TreePlanksModel", "isPlank", "(I)Z"⟩, 34), (⟨"TreePlanksModel", "isChild", "(I)Z"⟩, 34), (⟨"TreePlanksModel", "layEnds", "()V"⟩, 34), (⟨"TreePlanksModel", "holdsAll", "()Z"⟩, 34), (⟨"TreePlanksModel", "firstHeavy", "()I"⟩, 34), (⟨"TreePlanksModel", "firstWeak", "()I"⟩, 34), (⟨"TreePlanksModel", "firstLost", "()I"⟩, 34), (⟨"TreePlanksModel", "remembers", "()V"⟩, 34), (⟨"TreePlanksModel", "blowsAll", "([III)V"⟩, 34), (⟨"TreePlanksModel", "differ", "(I)I"⟩, 34), (⟨"TreePlanksModel", "outs", "([II)I"⟩, 34), (⟨"TreePlanksModel", "tells", "(IZ)I"⟩, 34), (⟨"TreePlanksModel", "bestRow", "(Z)I"⟩, 34), (⟨"TreePlanksModel", "lays", "(I)V"⟩, 34)]
theorem lw_r3 : ∀ q ∈ lw_privs_3, lw_okq q := List.forall_mem_cons.mpr ⟨lw_p32, List.forall_mem_cons.mpr ⟨lw_p33, List.forall_mem_cons.mpr ⟨lw_p34, List.forall_mem_cons.mpr ⟨lw_p35, List.forall_mem_cons.mpr ⟨lw_p36, List.forall_mem_cons.mpr ⟨lw_p37, List.forall_mem_cons.mpr ⟨lw_p38, List.forall_mem_cons.mpr ⟨lw_p39, List.forall_mem_cons.mpr ⟨lw_p40, List.forall_mem_cons.mpr ⟨lw_p41, List.forall_mem_cons.mpr ⟨lw_p42, List.forall_mem_cons.mpr ⟨lw_p43, List.forall_mem_cons.mpr ⟨lw_p44, List.forall_mem_cons.mpr ⟨lw_p45, List.forall_mem_cons.mpr ⟨lw_p46, List.forall_mem_cons.mpr ⟨lw_p47, fun _ h => absurd h List.not_mem_nil⟩⟩⟩⟩⟩⟩⟩⟩⟩⟩⟩⟩⟩⟩⟩⟩
theorem lw_p48 : lw_okq (⟨"TreePlanksModel", "worth", "(Z)I"⟩, 34) := ⟨⟨by decide +kernel, by decide +kernel⟩, List.mem_of_getElem? (i := 866) (by decide +kernel), List.mem_of_getElem? (i := 1157) (by decide +kernel), List.mem_of_getElem? (i := 1158) (by decide +kernel)⟩
theorem lw_p49 : lw_okq (⟨"TreePlanksModel", "paid", "()I"⟩, 34) := ⟨⟨by decide +kernel, by decide +kernel⟩, List.mem_of_getElem? (i := 866) (by decide +kernel), List.mem_of_getElem? (i := 1161) (by decide +kernel), List.mem_of_getElem? (i := 1162) (by decide +kernel)⟩
theorem lw_p50 : lw_okq (⟨"TreePlanksModel", "standing", "()I"⟩, 34) := ⟨⟨by decide +kernel, by decide +kernel⟩, List.mem_of_getElem? (i := 866) (by decide +kernel), List.mem_of_getElem? (i := 1165) (by decide +kernel), List.mem_of_getElem? (i := 1166) (by decide +kernel)⟩
theorem lw_p51 : lw_okq (⟨"TreePlanksModel", "firstNew", "()I"⟩, 34) := ⟨⟨by decide +kernel, by decide +kernel⟩, List.mem_of_getElem? (i := 866) (by decide +kernel), List.mem_of_getElem? (i := 1177) (by decide +kernel), List.mem_of_getElem? (i := 1178) (by decide +kernel)⟩
theorem lw_p52 : lw_okq (⟨"TreePlanksModel", "outSet", "()I"⟩, 34) := ⟨⟨by decide +kernel, by decide +kernel⟩, List.mem_of_getElem? (i := 866) (by decide +kernel), List.mem_of_getElem? (i := 1189) (by decide +kernel), List.mem_of_getElem? (i := 1190) (by decide +kernel)⟩
theorem lw_p53 : lw_okq (⟨"TreePlanksModel", "stays", "(IIII)J"⟩, 34) := ⟨⟨by decide +kernel, by decide +kernel⟩, List.mem_of_getElem? (i := 866) (by decide +kernel), List.mem_of_getElem? (i := 1200) (by decide +kernel), List.mem_of_getElem? (i := 1201) (by decide +kernel)⟩
theorem lw_p54 : lw_okq (⟨"TreePlanksModel", "findOrders", "()V"⟩, 34) := ⟨⟨by decide +kernel, by decide +kernel⟩, List.mem_of_getElem? (i := 866) (by decide +kernel), List.mem_of_getElem? (i := 1208) (by decide +kernel), List.mem_of_getElem? (i := 1209) (by decide +kernel)⟩
theorem lw_p55 : lw_okq (⟨"TreePlanksModel", "mayLay", "(II)Z"⟩, 34) := ⟨⟨by decide +kernel, by decide +kernel⟩, List.mem_of_getElem? (i := 866) (by decide +kernel), List.mem_of_getElem? (i := 1212) (by decide +kernel), List.mem_of_getElem? (i := 1213) (by decide +kernel)⟩
theorem lw_p56 : lw_okq (⟨"TreePlanksModel", "mayBeNow", "()I"⟩, 34) := ⟨⟨by decide +kernel, by decide +kernel⟩, List.mem_of_getElem? (i := 866) (by decide +kernel), List.mem_of_getElem? (i := 1242) (by decide +kernel), List.mem_of_getElem? (i := 1243) (by decide +kernel)⟩
theorem lw_p57 : lw_okq (⟨"TreePlanksModel", "breaks", "(III)Z"⟩, 34) := ⟨⟨by decide +kernel, by decide +kernel⟩, List.mem_of_getElem? (i := 866) (by decide +kernel), List.mem_of_getElem? (i := 1246) (by decide +kernel), List.mem_of_getElem? (i := 1247) (by decide +kernel)⟩
theorem lw_p58 : lw_okq (⟨"TreePlanksModel", "childRate", "(I)I"⟩, 34) := ⟨⟨by decide +kernel, by decide +kernel⟩, List.mem_of_getElem? (i := 866) (by decide +kernel), List.mem_of_getElem? (i := 1259) (by decide +kernel), List.mem_of_getElem? (i := 1260) (by decide +kernel)⟩
theorem lw_p59 : lw_okq (⟨"TreePlanksModel", "climberRate", "(I)I"⟩, 34) := ⟨⟨by decide +kernel, by decide +kernel⟩, List.mem_of_getElem? (i := 866) (by decide +kernel), List.mem_of_getElem? (i := 1263) (by decide +kernel), List.mem_of_getElem? (i := 1264) (by decide +kernel)⟩
theorem lw_p60 : lw_okq (⟨"TreePlanksModel", "guestRate", "(I)I"⟩, 34) := ⟨⟨by decide +kernel, by decide +kernel⟩, List.mem_of_getElem? (i := 866) (by decide +kernel), List.mem_of_getElem? (i := 1268) (by decide +kernel), List.mem_of_getElem? (i := 1269) (by decide +kernel)⟩
def lw_privs_4 : List (MethodName × Nat) := [(⟨"TreePlanksModel", "worth", "(Z)I"⟩, 34), (⟨"TreePlanksModel", "paid", "()I"⟩, 34), (⟨"TreePlanksModel", "standing", "()I"⟩, 34), (⟨"TreePlanksModel", "firstNew", "()I"⟩, 34), (⟨"TreePlanksModel", "outSet", "()I"⟩, 34), (⟨"TreePlanksModel", "stays", "(IIII)J"⟩, 34), (⟨"TreePlanksModel", "findOrders", "()V"⟩, 34), (⟨"TreePlanksModel", "mayLay", "(II)Z"⟩, 34), (⟨"TreePlanksModel", "mayBeNow", "()I"⟩, 34), (⟨"TreePlanksModel", "breaks", "(III)Z"⟩, 34), (⟨"TreePlanksModel", "childRate", "(I)I"⟩, 34), (⟨"TreePlanksModel", "climberRate", "(I)I"⟩, 34), (⟨"TreePlanksModel", "guestRate", "(I)I"⟩, 34)]
theorem lw_r4 : ∀ q ∈ lw_privs_4, lw_okq q := List.forall_mem_cons.mpr ⟨lw_p48, List.forall_mem_cons.mpr ⟨lw_p49, List.forall_mem_cons.mpr ⟨lw_p50, List.forall_mem_cons.mpr ⟨lw_p51, List.forall_mem_cons.mpr ⟨lw_p52, List.forall_mem_cons.mpr ⟨lw_p53, List.forall_mem_cons.mpr ⟨lw_p54, List.forall_mem_cons.mpr ⟨lw_p55, List.forall_mem_cons.mpr ⟨lw_p56, List.forall_mem_cons.mpr ⟨lw_p57, List.forall_mem_cons.mpr ⟨lw_p58, List.forall_mem_cons.mpr ⟨lw_p59, List.forall_mem_cons.mpr ⟨lw_p60, fun _ h => absurd h List.not_mem_nil⟩⟩⟩⟩⟩⟩⟩⟩⟩⟩⟩⟩⟩
def lw_privs : List (MethodName × Nat) := lw_privs_1 ++ (lw_privs_2 ++ (lw_privs_3 ++ (lw_privs_4)))
def lw_tbl : List Cond := k2_sels lw_privs ++ tables_1
theorem lw_privs_ok : ∀ q ∈ lw_privs, lw_okq q := by
  show ∀ q ∈ lw_privs_1 ++ (lw_privs_2 ++ (lw_privs_3 ++ (lw_privs_4))), lw_okq q
  exact List.forall_mem_append.mpr ⟨lw_r1, List.forall_mem_append.mpr ⟨lw_r2, List.forall_mem_append.mpr ⟨lw_r3, lw_r4⟩⟩⟩
end
section
/-! ===== BEGIN words of one list among another's, by their places ===== -/
theorem goodIn_r {big : List Cond} (ws : List Cond) (ps : List Nat) (hp : ws = ps.filterMap (fun i => big[i]?)) (h : ws.all goodWord = true) : GoodIn big ws := by
  intro w hw
  have h1 := List.all_eq_true.mp h w hw
  rw [hp] at hw
  obtain ⟨i, -, hi⟩ := List.mem_filterMap.mp hw
  have hm : w ∈ big := by first | exact List.mem_of_getElem? hi | exact List.getElem?_mem hi
  exact ⟨hm, good_of_word h1⟩
theorem goodIn_app {big a b : List Cond} (ha : GoodIn big a) (hb : GoodIn big b) : GoodIn big (a ++ b) := fun w h => (List.mem_append.mp h).elim (ha w) (hb w)
theorem goodIn_ca {big a b : List Cond} {c : Cond} (ha : GoodIn big (c :: a)) (hb : GoodIn big b) : GoodIn big (c :: (a ++ b)) := fun w h => (List.mem_cons.mp h).elim (fun e => ha w (List.mem_cons.mpr (Or.inl e))) (fun h => (List.mem_append.mp h).elim (fun h => ha w (List.mem_cons.mpr (Or.inr h))) (hb w))
theorem goodIn_sub {big ws : List Cond} (hm : ∀ w ∈ ws, w ∈ big) (h : ws.all goodWord = true) : GoodIn big ws := fun w hw => ⟨hm w hw, good_of_word (List.all_eq_true.mp h w hw)⟩
/-! ===== END ===== -/

/-! ===== BEGIN new T[n][m]: the outer array a place, the inner ones among the pooled ===== -/
/-- f, but v at every address of l -/
def vr_up {α : Type} (f : Nat → α) (l : List Nat) (v : α) : Nat → α := fun a => if a ∈ l then v else f a
theorem vr_up_in {α : Type} {f : Nat → α} {l : List Nat} {v : α} {a : Nat} (h : a ∈ l) : vr_up f l v a = v := if_pos h
theorem vr_up_ne {α : Type} {f : Nat → α} {l : List Nat} {v : α} {a : Nat} (h : a ∉ l) : vr_up f l v a = f a := if_neg h
theorem vr_rows {L l : List Nat} {f : Nat → va_E} {e : va_E} (h : ∀ a, a ∈ l → a ∉ L) : va_pl L f ++ l.map (fun a => (a, e)) = va_pl (L ++ l) (vr_up f l e) := by
  unfold va_pl
  rw [List.map_append]
  congr 1
  · apply List.map_congr_left
    intro a ha
    rw [vr_up_ne (fun q => h a q ha)]
  · apply List.map_congr_left
    intro a ha
    rw [vr_up_in ha]
theorem vr_lay {X rows : va_W} {x : Nat × va_E} {pl : va_W} {D : va_G} {cl : List vw_C} {H : Heap} (hP : va_P D cl (((X ++ pl) ++ [x]) ++ rows) H) : va_P D cl ((X ++ [x]) ++ (pl ++ rows)) H := by
  rw [List.append_assoc (X ++ pl)] at hP
  have h := va_P.swap hP
  rw [← List.append_assoc X] at h
  have h2 := va_P.swap h
  rw [List.append_assoc (X ++ [x])] at h2
  exact h2
theorem vr_layD {X rows : va_W} {x : Nat × va_E} {pl : va_W} {A : Nat → Prop} (hD : va_D A (((X ++ pl) ++ [x]) ++ rows)) : va_D A ((X ++ [x]) ++ (pl ++ rows)) := by
  rw [List.append_assoc (X ++ pl)] at hD
  have h := va_D.swap hD
  rw [← List.append_assoc X] at h
  have h2 := va_D.swap h
  rw [List.append_assoc (X ++ [x])] at h2
  exact h2
theorem vr_outer (c : ClassId) (N h0 : Nat) : ∀ i : Nat, Jvm.Free.Multi.outerC c N h0 i = arrV c N (fun j => va_rf (if j < i then some (h0 + 1 + j) else none))
  | 0 => by
    show ({ cls := c, slots := Array.replicate N .null, vm := .none } : Cell) = _
    rw [arrV_new]
    refine congrArg (arrV c N) (funext fun j => ?_)
    simp [va_rf]
  | i + 1 => by
    show (Jvm.Free.Multi.outerC c N h0 i).setSlot i (.ref (h0 + 1 + i)) = _
    rw [vr_outer c N h0 i, arrV_store]
    refine congrArg (arrV c N) (funext fun j => ?_)
    by_cases e : j = i
    · subst e
      simp [updV, va_rf]
    · by_cases h : j < i
      · simp [updV, e, h, Nat.lt_succ_of_lt h]
      · simp [updV, e, h, show ¬ j < i + 1 by omega]
section VGM
variable {p : Program} {l : Launch} {e : Env} {R : Room} {s : State} {m : MethodId} {args : Array Value} {below : List Frame} {meth : Method} {c : Code} {H : Heap} {locs : List Loc} {cells slots : Nat} {Q : State → Prop}
variable {cc : ByteArray} {pc : Nat} {ls : Array Slot} {rest : List Value} {D : va_G} {cl : List vw_C} {A : Nat → Prop} {a : Nat} {tys : List (ClassId × FieldType)} {ws : va_W} {H0 : Heap}
theorem va_mna {X : va_W} {L : List Nat} {f : Nat → va_E} {cc : ByteArray} (hexec : p.tables.exec = Jvm.exec) (hb : c.code = cc) {own : String} {index : Nat} {ty : FieldType} {cy : ClassId} (hown : s.vm.findClass own = some m.cls) (hclink : (Cond.classLink own index ("[" ++ (FieldType.array ty).toString)).before args s = true) (hover : (Cond.arrayOver (.array ty)).before args s = true) (harr : (Cond.arrayClass ty).before args s = true) (hcy : s.vm.findClass (FieldType.array ty).toString = some cy)
    (hK : va_K D cl tys s) (hP : va_P D cl (X ++ va_pl L f) H) (hD : va_D A (X ++ va_pl L f)) (hS : va_S A H0 H locs) (hA : ∀ q, H0.size ≤ q → A q) {n k : Int32} {N' K' : Nat} {z : vp_A} (hn : ¬ n < 0) (hk : ¬ k < 0) (hN : n.toNatClampNeg = N') (hM : k.toNatClampNeg = K')
    (hb1 : N' * 4 ≤ 536870912) (hb2 : K' * componentBytes ty ≤ 536870912) (hb3 : K' ≤ 536870912) (hdf : fits ty (defaultValue ty) = true) (hdd : (defaultValue ty).isDefault = true) (hcells : cells + (1 + N') ≤ R.cells) (hslots : slots + (N' + N' * K') ≤ R.slots) (hz : ∀ c : ClassId, Jvm.Free.Multi.innerC c K' (defaultValue ty) = vp_cell c z) (hdg : decode cc pc = .ok (.multianewarray index 2, 4))
    (kk : ∀ (q : Nat) (r : Nat → Nat) (cA : ClassId) (H1 : Heap), (∀ i j : Nat, i < N' → j < N' → r i = r j → i = j) → (∀ i : Nat, i < N' → r i ∉ L) → va_K D cl (tys ++ [(cA, .array ty)]) s →
      va_P D cl ((X ++ [(q, .inl (cA, N', .inr (.inr (.inr (.inr (fun i => if i < N' then some (r i) else none))))))]) ++ va_pl (L ++ (List.range N').map r) (vr_up f ((List.range N').map r) (.inl (cy, z)))) H1 → va_D A ((X ++ [(q, .inl (cA, N', .inr (.inr (.inr (.inr (fun i => if i < N' then some (r i) else none))))))]) ++ va_pl (L ++ (List.range N').map r) (vr_up f ((List.range N').map r) (.inl (cy, z)))) → va_S A H0 H1 locs →
      W p l e R s m args below meth c H1 locs (cells + 1 + N') (slots + N' + N' * K') Q (F0 m (pc + 4) ls (.ref q :: rest))) : W p l e R s m args below meth c H locs cells slots Q (F0 m pc ls (.int k :: .int n :: rest)) := by
  subst hN
  subst hM
  intro T hT Xs
  obtain ⟨vm₁, cA, comp, -, fA, fC, hO, -, X', step⟩ := Xs.multianewarray2F hexec hown hclink hover harr (g := F0 m pc ls (.int k :: .int n :: rest)) rfl (by rw [hb]; exact hdg) rfl hn hk hb1 hb2 hb3 hdf hdd hcells hslots
  have ec : some cy = some comp := hcy.symm.trans fC
  cases ec
  generalize hF : Jvm.Free.Multi.fill (T.setVm vm₁) cA cy n.toNatClampNeg k.toNatClampNeg (defaultValue ty) n.toNatClampNeg = F at X' step
  have hTh : (T.setVm vm₁).heap = H := hT
  obtain ⟨f1, f2, -, -⟩ := Jvm.Free.Multi.fill_facts (T.setVm vm₁) cA cy n.toNatClampNeg k.toNatClampNeg (defaultValue ty) n.toNatClampNeg
  rw [hF, hTh] at f1 f2
  have hold : ∀ x : Nat, x < H.size → F.heap[x]? = H[x]? := fun x hx => by
    have := Jvm.Free.Multi.fill_old (T.setVm vm₁) cA cy n.toNatClampNeg k.toNatClampNeg (defaultValue ty) (a := x) (by rw [hTh]; exact hx) n.toNatClampNeg
    rw [hF, hTh] at this
    exact this
  have hrow : ∀ j : Nat, j < n.toNatClampNeg → F.heap[H.size + 1 + j]? = some (vp_cell cy z) := fun j hj => by
    have := Jvm.Free.Multi.fill_inner (T.setVm vm₁) cA cy n.toNatClampNeg k.toNatClampNeg (defaultValue ty) n.toNatClampNeg j hj
    rw [hF, hTh, hz] at this
    exact this
  have hout : Jvm.Free.Multi.outerC cA n.toNatClampNeg H.size n.toNatClampNeg = vp_cell cA (n.toNatClampNeg, .inr (.inr (.inr (.inr (fun i => if i < n.toNatClampNeg then some (H.size + 1 + i) else none))))) := by
    rw [vp_cell_q]
    exact vr_outer cA n.toNatClampNeg H.size n.toNatClampNeg
  rw [hout] at f2
  have hlt : ∀ a, a ∈ L → a < H.size := fun a ha => by
    obtain ⟨k9, hk9⟩ := va_pl_get (X := X) (f := f) ha
    exact (hP k9 _ hk9).lt
  have hnl : ∀ i : Nat, i < n.toNatClampNeg → H.size + 1 + i ∉ L := fun i _ h => by
    have := hlt _ h
    omega
  have hnm : ∀ a, a ∈ (List.range n.toNatClampNeg).map (fun i => H.size + 1 + i) → a ∉ L := fun a ha h => by
    obtain ⟨i, -, rfl⟩ := List.mem_map.mp ha
    have := hlt _ h
    omega
  have hP0 : va_P D cl (X ++ va_pl L f) F.heap := hP.kept (fun k9 x hx => hold x.1 ((hP k9 x hx).lt))
  have hP1 : va_P D cl ((X ++ va_pl L f) ++ [(H.size, .inl (cA, n.toNatClampNeg, .inr (.inr (.inr (.inr (fun i => if i < n.toNatClampNeg then some (H.size + 1 + i) else none))))))]) F.heap := hP0.app (fun k9 x hx => by
    have h0 : k9 < 1 := (List.getElem?_eq_some_iff.mp hx).1
    rw [show k9 = 0 by omega] at hx
    cases hx
    exact f2)
  have hP2 : va_P D cl (((X ++ va_pl L f) ++ [(H.size, .inl (cA, n.toNatClampNeg, .inr (.inr (.inr (.inr (fun i => if i < n.toNatClampNeg then some (H.size + 1 + i) else none))))))]) ++ ((List.range n.toNatClampNeg).map (fun i => H.size + 1 + i)).map (fun a => (a, .inl (cy, z)))) F.heap := hP1.app (fun k9 x hx => by
    obtain ⟨a, ha, rfl⟩ := List.mem_map.mp (List.mem_of_getElem? hx)
    obtain ⟨i, hi, rfl⟩ := List.mem_map.mp ha
    exact hrow i (List.mem_range.mp hi))
  have hD2 : va_D A (((X ++ va_pl L f) ++ [(H.size, .inl (cA, n.toNatClampNeg, .inr (.inr (.inr (.inr (fun i => if i < n.toNatClampNeg then some (H.size + 1 + i) else none))))))]) ++ ((List.range n.toNatClampNeg).map (fun i => H.size + 1 + i)).map (fun a => (a, .inl (cy, z)))) := by
    have hD1 := hD.push (e := .inl (cA, n.toNatClampNeg, .inr (.inr (.inr (.inr (fun i => if i < n.toNatClampNeg then some (H.size + 1 + i) else none)))))) hP rfl (hA _ hS.1)
    generalize hW1 : (X ++ va_pl L f) ++ [(H.size, .inl (cA, n.toNatClampNeg, .inr (.inr (.inr (.inr (fun i => if i < n.toNatClampNeg then some (H.size + 1 + i) else none))))))] = W1 at hD1 hP1 ⊢
    have hle : ∀ (k9 : Nat) (x : Nat × va_E), W1[k9]? = some x → x.1 ≤ H.size := fun k9 x hx => by
      rw [← hW1] at hx
      by_cases hl : k9 < (X ++ va_pl L f).length
      · rw [List.getElem?_append_left hl] at hx
        exact Nat.le_of_lt ((hP k9 x hx).lt)
      · rw [List.getElem?_append_right (by omega)] at hx
        have h0 : k9 - (X ++ va_pl L f).length < 1 := (List.getElem?_eq_some_iff.mp hx).1
        rw [show k9 - (X ++ va_pl L f).length = 0 by omega] at hx
        cases hx
        exact Nat.le_refl _
    have hr : ∀ (k9 : Nat) (x : Nat × va_E), (((List.range n.toNatClampNeg).map (fun i => H.size + 1 + i)).map (fun a => ((a, .inl (cy, z)) : Nat × va_E)))[k9]? = some x → x.1 = H.size + 1 + k9 := fun k9 x hx => by
      rw [List.getElem?_map, List.getElem?_map] at hx
      by_cases h9 : k9 < n.toNatClampNeg
      · rw [List.getElem?_range h9] at hx
        cases hx
        rfl
      · have hn0 : (List.range n.toNatClampNeg)[k9]? = none := List.getElem?_eq_none (by rw [List.length_range]; omega)
        rw [hn0] at hx
        cases hx
    refine ⟨fun i j x y hi hj hxy => ?_, fun k9 x hx => ?_⟩
    · by_cases h1 : i < W1.length <;> by_cases h2 : j < W1.length
      · rw [List.getElem?_append_left h1] at hi
        rw [List.getElem?_append_left h2] at hj
        exact hD1.1 i j x y hi hj hxy
      · rw [List.getElem?_append_left h1] at hi
        rw [List.getElem?_append_right (by omega)] at hj
        have := hle _ _ hi
        have := hr _ _ hj
        omega
      · rw [List.getElem?_append_right (by omega)] at hi
        rw [List.getElem?_append_left h2] at hj
        have := hle _ _ hj
        have := hr _ _ hi
        omega
      · rw [List.getElem?_append_right (by omega)] at hi hj
        have := hr _ _ hi
        have := hr _ _ hj
        omega
    · by_cases h1 : k9 < W1.length
      · rw [List.getElem?_append_left h1] at hx
        exact hD1.2 k9 x hx
      · rw [List.getElem?_append_right (by omega)] at hx
        have := hr _ _ hx
        exact hA _ (by have := hS.1; omega)
  have hAr : ArrOfT s cA (.array ty) := fun N9 z9 => by
    obtain ⟨-, k9, hk9, cm9, hkk9⟩ := (hO 0 0 0).1
    exact ⟨(fun q hq => by cases hq), k9, hk9, cm9, hkk9⟩
  have hK2 : va_K D cl (tys ++ [(cA, .array ty)]) s := ⟨hK.1, fun k9 x hx => by
    by_cases hl : k9 < tys.length
    · rw [List.getElem?_append_left hl] at hx
      exact hK.2 k9 x hx
    · rw [List.getElem?_append_right (by omega)] at hx
      have h0 : k9 - tys.length < 1 := (List.getElem?_eq_some_iff.mp hx).1
      rw [show k9 - tys.length = 0 by omega] at hx
      cases hx
      exact ⟨hAr, fA⟩⟩
  obtain ⟨t, a1, b1⟩ := kk H.size (fun i => H.size + 1 + i) cA F.heap (fun i j _ _ h => by have h9 : H.size + 1 + i = H.size + 1 + j := h; omega) hnl hK2 (by rw [← vr_rows hnm]; exact vr_lay hP2) (by rw [← vr_rows hnm]; exact vr_layD hD2) ⟨by rw [f1]; have := hS.1; omega, fun x h1 h2 => (hold x (Nat.lt_of_lt_of_le h1 hS.1)).trans (hS.2.1 x h1 h2), hS.2.2⟩ F rfl X'
  refine ⟨t, step t ?_, b1⟩
  have e : T.heap.size = H.size := by rw [hT]
  rw [e]
  exact a1
end VGM
/-! ===== END ===== -/

def RX0 : String := "TreePlanks$Album"
def TX0 : u_T := fun k => match k with
  | 0 => ("TreePlanks$Album", "rows", "[[I", true)
  | _ => ("TreePlanks$Album", "kept", "[Z", true)
def tyX0 : Nat → FieldType := fun k => match k with
  | 0 => .array (.array .int)
  | _ => .array .boolean
abbrev wsX00 : List Cond := u_ws RX0 TX0 2
theorem nmX0 : ∀ a, a < 2 → ∀ b, b < 2 → a ≠ b → (TX0 a).2.1 ≠ (TX0 b).2.1 := by decide +kernel
theorem tyX0_ok : ∀ k, k < 2 → parseFieldDescriptor (TX0 k).2.2.1 = some (tyX0 k) := by decide +kernel
abbrev cX0_init : ByteArray := prog_2_method_1_code
def yX0_init : MethodName := ⟨RX0, "<init>", "()V"⟩
abbrev cX0_paint : ByteArray := prog_2_method_2_code
def yX0_paint : MethodName := ⟨RX0, "paint", "(ILTreePlanks$Scene;)V"⟩
abbrev cX0_show : ByteArray := prog_2_method_3_code
def yX0_show : MethodName := ⟨RX0, "show", "(ILTreePlanks$Scene;)Z"⟩
abbrev cX0_lose : ByteArray := prog_2_method_4_code
def yX0_lose : MethodName := ⟨RX0, "lose", "()V"⟩
def RX1 : String := "TreePlanks$Burden"
def TX1 : u_T := fun k => match k with
  | 0 => ("TreePlanks$Burden", "load", "[I", true)
  | _ => ("TreePlanks$Burden", "bears", "[I", true)
def tyX1 : Nat → FieldType := fun k => match k with
  | 0 => .array .int
  | _ => .array .int
abbrev wsX10 : List Cond := u_ws RX1 TX1 2
theorem nmX1 : ∀ a, a < 2 → ∀ b, b < 2 → a ≠ b → (TX1 a).2.1 ≠ (TX1 b).2.1 := by decide +kernel
theorem tyX1_ok : ∀ k, k < 2 → parseFieldDescriptor (TX1 k).2.2.1 = some (tyX1 k) := by decide +kernel
abbrev cX1_init : ByteArray := prog_3_method_1_code
def yX1_init : MethodName := ⟨RX1, "<init>", "()V"⟩
abbrev cX1_empty : ByteArray := prog_3_method_2_code
def yX1_empty : MethodName := ⟨RX1, "empty", "()V"⟩
abbrev cX1_weigh : ByteArray := prog_3_method_3_code
def yX1_weigh : MethodName := ⟨RX1, "weigh", "(LTreePlanks$Tree;LTreePlanks$Scene;)V"⟩
abbrev cX1_add : ByteArray := prog_3_method_4_code
def yX1_add : MethodName := ⟨RX1, "add", "(LTreePlanks$Tree;II)V"⟩
abbrev cX1_fits : ByteArray := prog_3_method_5_code
def yX1_fits : MethodName := ⟨RX1, "fits", "(LTreePlanks$Tree;I)Z"⟩
abbrev cX1_allHold : ByteArray := prog_3_method_6_code
def yX1_allHold : MethodName := ⟨RX1, "allHold", "(LTreePlanks$Tree;LTreePlanks$Scene;)Z"⟩
abbrev cX1_firstTooLaden : ByteArray := prog_3_method_7_code
def yX1_firstTooLaden : MethodName := ⟨RX1, "firstTooLaden", "(LTreePlanks$Tree;)I"⟩
abbrev cX1_firstTooBent : ByteArray := prog_3_method_8_code
def yX1_firstTooBent : MethodName := ⟨RX1, "firstTooBent", "(LTreePlanks$Tree;)I"⟩
abbrev cX1_firstUnheld : ByteArray := prog_3_method_9_code
def yX1_firstUnheld : MethodName := ⟨RX1, "firstUnheld", "(LTreePlanks$Tree;LTreePlanks$Scene;)I"⟩
def RX2 : String := "TreePlanks$Chance"
def TX2 : u_T := fun k => match k with
  | 0 => ("TreePlanks$Chance", "ways", "[J", true)
  | _ => ("TreePlanks$Chance", "moved", "[J", true)
def tyX2 : Nat → FieldType := fun k => match k with
  | 0 => .array .long
  | _ => .array .long
abbrev wsX20 : List Cond := u_ws RX2 TX2 2
theorem nmX2 : ∀ a, a < 2 → ∀ b, b < 2 → a ≠ b → (TX2 a).2.1 ≠ (TX2 b).2.1 := by decide +kernel
theorem tyX2_ok : ∀ k, k < 2 → parseFieldDescriptor (TX2 k).2.2.1 = some (tyX2 k) := by decide +kernel
abbrev cX2_init : ByteArray := prog_4_method_1_code
def yX2_init : MethodName := ⟨RX2, "<init>", "()V"⟩
abbrev cX2_allWays : ByteArray := prog_4_method_2_code
def yX2_allWays : MethodName := ⟨RX2, "allWays", "(I)J"⟩
abbrev cX2_waysToStay : ByteArray := prog_4_method_3_code
def yX2_waysToStay : MethodName := ⟨RX2, "waysToStay", "(IIII)J"⟩
abbrev cX2_blowOnce : ByteArray := prog_4_method_4_code
def yX2_blowOnce : MethodName := ⟨RX2, "blowOnce", "(III)V"⟩
abbrev cX2_greatestShared : ByteArray := prog_4_method_5_code
def yX2_greatestShared : MethodName := ⟨RX2, "greatestShared", "(JJ)J"⟩
def RX3 : String := "TreePlanks$Forecast"
def TX3 : u_T := fun k => match k with
  | _ => ("TreePlanks$Forecast", "later", "LTreePlanks$Scene;", true)
def tyX3 : Nat → FieldType := fun k => match k with
  | _ => .object "TreePlanks$Scene"
abbrev wsX30 : List Cond := u_ws RX3 TX3 1
theorem nmX3 : ∀ a, a < 1 → ∀ b, b < 1 → a ≠ b → (TX3 a).2.1 ≠ (TX3 b).2.1 := by decide +kernel
theorem tyX3_ok : ∀ k, k < 1 → parseFieldDescriptor (TX3 k).2.2.1 = some (tyX3 k) := by decide +kernel
abbrev cX3_init : ByteArray := prog_5_method_1_code
def yX3_init : MethodName := ⟨RX3, "<init>", "()V"⟩
abbrev cX3_galesToFirstOut : ByteArray := prog_5_method_2_code
def yX3_galesToFirstOut : MethodName := ⟨RX3, "galesToFirstOut", "(LTreePlanks$Tree;LTreePlanks$Scene;I)I"⟩
abbrev cX3_endFirstOut : ByteArray := prog_5_method_3_code
def yX3_endFirstOut : MethodName := ⟨RX3, "endFirstOut", "(LTreePlanks$Tree;LTreePlanks$Scene;I)I"⟩
abbrev cX3_galesToFall : ByteArray := prog_5_method_4_code
def yX3_galesToFall : MethodName := ⟨RX3, "galesToFall", "(LTreePlanks$Tree;LTreePlanks$Scene;LTreePlanks$Burden;I)I"⟩
abbrev cX3_lostBehind : ByteArray := prog_5_method_5_code
def yX3_lostBehind : MethodName := ⟨RX3, "lostBehind", "(LTreePlanks$Tree;LTreePlanks$Scene;II)I"⟩
abbrev cX3_lostIfBolted : ByteArray := prog_5_method_6_code
def yX3_lostIfBolted : MethodName := ⟨RX3, "lostIfBolted", "(LTreePlanks$Tree;LTreePlanks$Scene;II)I"⟩
abbrev cX3_blowAndTell : ByteArray := prog_5_method_7_code
def yX3_blowAndTell : MethodName := ⟨RX3, "blowAndTell", "(LTreePlanks$Tree;II)I"⟩
def RX4 : String := "TreePlanks$Laying"
def TX4 : u_T := fun k => match k with
  | _ => ("TreePlanks$Laying", "ways", "[I", true)
def tyX4 : Nat → FieldType := fun k => match k with
  | _ => .array .int
abbrev wsX40 : List Cond := u_ws RX4 TX4 1
theorem nmX4 : ∀ a, a < 1 → ∀ b, b < 1 → a ≠ b → (TX4 a).2.1 ≠ (TX4 b).2.1 := by decide +kernel
theorem tyX4_ok : ∀ k, k < 1 → parseFieldDescriptor (TX4 k).2.2.1 = some (tyX4 k) := by decide +kernel
abbrev cX4_init : ByteArray := prog_6_method_1_code
def yX4_init : MethodName := ⟨RX4, "<init>", "()V"⟩
abbrev cX4_howMany : ByteArray := prog_6_method_2_code
def yX4_howMany : MethodName := ⟨RX4, "howMany", "(LTreePlanks$Tree;)I"⟩
abbrev cX4_ofFirst : ByteArray := prog_6_method_3_code
def yX4_ofFirst : MethodName := ⟨RX4, "ofFirst", "(LTreePlanks$Tree;I)I"⟩
abbrev cX4_neverLaid : ByteArray := prog_6_method_4_code
def yX4_neverLaid : MethodName := ⟨RX4, "neverLaid", "(LTreePlanks$Tree;)I"⟩
abbrev cX4_leastNext : ByteArray := prog_6_method_5_code
def yX4_leastNext : MethodName := ⟨RX4, "leastNext", "(LTreePlanks$Tree;I)I"⟩
abbrev cX4_canFollow : ByteArray := prog_6_method_6_code
def yX4_canFollow : MethodName := ⟨RX4, "canFollow", "(LTreePlanks$Tree;III)Z"⟩
abbrev cX4_reachedBy : ByteArray := prog_6_method_7_code
def yX4_reachedBy : MethodName := ⟨RX4, "reachedBy", "(LTreePlanks$Tree;I)I"⟩
def RX5 : String := "TreePlanks$Past"
def TX5 : u_T := fun k => match k with
  | 0 => ("TreePlanks$Past", "rows", "[[I", true)
  | 1 => ("TreePlanks$Past", "known", "I", false)
  | _ => ("TreePlanks$Past", "next", "I", false)
def tyX5 : Nat → FieldType := fun k => match k with
  | 0 => .array (.array .int)
  | 1 => .int
  | _ => .int
abbrev wsX50 : List Cond := u_ws RX5 TX5 3
theorem nmX5 : ∀ a, a < 3 → ∀ b, b < 3 → a ≠ b → (TX5 a).2.1 ≠ (TX5 b).2.1 := by decide +kernel
theorem tyX5_ok : ∀ k, k < 3 → parseFieldDescriptor (TX5 k).2.2.1 = some (tyX5 k) := by decide +kernel
abbrev cX5_init : ByteArray := prog_7_method_1_code
def yX5_init : MethodName := ⟨RX5, "<init>", "()V"⟩
abbrev cX5_remember : ByteArray := prog_7_method_2_code
def yX5_remember : MethodName := ⟨RX5, "remember", "(LTreePlanks$Scene;)V"⟩
abbrev cX5_takeBack : ByteArray := prog_7_method_3_code
def yX5_takeBack : MethodName := ⟨RX5, "takeBack", "(LTreePlanks$Scene;)Z"⟩
abbrev cX5_lose : ByteArray := prog_7_method_4_code
def yX5_lose : MethodName := ⟨RX5, "lose", "()V"⟩
def RX6 : String := "TreePlanks$Planner"
def TX6 : u_T := fun k => match k with
  | 0 => ("TreePlanks$Planner", "burden", "LTreePlanks$Burden;", true)
  | 1 => ("TreePlanks$Planner", "worth", "[I", true)
  | 2 => ("TreePlanks$Planner", "hope", "[I", true)
  | 3 => ("TreePlanks$Planner", "row", "[I", true)
  | 4 => ("TreePlanks$Planner", "best", "[I", true)
  | _ => ("TreePlanks$Planner", "bestSum", "I", false)
def tyX6 : Nat → FieldType := fun k => match k with
  | 0 => .object "TreePlanks$Burden"
  | 1 => .array .int
  | 2 => .array .int
  | 3 => .array .int
  | 4 => .array .int
  | _ => .int
abbrev wsX60 : List Cond := u_ws RX6 TX6 6
theorem nmX6 : ∀ a, a < 6 → ∀ b, b < 6 → a ≠ b → (TX6 a).2.1 ≠ (TX6 b).2.1 := by decide +kernel
theorem tyX6_ok : ∀ k, k < 6 → parseFieldDescriptor (TX6 k).2.2.1 = some (tyX6 k) := by decide +kernel
abbrev cX6_init : ByteArray := prog_8_method_1_code
def yX6_init : MethodName := ⟨RX6, "<init>", "()V"⟩
abbrev cX6_seekMost : ByteArray := prog_8_method_2_code
def yX6_seekMost : MethodName := ⟨RX6, "seekMost", "(LTreePlanks$Tree;LTreePlanks$Scene;)V"⟩
abbrev cX6_seekRichest : ByteArray := prog_8_method_3_code
def yX6_seekRichest : MethodName := ⟨RX6, "seekRichest", "(LTreePlanks$Tree;LTreePlanks$Scene;)V"⟩
abbrev cX6_placeOf : ByteArray := prog_8_method_4_code
def yX6_placeOf : MethodName := ⟨RX6, "placeOf", "(I)I"⟩
abbrev cX6_howMany : ByteArray := prog_8_method_5_code
def yX6_howMany : MethodName := ⟨RX6, "howMany", "(LTreePlanks$Tree;)I"⟩
abbrev cX6_howMuch : ByteArray := prog_8_method_6_code
def yX6_howMuch : MethodName := ⟨RX6, "howMuch", "(LTreePlanks$Tree;)I"⟩
abbrev cX6_seek : ByteArray := prog_8_method_7_code
def yX6_seek : MethodName := ⟨RX6, "seek", "(LTreePlanks$Tree;LTreePlanks$Scene;)V"⟩
abbrev cX6_placeFrom : ByteArray := prog_8_method_8_code
def yX6_placeFrom : MethodName := ⟨RX6, "placeFrom", "(LTreePlanks$Tree;LTreePlanks$Scene;II)V"⟩
def RX7 : String := "TreePlanks$Rot"
def TX7 : u_T := fun k => match k with
  | 0 => ("TreePlanks$Rot", "tests", "I", false)
  | 1 => ("TreePlanks$Rot", "trialPlank", "I", false)
  | 2 => ("TreePlanks$Rot", "trialLoad", "I", false)
  | 3 => ("TreePlanks$Rot", "plank", "[I", true)
  | 4 => ("TreePlanks$Rot", "load", "[I", true)
  | _ => ("TreePlanks$Rot", "broke", "[I", true)
def tyX7 : Nat → FieldType := fun k => match k with
  | 0 => .int
  | 1 => .int
  | 2 => .int
  | 3 => .array .int
  | 4 => .array .int
  | _ => .array .int
abbrev wsX70 : List Cond := u_ws RX7 TX7 6
theorem nmX7 : ∀ a, a < 6 → ∀ b, b < 6 → a ≠ b → (TX7 a).2.1 ≠ (TX7 b).2.1 := by decide +kernel
theorem tyX7_ok : ∀ k, k < 6 → parseFieldDescriptor (TX7 k).2.2.1 = some (tyX7 k) := by decide +kernel
abbrev cX7_init : ByteArray := prog_9_method_1_code
def yX7_init : MethodName := ⟨RX7, "<init>", "()V"⟩
abbrev cX7_note : ByteArray := prog_9_method_2_code
def yX7_note : MethodName := ⟨RX7, "note", "(III)Z"⟩
abbrev cX7_suspects : ByteArray := prog_9_method_3_code
def yX7_suspects : MethodName := ⟨RX7, "suspects", "(LTreePlanks$Tree;)I"⟩
abbrev cX7_agrees : ByteArray := prog_9_method_4_code
def yX7_agrees : MethodName := ⟨RX7, "agrees", "(LTreePlanks$Tree;I)Z"⟩
abbrev cX7_breaks : ByteArray := prog_9_method_5_code
def yX7_breaks : MethodName := ⟨RX7, "breaks", "(LTreePlanks$Tree;III)Z"⟩
abbrev cX7_seekTrial : ByteArray := prog_9_method_6_code
def yX7_seekTrial : MethodName := ⟨RX7, "seekTrial", "(LTreePlanks$Tree;)V"⟩
abbrev cX7_leftAtWorst : ByteArray := prog_9_method_7_code
def yX7_leftAtWorst : MethodName := ⟨RX7, "leftAtWorst", "(LTreePlanks$Tree;III)I"⟩
def RX8 : String := "TreePlanks$Scene"
def TX8 : u_T := fun k => match k with
  | _ => ("TreePlanks$Scene", "cells", "[I", true)
def tyX8 : Nat → FieldType := fun k => match k with
  | _ => .array .int
abbrev wsX80 : List Cond := u_ws RX8 TX8 1
theorem nmX8 : ∀ a, a < 1 → ∀ b, b < 1 → a ≠ b → (TX8 a).2.1 ≠ (TX8 b).2.1 := by decide +kernel
theorem tyX8_ok : ∀ k, k < 1 → parseFieldDescriptor (TX8 k).2.2.1 = some (tyX8 k) := by decide +kernel
abbrev cX8_init : ByteArray := prog_10_method_1_code
def yX8_init : MethodName := ⟨RX8, "<init>", "()V"⟩
abbrev cX8_begin : ByteArray := prog_10_method_2_code
def yX8_begin : MethodName := ⟨RX8, "begin", "(LTreePlanks$Tree;)V"⟩
abbrev cX8_copyFrom : ByteArray := prog_10_method_3_code
def yX8_copyFrom : MethodName := ⟨RX8, "copyFrom", "([I)V"⟩
abbrev cX8_copyTo : ByteArray := prog_10_method_4_code
def yX8_copyTo : MethodName := ⟨RX8, "copyTo", "([I)V"⟩
abbrev cX8_plankUnder : ByteArray := prog_10_method_5_code
def yX8_plankUnder : MethodName := ⟨RX8, "plankUnder", "(I)I"⟩
abbrev cX8_kindOf : ByteArray := prog_10_method_6_code
def yX8_kindOf : MethodName := ⟨RX8, "kindOf", "(I)I"⟩
abbrev cX8_wearOf : ByteArray := prog_10_method_7_code
def yX8_wearOf : MethodName := ⟨RX8, "wearOf", "(I)I"⟩
abbrev cX8_isOut : ByteArray := prog_10_method_8_code
def yX8_isOut : MethodName := ⟨RX8, "isOut", "(I)Z"⟩
abbrev cX8_gales : ByteArray := prog_10_method_9_code
def yX8_gales : MethodName := ⟨RX8, "gales", "()I"⟩
abbrev cX8_put : ByteArray := prog_10_method_10_code
def yX8_put : MethodName := ⟨RX8, "put", "(II)V"⟩
abbrev cX8_doAnew : ByteArray := prog_10_method_11_code
def yX8_doAnew : MethodName := ⟨RX8, "doAnew", "(II)V"⟩
abbrev cX8_blow : ByteArray := prog_10_method_12_code
def yX8_blow : MethodName := ⟨RX8, "blow", "(LTreePlanks$Tree;I)V"⟩
abbrev cX8_shake : ByteArray := prog_10_method_13_code
def yX8_shake : MethodName := ⟨RX8, "shake", "(III)V"⟩
abbrev cX8_growBark : ByteArray := prog_10_method_14_code
def yX8_growBark : MethodName := ⟨RX8, "growBark", "(LTreePlanks$Tree;)I"⟩
abbrev cX8_outs : ByteArray := prog_10_method_15_code
def yX8_outs : MethodName := ⟨RX8, "outs", "(LTreePlanks$Tree;)I"⟩
abbrev cX8_outBits : ByteArray := prog_10_method_16_code
def yX8_outBits : MethodName := ⟨RX8, "outBits", "(LTreePlanks$Tree;)I"⟩
abbrev cX8_hasBothEnds : ByteArray := prog_10_method_17_code
def yX8_hasBothEnds : MethodName := ⟨RX8, "hasBothEnds", "(I)Z"⟩
def RX9 : String := "TreePlanks$Script"
def TX9 : u_T := fun k => match k with
  | 0 => ("TreePlanks$Script", "letters", "[I", true)
  | 1 => ("TreePlanks$Script", "length", "I", false)
  | 2 => ("TreePlanks$Script", "next", "I", false)
  | 3 => ("TreePlanks$Script", "place", "I", false)
  | 4 => ("TreePlanks$Script", "token", "I", false)
  | 5 => ("TreePlanks$Script", "value", "I", false)
  | _ => ("TreePlanks$Script", "told", "[I", true)
def tyX9 : Nat → FieldType := fun k => match k with
  | 0 => .array .int
  | 1 => .int
  | 2 => .int
  | 3 => .int
  | 4 => .int
  | 5 => .int
  | _ => .array .int
abbrev wsX90 : List Cond := u_ws RX9 TX9 7
theorem nmX9 : ∀ a, a < 7 → ∀ b, b < 7 → a ≠ b → (TX9 a).2.1 ≠ (TX9 b).2.1 := by decide +kernel
theorem tyX9_ok : ∀ k, k < 7 → parseFieldDescriptor (TX9 k).2.2.1 = some (tyX9 k) := by decide +kernel
abbrev cX9_init : ByteArray := prog_11_method_1_code
def yX9_init : MethodName := ⟨RX9, "<init>", "()V"⟩
abbrev cX9_append : ByteArray := prog_11_method_2_code
def yX9_append : MethodName := ⟨RX9, "append", "(I)Z"⟩
abbrev cX9_readInto : ByteArray := prog_11_method_3_code
def yX9_readInto : MethodName := ⟨RX9, "readInto", "(LTreePlanks$Tree;)I"⟩
abbrev cX9_readItem : ByteArray := prog_11_method_4_code
def yX9_readItem : MethodName := ⟨RX9, "readItem", "(LTreePlanks$Tree;)Z"⟩
abbrev cX9_numbersOf : ByteArray := prog_11_method_5_code
def yX9_numbersOf : MethodName := ⟨RX9, "numbersOf", "(I)I"⟩
abbrev cX9_mayStand : ByteArray := prog_11_method_6_code
def yX9_mayStand : MethodName := ⟨RX9, "mayStand", "(LTreePlanks$Tree;II)Z"⟩
abbrev cX9_mayBeUnder : ByteArray := prog_11_method_7_code
def yX9_mayBeUnder : MethodName := ⟨RX9, "mayBeUnder", "(LTreePlanks$Tree;I)Z"⟩
abbrev cX9_step : ByteArray := prog_11_method_8_code
def yX9_step : MethodName := ⟨RX9, "step", "()V"⟩
abbrev cX9_stepOverNumber : ByteArray := prog_11_method_9_code
def yX9_stepOverNumber : MethodName := ⟨RX9, "stepOverNumber", "()V"⟩
abbrev cX9_isDigit : ByteArray := prog_11_method_10_code
def yX9_isDigit : MethodName := ⟨RX9, "isDigit", "(I)Z"⟩
abbrev cX9_isMark : ByteArray := prog_11_method_11_code
def yX9_isMark : MethodName := ⟨RX9, "isMark", "(I)Z"⟩
def RX10 : String := "TreePlanks$Tree"
def TX10 : u_T := fun k => match k with
  | 0 => ("TreePlanks$Tree", "boughs", "I", false)
  | 1 => ("TreePlanks$Tree", "planks", "I", false)
  | 2 => ("TreePlanks$Tree", "children", "I", false)
  | 3 => ("TreePlanks$Tree", "height", "[I", true)
  | 4 => ("TreePlanks$Tree", "strong", "[I", true)
  | 5 => ("TreePlanks$Tree", "sway", "[I", true)
  | 6 => ("TreePlanks$Tree", "holds", "[I", true)
  | 7 => ("TreePlanks$Tree", "at", "[I", true)
  | 8 => ("TreePlanks$Tree", "laid", "[I", true)
  | 9 => ("TreePlanks$Tree", "weight", "[I", true)
  | _ => ("TreePlanks$Tree", "paid", "[I", true)
def tyX10 : Nat → FieldType := fun k => match k with
  | 0 => .int
  | 1 => .int
  | 2 => .int
  | 3 => .array .int
  | 4 => .array .int
  | 5 => .array .int
  | 6 => .array .int
  | 7 => .array .int
  | 8 => .array .int
  | 9 => .array .int
  | _ => .array .int
abbrev wsX100 : List Cond := u_ws RX10 TX10 11
theorem nmX10 : ∀ a, a < 11 → ∀ b, b < 11 → a ≠ b → (TX10 a).2.1 ≠ (TX10 b).2.1 := by decide +kernel
theorem tyX10_ok : ∀ k, k < 11 → parseFieldDescriptor (TX10 k).2.2.1 = some (tyX10 k) := by decide +kernel
abbrev cX10_init : ByteArray := prog_12_method_1_code
def yX10_init : MethodName := ⟨RX10, "<init>", "()V"⟩
abbrev cX10_strip : ByteArray := prog_12_method_2_code
def yX10_strip : MethodName := ⟨RX10, "strip", "()V"⟩
abbrev cX10_hasRoomFor : ByteArray := prog_12_method_3_code
def yX10_hasRoomFor : MethodName := ⟨RX10, "hasRoomFor", "(I)Z"⟩
abbrev cX10_take : ByteArray := prog_12_method_4_code
def yX10_take : MethodName := ⟨RX10, "take", "(I[I)V"⟩
abbrev cX10_ends : ByteArray := prog_12_method_5_code
def yX10_ends : MethodName := ⟨RX10, "ends", "()I"⟩
abbrev cX10_swayAcross : ByteArray := prog_12_method_6_code
def yX10_swayAcross : MethodName := ⟨RX10, "swayAcross", "(I)I"⟩
abbrev cX10_farApart : ByteArray := prog_12_method_7_code
def yX10_farApart : MethodName := ⟨RX10, "farApart", "(II)Z"⟩
abbrev cX10_weightOf : ByteArray := prog_12_method_8_code
def yX10_weightOf : MethodName := ⟨RX10, "weightOf", "(I)I"⟩
abbrev cX10_boughsOf : ByteArray := prog_12_method_9_code
def yX10_boughsOf : MethodName := ⟨RX10, "boughsOf", "(I)I"⟩
def RX11 : String := "TreePlanks"
def TX11 : u_T := fun k => match k with
  | 0 => ("TreePlanks", "script", "LTreePlanks$Script;", true)
  | 1 => ("TreePlanks", "scene", "LTreePlanks$Scene;", true)
  | 2 => ("TreePlanks", "burden", "LTreePlanks$Burden;", true)
  | 3 => ("TreePlanks", "past", "LTreePlanks$Past;", true)
  | 4 => ("TreePlanks", "album", "LTreePlanks$Album;", true)
  | 5 => ("TreePlanks", "rot", "LTreePlanks$Rot;", true)
  | 6 => ("TreePlanks", "planner", "LTreePlanks$Planner;", true)
  | 7 => ("TreePlanks", "forecast", "LTreePlanks$Forecast;", true)
  | 8 => ("TreePlanks", "chance", "LTreePlanks$Chance;", true)
  | 9 => ("TreePlanks", "laying", "LTreePlanks$Laying;", true)
  | 10 => ("TreePlanks", "grown", "LTreePlanks$Tree;", false)
  | 11 => ("TreePlanks", "spare", "LTreePlanks$Tree;", false)
  | _ => ("TreePlanks", "bodies", "J", false)
def tyX11 : Nat → FieldType := fun k => match k with
  | 0 => .object "TreePlanks$Script"
  | 1 => .object "TreePlanks$Scene"
  | 2 => .object "TreePlanks$Burden"
  | 3 => .object "TreePlanks$Past"
  | 4 => .object "TreePlanks$Album"
  | 5 => .object "TreePlanks$Rot"
  | 6 => .object "TreePlanks$Planner"
  | 7 => .object "TreePlanks$Forecast"
  | 8 => .object "TreePlanks$Chance"
  | 9 => .object "TreePlanks$Laying"
  | 10 => .object "TreePlanks$Tree"
  | 11 => .object "TreePlanks$Tree"
  | _ => .long
abbrev wsX110 : List Cond := u_ws RX11 TX11 13
theorem nmX11 : ∀ a, a < 13 → ∀ b, b < 13 → a ≠ b → (TX11 a).2.1 ≠ (TX11 b).2.1 := by decide +kernel
theorem tyX11_ok : ∀ k, k < 13 → parseFieldDescriptor (TX11 k).2.2.1 = some (tyX11 k) := by decide +kernel
abbrev cX11_init : ByteArray := prog_1_method_1_code
def yX11_init : MethodName := ⟨RX11, "<init>", "()V"⟩
abbrev cX11_type : ByteArray := prog_1_method_2_code
def yX11_type : MethodName := ⟨RX11, "type", "(I)I"⟩
abbrev cX11_clear : ByteArray := prog_1_method_3_code
def yX11_clear : MethodName := ⟨RX11, "clear", "()I"⟩
abbrev cX11_tree : ByteArray := prog_1_method_4_code
def yX11_tree : MethodName := ⟨RX11, "tree", "()I"⟩
abbrev cX11_bough : ByteArray := prog_1_method_5_code
def yX11_bough : MethodName := ⟨RX11, "bough", "(II)I"⟩
abbrev cX11_plank : ByteArray := prog_1_method_6_code
def yX11_plank : MethodName := ⟨RX11, "plank", "(II)I"⟩
abbrev cX11_end : ByteArray := prog_1_method_7_code
def yX11_end : MethodName := ⟨RX11, "end", "(III)I"⟩
abbrev cX11_child : ByteArray := prog_1_method_8_code
def yX11_child : MethodName := ⟨RX11, "child", "(II)I"⟩
abbrev cX11_now : ByteArray := prog_1_method_9_code
def yX11_now : MethodName := ⟨RX11, "now", "(I)I"⟩
abbrev cX11_stands : ByteArray := prog_1_method_10_code
def yX11_stands : MethodName := ⟨RX11, "stands", "(II)I"⟩
abbrev cX11_gale : ByteArray := prog_1_method_11_code
def yX11_gale : MethodName := ⟨RX11, "gale", "(I)I"⟩
abbrev cX11_join : ByteArray := prog_1_method_12_code
def yX11_join : MethodName := ⟨RX11, "join", "(III)I"⟩
abbrev cX11_spring : ByteArray := prog_1_method_13_code
def yX11_spring : MethodName := ⟨RX11, "spring", "()I"⟩
abbrev cX11_undo : ByteArray := prog_1_method_14_code
def yX11_undo : MethodName := ⟨RX11, "undo", "()I"⟩
abbrev cX11_most : ByteArray := prog_1_method_15_code
def yX11_most : MethodName := ⟨RX11, "most", "(I)I"⟩
abbrev cX11_richest : ByteArray := prog_1_method_16_code
def yX11_richest : MethodName := ⟨RX11, "richest", "(I)I"⟩
abbrev cX11_firstOut : ByteArray := prog_1_method_17_code
def yX11_firstOut : MethodName := ⟨RX11, "firstOut", "(II)I"⟩
abbrev cX11_holdsFor : ByteArray := prog_1_method_18_code
def yX11_holdsFor : MethodName := ⟨RX11, "holdsFor", "(I)I"⟩
abbrev cX11_bolts : ByteArray := prog_1_method_19_code
def yX11_bolts : MethodName := ⟨RX11, "bolts", "(III)I"⟩
abbrev cX11_odds : ByteArray := prog_1_method_20_code
def yX11_odds : MethodName := ⟨RX11, "odds", "(IIII)J"⟩
abbrev cX11_orders : ByteArray := prog_1_method_21_code
def yX11_orders : MethodName := ⟨RX11, "orders", "(I)I"⟩
abbrev cX11_barred : ByteArray := prog_1_method_22_code
def yX11_barred : MethodName := ⟨RX11, "barred", "()I"⟩
abbrev cX11_hoist : ByteArray := prog_1_method_23_code
def yX11_hoist : MethodName := ⟨RX11, "hoist", "(II)I"⟩
abbrev cX11_test : ByteArray := prog_1_method_24_code
def yX11_test : MethodName := ⟨RX11, "test", "(III)I"⟩
abbrev cX11_forget : ByteArray := prog_1_method_25_code
def yX11_forget : MethodName := ⟨RX11, "forget", "()I"⟩
abbrev cX11_mayBe : ByteArray := prog_1_method_26_code
def yX11_mayBe : MethodName := ⟨RX11, "mayBe", "()I"⟩
abbrev cX11_ask : ByteArray := prog_1_method_27_code
def yX11_ask : MethodName := ⟨RX11, "ask", "(I)I"⟩
abbrev cX11_rate : ByteArray := prog_1_method_28_code
def yX11_rate : MethodName := ⟨RX11, "rate", "(II)I"⟩
abbrev cX11_keep : ByteArray := prog_1_method_29_code
def yX11_keep : MethodName := ⟨RX11, "keep", "(I)I"⟩
abbrev cX11_back : ByteArray := prog_1_method_30_code
def yX11_back : MethodName := ⟨RX11, "back", "(I)I"⟩
abbrev cX11_count : ByteArray := prog_1_method_31_code
def yX11_count : MethodName := ⟨RX11, "count", "(I)I"⟩
abbrev cX11_trace : ByteArray := prog_1_method_32_code
def yX11_trace : MethodName := ⟨RX11, "trace", "()J"⟩
abbrev cX11_within : ByteArray := prog_1_method_33_code
def yX11_within : MethodName := ⟨RX11, "within", "(III)Z"⟩
abbrev cX11_isForce : ByteArray := prog_1_method_34_code
def yX11_isForce : MethodName := ⟨RX11, "isForce", "(I)Z"⟩
abbrev cX11_isPlank : ByteArray := prog_1_method_35_code
def yX11_isPlank : MethodName := ⟨RX11, "isPlank", "(I)Z"⟩
abbrev cX11_isEnd : ByteArray := prog_1_method_36_code
def yX11_isEnd : MethodName := ⟨RX11, "isEnd", "(II)Z"⟩
abbrev cX11_isChild : ByteArray := prog_1_method_37_code
def yX11_isChild : MethodName := ⟨RX11, "isChild", "(I)Z"⟩
abbrev cX11_fewestPulling : ByteArray := prog_1_method_38_code
def yX11_fewestPulling : MethodName := ⟨RX11, "fewestPulling", "(II)I"⟩
abbrev cX11_rateChild : ByteArray := prog_1_method_39_code
def yX11_rateChild : MethodName := ⟨RX11, "rateChild", "(I)I"⟩
abbrev cX11_rateClimber : ByteArray := prog_1_method_40_code
def yX11_rateClimber : MethodName := ⟨RX11, "rateClimber", "(I)I"⟩
abbrev cX11_rateGuest : ByteArray := prog_1_method_41_code
def yX11_rateGuest : MethodName := ⟨RX11, "rateGuest", "(I)I"⟩
abbrev cX11_rateCaptain : ByteArray := prog_1_method_42_code
def yX11_rateCaptain : MethodName := ⟨RX11, "rateCaptain", "(I)I"⟩
abbrev cX11_rateNeighbour : ByteArray := prog_1_method_43_code
def yX11_rateNeighbour : MethodName := ⟨RX11, "rateNeighbour", "(I)I"⟩
abbrev cX11_rateSister : ByteArray := prog_1_method_44_code
def yX11_rateSister : MethodName := ⟨RX11, "rateSister", "(I)I"⟩
abbrev cX11_growth : ByteArray := prog_1_method_45_code
def yX11_growth : MethodName := ⟨RX11, "growth", "(III)I"⟩
abbrev cX11_givesAt : ByteArray := prog_1_method_46_code
def yX11_givesAt : MethodName := ⟨RX11, "givesAt", "(I)I"⟩
def RX12 : String := "TreePlanksModel"
def TX12 : u_T := fun k => match k with
  | 0 => ("TreePlanksModel", "boughs", "I", false)
  | 1 => ("TreePlanksModel", "bough", "[I", true)
  | 2 => ("TreePlanksModel", "planks", "I", false)
  | 3 => ("TreePlanksModel", "plank", "[I", true)
  | 4 => ("TreePlanksModel", "children", "I", false)
  | 5 => ("TreePlanksModel", "child", "[I", true)
  | 6 => ("TreePlanksModel", "st", "[I", true)
  | 7 => ("TreePlanksModel", "was", "[I", true)
  | 8 => ("TreePlanksModel", "known", "I", false)
  | 9 => ("TreePlanksModel", "images", "[I", true)
  | 10 => ("TreePlanksModel", "isKept", "[Z", true)
  | 11 => ("TreePlanksModel", "tests", "I", false)
  | 12 => ("TreePlanksModel", "test", "[I", true)
  | 13 => ("TreePlanksModel", "trace", "J", false)
  | 14 => ("TreePlanksModel", "text", "[I", true)
  | 15 => ("TreePlanksModel", "texted", "I", false)
  | 16 => ("TreePlanksModel", "cursor", "I", false)
  | 17 => ("TreePlanksModel", "start", "I", false)
  | 18 => ("TreePlanksModel", "token", "I", false)
  | 19 => ("TreePlanksModel", "number", "I", false)
  | 20 => ("TreePlanksModel", "isWrong", "Z", false)
  | 21 => ("TreePlanksModel", "saidBoughs", "I", false)
  | 22 => ("TreePlanksModel", "saidBough", "[I", true)
  | 23 => ("TreePlanksModel", "saidPlanks", "I", false)
  | 24 => ("TreePlanksModel", "saidPlank", "[I", true)
  | 25 => ("TreePlanksModel", "saidChildren", "I", false)
  | 26 => ("TreePlanksModel", "saidChild", "[I", true)
  | 27 => ("TreePlanksModel", "on", "[I", true)
  | 28 => ("TreePlanksModel", "load", "[I", true)
  | 29 => ("TreePlanksModel", "bears", "[I", true)
  | 30 => ("TreePlanksModel", "ends", "[I", true)
  | 31 => ("TreePlanksModel", "ways", "[J", true)
  | 32 => ("TreePlanksModel", "then", "[J", true)
  | _ => ("TreePlanksModel", "orders", "[I", true)
def tyX12 : Nat → FieldType := fun k => match k with
  | 0 => .int
  | 1 => .array .int
  | 2 => .int
  | 3 => .array .int
  | 4 => .int
  | 5 => .array .int
  | 6 => .array .int
  | 7 => .array .int
  | 8 => .int
  | 9 => .array .int
  | 10 => .array .boolean
  | 11 => .int
  | 12 => .array .int
  | 13 => .long
  | 14 => .array .int
  | 15 => .int
  | 16 => .int
  | 17 => .int
  | 18 => .int
  | 19 => .int
  | 20 => .boolean
  | 21 => .int
  | 22 => .array .int
  | 23 => .int
  | 24 => .array .int
  | 25 => .int
  | 26 => .array .int
  | 27 => .array .int
  | 28 => .array .int
  | 29 => .array .int
  | 30 => .array .int
  | 31 => .array .long
  | 32 => .array .long
  | _ => .array .int
abbrev wsX120 : List Cond := u_ws RX12 TX12 34
theorem nmX12 : ∀ a, a < 34 → ∀ b, b < 34 → a ≠ b → (TX12 a).2.1 ≠ (TX12 b).2.1 := by decide +kernel
theorem tyX12_ok : ∀ k, k < 34 → parseFieldDescriptor (TX12 k).2.2.1 = some (tyX12 k) := by decide +kernel
abbrev cX12_init : ByteArray := prog_14_method_1_code
def yX12_init : MethodName := ⟨RX12, "<init>", "()V"⟩
abbrev cX12_in : ByteArray := prog_14_method_3_code
def yX12_in : MethodName := ⟨RX12, "in", "(III)Z"⟩
abbrev cX12_has : ByteArray := prog_14_method_4_code
def yX12_has : MethodName := ⟨RX12, "has", "(II)Z"⟩
abbrev cX12_bits : ByteArray := prog_14_method_5_code
def yX12_bits : MethodName := ⟨RX12, "bits", "(I)I"⟩
abbrev cX12_isBough : ByteArray := prog_14_method_6_code
def yX12_isBough : MethodName := ⟨RX12, "isBough", "(I)Z"⟩
abbrev cX12_isPlank : ByteArray := prog_14_method_7_code
def yX12_isPlank : MethodName := ⟨RX12, "isPlank", "(I)Z"⟩
abbrev cX12_isChild : ByteArray := prog_14_method_8_code
def yX12_isChild : MethodName := ⟨RX12, "isChild", "(I)Z"⟩
abbrev cX12_isForce : ByteArray := prog_14_method_9_code
def yX12_isForce : MethodName := ⟨RX12, "isForce", "(I)Z"⟩
abbrev cX12_type : ByteArray := prog_14_method_10_code
def yX12_type : MethodName := ⟨RX12, "type", "(I)I"⟩
abbrev cX12_clear : ByteArray := prog_14_method_11_code
def yX12_clear : MethodName := ⟨RX12, "clear", "()I"⟩
abbrev cX12_letterAt : ByteArray := prog_14_method_12_code
def yX12_letterAt : MethodName := ⟨RX12, "letterAt", "(I)I"⟩
abbrev cX12_next : ByteArray := prog_14_method_13_code
def yX12_next : MethodName := ⟨RX12, "next", "()V"⟩
abbrev cX12_must : ByteArray := prog_14_method_14_code
def yX12_must : MethodName := ⟨RX12, "must", "(Z)V"⟩
abbrev cX12_readInto : ByteArray := prog_14_method_15_code
def yX12_readInto : MethodName := ⟨RX12, "readInto", "([IIII)I"⟩
abbrev cX12_readBough : ByteArray := prog_14_method_16_code
def yX12_readBough : MethodName := ⟨RX12, "readBough", "()V"⟩
abbrev cX12_mayJoin : ByteArray := prog_14_method_17_code
def yX12_mayJoin : MethodName := ⟨RX12, "mayJoin", "(II)Z"⟩
abbrev cX12_readPlank : ByteArray := prog_14_method_18_code
def yX12_readPlank : MethodName := ⟨RX12, "readPlank", "()V"⟩
abbrev cX12_readChild : ByteArray := prog_14_method_19_code
def yX12_readChild : MethodName := ⟨RX12, "readChild", "()V"⟩
abbrev cX12_readItem : ByteArray := prog_14_method_20_code
def yX12_readItem : MethodName := ⟨RX12, "readItem", "()V"⟩
abbrev cX12_tree : ByteArray := prog_14_method_21_code
def yX12_tree : MethodName := ⟨RX12, "tree", "()I"⟩
abbrev cX12_layNow : ByteArray := prog_14_method_22_code
def yX12_layNow : MethodName := ⟨RX12, "layNow", "()V"⟩
abbrev cX12_layLoads : ByteArray := prog_14_method_23_code
def yX12_layLoads : MethodName := ⟨RX12, "layLoads", "()V"⟩
abbrev cX12_layLoadsNow : ByteArray := prog_14_method_24_code
def yX12_layLoadsNow : MethodName := ⟨RX12, "layLoadsNow", "()V"⟩
abbrev cX12_layEnds : ByteArray := prog_14_method_25_code
def yX12_layEnds : MethodName := ⟨RX12, "layEnds", "()V"⟩
abbrev cX12_firstHeavy : ByteArray := prog_14_method_26_code
def yX12_firstHeavy : MethodName := ⟨RX12, "firstHeavy", "()I"⟩
abbrev cX12_firstWeak : ByteArray := prog_14_method_27_code
def yX12_firstWeak : MethodName := ⟨RX12, "firstWeak", "()I"⟩
abbrev cX12_firstLost : ByteArray := prog_14_method_28_code
def yX12_firstLost : MethodName := ⟨RX12, "firstLost", "()I"⟩
abbrev cX12_holdsAll : ByteArray := prog_14_method_29_code
def yX12_holdsAll : MethodName := ⟨RX12, "holdsAll", "()Z"⟩
abbrev cX12_outs : ByteArray := prog_14_method_30_code
def yX12_outs : MethodName := ⟨RX12, "outs", "([II)I"⟩
abbrev cX12_differ : ByteArray := prog_14_method_31_code
def yX12_differ : MethodName := ⟨RX12, "differ", "(I)I"⟩
abbrev cX12_givesAt : ByteArray := prog_14_method_32_code
def yX12_givesAt : MethodName := ⟨RX12, "givesAt", "(I)I"⟩
abbrev cX12_wears : ByteArray := prog_14_method_33_code
def yX12_wears : MethodName := ⟨RX12, "wears", "(III)I"⟩
abbrev cX12_blows : ByteArray := prog_14_method_34_code
def yX12_blows : MethodName := ⟨RX12, "blows", "([IIII)V"⟩
abbrev cX12_blowsAll : ByteArray := prog_14_method_35_code
def yX12_blowsAll : MethodName := ⟨RX12, "blowsAll", "([III)V"⟩
abbrev cX12_bough : ByteArray := prog_14_method_36_code
def yX12_bough : MethodName := ⟨RX12, "bough", "(II)I"⟩
abbrev cX12_plank : ByteArray := prog_14_method_37_code
def yX12_plank : MethodName := ⟨RX12, "plank", "(II)I"⟩
abbrev cX12_endAt : ByteArray := prog_14_method_38_code
def yX12_endAt : MethodName := ⟨RX12, "endAt", "(II)I"⟩
abbrev cX12_end : ByteArray := prog_14_method_39_code
def yX12_end : MethodName := ⟨RX12, "end", "(III)I"⟩
abbrev cX12_child : ByteArray := prog_14_method_40_code
def yX12_child : MethodName := ⟨RX12, "child", "(II)I"⟩
abbrev cX12_now : ByteArray := prog_14_method_41_code
def yX12_now : MethodName := ⟨RX12, "now", "(I)I"⟩
abbrev cX12_remembers : ByteArray := prog_14_method_42_code
def yX12_remembers : MethodName := ⟨RX12, "remembers", "()V"⟩
abbrev cX12_stands : ByteArray := prog_14_method_43_code
def yX12_stands : MethodName := ⟨RX12, "stands", "(II)I"⟩
abbrev cX12_gale : ByteArray := prog_14_method_44_code
def yX12_gale : MethodName := ⟨RX12, "gale", "(I)I"⟩
abbrev cX12_join : ByteArray := prog_14_method_45_code
def yX12_join : MethodName := ⟨RX12, "join", "(III)I"⟩
abbrev cX12_spring : ByteArray := prog_14_method_46_code
def yX12_spring : MethodName := ⟨RX12, "spring", "()I"⟩
abbrev cX12_undo : ByteArray := prog_14_method_47_code
def yX12_undo : MethodName := ⟨RX12, "undo", "()I"⟩
abbrev cX12_lays : ByteArray := prog_14_method_48_code
def yX12_lays : MethodName := ⟨RX12, "lays", "(I)V"⟩
abbrev cX12_standing : ByteArray := prog_14_method_49_code
def yX12_standing : MethodName := ⟨RX12, "standing", "()I"⟩
abbrev cX12_paid : ByteArray := prog_14_method_50_code
def yX12_paid : MethodName := ⟨RX12, "paid", "()I"⟩
abbrev cX12_worth : ByteArray := prog_14_method_51_code
def yX12_worth : MethodName := ⟨RX12, "worth", "(Z)I"⟩
abbrev cX12_bestRow : ByteArray := prog_14_method_52_code
def yX12_bestRow : MethodName := ⟨RX12, "bestRow", "(Z)I"⟩
abbrev cX12_tells : ByteArray := prog_14_method_53_code
def yX12_tells : MethodName := ⟨RX12, "tells", "(IZ)I"⟩
abbrev cX12_most : ByteArray := prog_14_method_54_code
def yX12_most : MethodName := ⟨RX12, "most", "(I)I"⟩
abbrev cX12_richest : ByteArray := prog_14_method_55_code
def yX12_richest : MethodName := ⟨RX12, "richest", "(I)I"⟩
abbrev cX12_firstNew : ByteArray := prog_14_method_56_code
def yX12_firstNew : MethodName := ⟨RX12, "firstNew", "()I"⟩
abbrev cX12_firstOut : ByteArray := prog_14_method_57_code
def yX12_firstOut : MethodName := ⟨RX12, "firstOut", "(II)I"⟩
abbrev cX12_holdsFor : ByteArray := prog_14_method_58_code
def yX12_holdsFor : MethodName := ⟨RX12, "holdsFor", "(I)I"⟩
abbrev cX12_outSet : ByteArray := prog_14_method_59_code
def yX12_outSet : MethodName := ⟨RX12, "outSet", "()I"⟩
abbrev cX12_bolts : ByteArray := prog_14_method_60_code
def yX12_bolts : MethodName := ⟨RX12, "bolts", "(III)I"⟩
abbrev cX12_stays : ByteArray := prog_14_method_61_code
def yX12_stays : MethodName := ⟨RX12, "stays", "(IIII)J"⟩
abbrev cX12_odds : ByteArray := prog_14_method_62_code
def yX12_odds : MethodName := ⟨RX12, "odds", "(IIII)J"⟩
abbrev cX12_mayLay : ByteArray := prog_14_method_63_code
def yX12_mayLay : MethodName := ⟨RX12, "mayLay", "(II)Z"⟩
abbrev cX12_findOrders : ByteArray := prog_14_method_64_code
def yX12_findOrders : MethodName := ⟨RX12, "findOrders", "()V"⟩
abbrev cX12_orders : ByteArray := prog_14_method_65_code
def yX12_orders : MethodName := ⟨RX12, "orders", "(I)I"⟩
abbrev cX12_barred : ByteArray := prog_14_method_66_code
def yX12_barred : MethodName := ⟨RX12, "barred", "()I"⟩
abbrev cX12_hoist : ByteArray := prog_14_method_67_code
def yX12_hoist : MethodName := ⟨RX12, "hoist", "(II)I"⟩
abbrev cX12_test : ByteArray := prog_14_method_68_code
def yX12_test : MethodName := ⟨RX12, "test", "(III)I"⟩
abbrev cX12_forget : ByteArray := prog_14_method_69_code
def yX12_forget : MethodName := ⟨RX12, "forget", "()I"⟩
abbrev cX12_breaks : ByteArray := prog_14_method_70_code
def yX12_breaks : MethodName := ⟨RX12, "breaks", "(III)Z"⟩
abbrev cX12_mayBeNow : ByteArray := prog_14_method_71_code
def yX12_mayBeNow : MethodName := ⟨RX12, "mayBeNow", "()I"⟩
abbrev cX12_mayBe : ByteArray := prog_14_method_72_code
def yX12_mayBe : MethodName := ⟨RX12, "mayBe", "()I"⟩
abbrev cX12_ask : ByteArray := prog_14_method_73_code
def yX12_ask : MethodName := ⟨RX12, "ask", "(I)I"⟩
abbrev cX12_childRate : ByteArray := prog_14_method_74_code
def yX12_childRate : MethodName := ⟨RX12, "childRate", "(I)I"⟩
abbrev cX12_climberRate : ByteArray := prog_14_method_75_code
def yX12_climberRate : MethodName := ⟨RX12, "climberRate", "(I)I"⟩
abbrev cX12_guestRate : ByteArray := prog_14_method_76_code
def yX12_guestRate : MethodName := ⟨RX12, "guestRate", "(I)I"⟩
abbrev cX12_rate : ByteArray := prog_14_method_77_code
def yX12_rate : MethodName := ⟨RX12, "rate", "(II)I"⟩
abbrev cX12_keep : ByteArray := prog_14_method_78_code
def yX12_keep : MethodName := ⟨RX12, "keep", "(I)I"⟩
abbrev cX12_back : ByteArray := prog_14_method_79_code
def yX12_back : MethodName := ⟨RX12, "back", "(I)I"⟩
abbrev cX12_count : ByteArray := prog_14_method_80_code
def yX12_count : MethodName := ⟨RX12, "count", "(I)I"⟩
abbrev cX12_trace : ByteArray := prog_14_method_81_code
def yX12_trace : MethodName := ⟨RX12, "trace", "()J"⟩
def RJ6 : String := "java/lang/Integer"
def TJ6 : u_T := fun k => match k with
  | _ => ("", "", "", false)
def tyJ6 : Nat → FieldType := fun k => match k with
  | _ => .int
abbrev wsJ60 : List Cond := u_ws RJ6 TJ6 0
theorem nmJ6 : ∀ a, a < 0 → ∀ b, b < 0 → a ≠ b → (TJ6 a).2.1 ≠ (TJ6 b).2.1 := by decide +kernel
theorem tyJ6_ok : ∀ k, k < 0 → parseFieldDescriptor (TJ6 k).2.2.1 = some (tyJ6 k) := by decide +kernel
abbrev cJ6_numberOfTrailingZeros_0f7a4 : ByteArray := prog_15_method_48_code
def yJ6_numberOfTrailingZeros_0f7a4 : MethodName := ⟨RJ6, "numberOfTrailingZeros", "(I)I"⟩
abbrev cJ6_bitCount_0f7a4 : ByteArray := prog_15_method_49_code
def yJ6_bitCount_0f7a4 : MethodName := ⟨RJ6, "bitCount", "(I)I"⟩
def RJ9 : String := "java/lang/Math"
def TJ9 : u_T := fun k => match k with
  | _ => ("", "", "", false)
def tyJ9 : Nat → FieldType := fun k => match k with
  | _ => .int
abbrev wsJ90 : List Cond := u_ws RJ9 TJ9 0
theorem nmJ9 : ∀ a, a < 0 → ∀ b, b < 0 → a ≠ b → (TJ9 a).2.1 ≠ (TJ9 b).2.1 := by decide +kernel
theorem tyJ9_ok : ∀ k, k < 0 → parseFieldDescriptor (TJ9 k).2.2.1 = some (tyJ9 k) := by decide +kernel
abbrev cJ9_abs_0f7a4 : ByteArray := prog_16_method_59_code
def yJ9_abs_0f7a4 : MethodName := ⟨RJ9, "abs", "(I)I"⟩
abbrev cJ9_max_7cf53 : ByteArray := prog_16_method_65_code
def yJ9_max_7cf53 : MethodName := ⟨RJ9, "max", "(II)I"⟩
abbrev cJ9_min_7cf53 : ByteArray := prog_16_method_69_code
def yJ9_min_7cf53 : MethodName := ⟨RJ9, "min", "(II)I"⟩
def RJ10 : String := "java/lang/System"
def TJ10 : u_T := fun k => match k with
  | _ => ("", "", "", false)
def tyJ10 : Nat → FieldType := fun k => match k with
  | _ => .int
abbrev wsJ100 : List Cond := u_ws RJ10 TJ10 0
theorem nmJ10 : ∀ a, a < 0 → ∀ b, b < 0 → a ≠ b → (TJ10 a).2.1 ≠ (TJ10 b).2.1 := by decide +kernel
theorem tyJ10_ok : ∀ k, k < 0 → parseFieldDescriptor (TJ10 k).2.2.1 = some (tyJ10 k) := by decide +kernel
def RL : String := "TreePlanksLaw"
abbrev cL_law : ByteArray := code
def yL_law : MethodName := ⟨RL, "law", "([I)Z"⟩
theorem inX0 : ∀ w ∈ wsX00, w ∈ lw_tbl := by decide +kernel
theorem inX1 : ∀ w ∈ wsX10, w ∈ lw_tbl := by decide +kernel
theorem inX2 : ∀ w ∈ wsX20, w ∈ lw_tbl := by decide +kernel
theorem inX3 : ∀ w ∈ wsX30, w ∈ lw_tbl := by decide +kernel
theorem inX4 : ∀ w ∈ wsX40, w ∈ lw_tbl := by decide +kernel
theorem inX5 : ∀ w ∈ wsX50, w ∈ lw_tbl := by decide +kernel
theorem inX6 : ∀ w ∈ wsX60, w ∈ lw_tbl := by decide +kernel
theorem inX7 : ∀ w ∈ wsX70, w ∈ lw_tbl := by decide +kernel
theorem inX8 : ∀ w ∈ wsX80, w ∈ lw_tbl := by decide +kernel
theorem inX9 : ∀ w ∈ wsX90, w ∈ lw_tbl := by decide +kernel
theorem inX10 : ∀ w ∈ wsX100, w ∈ lw_tbl := by decide +kernel
theorem inX11 : ∀ w ∈ wsX110, w ∈ lw_tbl := by decide +kernel
theorem inX12 : ∀ w ∈ wsX120, w ∈ lw_tbl := by decide +kernel
theorem inJ6 : ∀ w ∈ wsJ60, w ∈ lw_tbl := by decide +kernel
theorem inJ9 : ∀ w ∈ wsJ90, w ∈ lw_tbl := by decide +kernel
theorem inJ10 : ∀ w ∈ wsJ100, w ∈ lw_tbl := by decide +kernel
abbrev vwCl : List vw_C := [(RX0, TX0, 2), (RX1, TX1, 2), (RX2, TX2, 2), (RX3, TX3, 1), (RX4, TX4, 1), (RX5, TX5, 3), (RX6, TX6, 6), (RX7, TX7, 6), (RX8, TX8, 1), (RX9, TX9, 7), (RX10, TX10, 11), (RX11, TX11, 13), (RX12, TX12, 34)]
end
section
theorem dX0_init_0 : decode cX0_init 0 = .ok (.aload_n 0, 1) := by decide +kernel
theorem dX0_init_1 : decode cX0_init 1 = .ok (.invokespecial 3, 3) := by decide +kernel
theorem dX0_init_4 : decode cX0_init 4 = .ok (.aload_n 0, 1) := by decide +kernel
theorem dX0_init_5 : decode cX0_init 5 = .ok (.iconst 2, 1) := by decide +kernel
theorem dX0_init_6 : decode cX0_init 6 = .ok (.bipush 42, 2) := by decide +kernel
theorem dX0_init_8 : decode cX0_init 8 = .ok (.multianewarray 11 2, 4) := by decide +kernel
theorem dX0_init_12 : decode cX0_init 12 = .ok (.putfield 13, 3) := by decide +kernel
theorem dX0_init_15 : decode cX0_init 15 = .ok (.aload_n 0, 1) := by decide +kernel
theorem dX0_init_16 : decode cX0_init 16 = .ok (.iconst 2, 1) := by decide +kernel
theorem dX0_init_17 : decode cX0_init 17 = .ok (.newarray .boolean, 2) := by decide +kernel
theorem dX0_init_19 : decode cX0_init 19 = .ok (.putfield 18, 3) := by decide +kernel
theorem dX0_init_22 : decode cX0_init 22 = .ok (.return_, 1) := by decide +kernel
theorem dX0_paint_0 : decode cX0_paint 0 = .ok (.aload_n 2, 1) := by decide +kernel
theorem dX0_paint_1 : decode cX0_paint 1 = .ok (.aload_n 0, 1) := by decide +kernel
theorem dX0_paint_2 : decode cX0_paint 2 = .ok (.getfield 13, 3) := by decide +kernel
theorem dX0_paint_5 : decode cX0_paint 5 = .ok (.iload_n 1, 1) := by decide +kernel
theorem dX0_paint_6 : decode cX0_paint 6 = .ok (.aaload, 1) := by decide +kernel
theorem dX0_paint_7 : decode cX0_paint 7 = .ok (.invokevirtual 22, 3) := by decide +kernel
theorem dX0_paint_10 : decode cX0_paint 10 = .ok (.aload_n 0, 1) := by decide +kernel
theorem dX0_paint_11 : decode cX0_paint 11 = .ok (.getfield 18, 3) := by decide +kernel
theorem dX0_paint_14 : decode cX0_paint 14 = .ok (.iload_n 1, 1) := by decide +kernel
theorem dX0_paint_15 : decode cX0_paint 15 = .ok (.iconst 1, 1) := by decide +kernel
theorem dX0_paint_16 : decode cX0_paint 16 = .ok (.bastore, 1) := by decide +kernel
theorem dX0_paint_17 : decode cX0_paint 17 = .ok (.return_, 1) := by decide +kernel
theorem dX0_show_0 : decode cX0_show 0 = .ok (.aload_n 0, 1) := by decide +kernel
theorem dX0_show_1 : decode cX0_show 1 = .ok (.getfield 18, 3) := by decide +kernel
theorem dX0_show_4 : decode cX0_show 4 = .ok (.iload_n 1, 1) := by decide +kernel
theorem dX0_show_5 : decode cX0_show 5 = .ok (.baload, 1) := by decide +kernel
theorem dX0_show_6 : decode cX0_show 6 = .ok (.ifCond .ne 5, 3) := by decide +kernel
theorem dX0_show_9 : decode cX0_show 9 = .ok (.iconst 0, 1) := by decide +kernel
theorem dX0_show_10 : decode cX0_show 10 = .ok (.ireturn, 1) := by decide +kernel
theorem dX0_show_11 : decode cX0_show 11 = .ok (.aload_n 2, 1) := by decide +kernel
theorem dX0_show_12 : decode cX0_show 12 = .ok (.aload_n 0, 1) := by decide +kernel
theorem dX0_show_13 : decode cX0_show 13 = .ok (.getfield 13, 3) := by decide +kernel
theorem dX0_show_16 : decode cX0_show 16 = .ok (.iload_n 1, 1) := by decide +kernel
theorem dX0_show_17 : decode cX0_show 17 = .ok (.aaload, 1) := by decide +kernel
theorem dX0_show_18 : decode cX0_show 18 = .ok (.invokevirtual 26, 3) := by decide +kernel
theorem dX0_show_21 : decode cX0_show 21 = .ok (.iconst 1, 1) := by decide +kernel
theorem dX0_show_22 : decode cX0_show 22 = .ok (.ireturn, 1) := by decide +kernel
theorem dX0_lose_0 : decode cX0_lose 0 = .ok (.iconst 0, 1) := by decide +kernel
theorem dX0_lose_1 : decode cX0_lose 1 = .ok (.istore_n 1, 1) := by decide +kernel
theorem dX0_lose_2 : decode cX0_lose 2 = .ok (.iload_n 1, 1) := by decide +kernel
theorem dX0_lose_3 : decode cX0_lose 3 = .ok (.iconst 2, 1) := by decide +kernel
theorem dX0_lose_4 : decode cX0_lose 4 = .ok (.if_icmp .ge 16, 3) := by decide +kernel
theorem dX0_lose_7 : decode cX0_lose 7 = .ok (.aload_n 0, 1) := by decide +kernel
theorem dX0_lose_8 : decode cX0_lose 8 = .ok (.getfield 18, 3) := by decide +kernel
theorem dX0_lose_11 : decode cX0_lose 11 = .ok (.iload_n 1, 1) := by decide +kernel
theorem dX0_lose_12 : decode cX0_lose 12 = .ok (.iconst 0, 1) := by decide +kernel
theorem dX0_lose_13 : decode cX0_lose 13 = .ok (.bastore, 1) := by decide +kernel
theorem dX0_lose_14 : decode cX0_lose 14 = .ok (.iinc 1 1, 3) := by decide +kernel
theorem dX0_lose_17 : decode cX0_lose 17 = .ok (.goto (-15), 3) := by decide +kernel
theorem dX0_lose_20 : decode cX0_lose 20 = .ok (.return_, 1) := by decide +kernel
theorem dX1_init_0 : decode cX1_init 0 = .ok (.aload_n 0, 1) := by decide +kernel
theorem dX1_init_1 : decode cX1_init 1 = .ok (.invokespecial 3, 3) := by decide +kernel
theorem dX1_init_4 : decode cX1_init 4 = .ok (.aload_n 0, 1) := by decide +kernel
theorem dX1_init_5 : decode cX1_init 5 = .ok (.bipush 6, 2) := by decide +kernel
theorem dX1_init_7 : decode cX1_init 7 = .ok (.newarray .int, 2) := by decide +kernel
theorem dX1_init_9 : decode cX1_init 9 = .ok (.putfield 9, 3) := by decide +kernel
theorem dX1_init_12 : decode cX1_init 12 = .ok (.aload_n 0, 1) := by decide +kernel
theorem dX1_init_13 : decode cX1_init 13 = .ok (.bipush 8, 2) := by decide +kernel
theorem dX1_init_15 : decode cX1_init 15 = .ok (.newarray .int, 2) := by decide +kernel
theorem dX1_init_17 : decode cX1_init 17 = .ok (.putfield 15, 3) := by decide +kernel
theorem dX1_init_20 : decode cX1_init 20 = .ok (.return_, 1) := by decide +kernel
theorem dX1_empty_0 : decode cX1_empty 0 = .ok (.iconst 0, 1) := by decide +kernel
theorem dX1_empty_1 : decode cX1_empty 1 = .ok (.istore_n 1, 1) := by decide +kernel
theorem dX1_empty_2 : decode cX1_empty 2 = .ok (.iload_n 1, 1) := by decide +kernel
theorem dX1_empty_3 : decode cX1_empty 3 = .ok (.bipush 6, 2) := by decide +kernel
theorem dX1_empty_5 : decode cX1_empty 5 = .ok (.if_icmp .ge 16, 3) := by decide +kernel
theorem dX1_empty_8 : decode cX1_empty 8 = .ok (.aload_n 0, 1) := by decide +kernel
theorem dX1_empty_9 : decode cX1_empty 9 = .ok (.getfield 9, 3) := by decide +kernel
theorem dX1_empty_12 : decode cX1_empty 12 = .ok (.iload_n 1, 1) := by decide +kernel
theorem dX1_empty_13 : decode cX1_empty 13 = .ok (.iconst 0, 1) := by decide +kernel
theorem dX1_empty_14 : decode cX1_empty 14 = .ok (.iastore, 1) := by decide +kernel
theorem dX1_empty_15 : decode cX1_empty 15 = .ok (.iinc 1 1, 3) := by decide +kernel
theorem dX1_empty_18 : decode cX1_empty 18 = .ok (.goto (-16), 3) := by decide +kernel
theorem dX1_empty_21 : decode cX1_empty 21 = .ok (.iconst 0, 1) := by decide +kernel
theorem dX1_empty_22 : decode cX1_empty 22 = .ok (.istore_n 1, 1) := by decide +kernel
theorem dX1_empty_23 : decode cX1_empty 23 = .ok (.iload_n 1, 1) := by decide +kernel
theorem dX1_empty_24 : decode cX1_empty 24 = .ok (.bipush 8, 2) := by decide +kernel
theorem dX1_empty_26 : decode cX1_empty 26 = .ok (.if_icmp .ge 16, 3) := by decide +kernel
theorem dX1_empty_29 : decode cX1_empty 29 = .ok (.aload_n 0, 1) := by decide +kernel
theorem dX1_empty_30 : decode cX1_empty 30 = .ok (.getfield 15, 3) := by decide +kernel
theorem dX1_empty_33 : decode cX1_empty 33 = .ok (.iload_n 1, 1) := by decide +kernel
theorem dX1_empty_34 : decode cX1_empty 34 = .ok (.iconst 0, 1) := by decide +kernel
theorem dX1_empty_35 : decode cX1_empty 35 = .ok (.iastore, 1) := by decide +kernel
theorem dX1_empty_36 : decode cX1_empty 36 = .ok (.iinc 1 1, 3) := by decide +kernel
theorem dX1_empty_39 : decode cX1_empty 39 = .ok (.goto (-16), 3) := by decide +kernel
theorem dX1_empty_42 : decode cX1_empty 42 = .ok (.return_, 1) := by decide +kernel
theorem dX1_weigh_0 : decode cX1_weigh 0 = .ok (.aload_n 0, 1) := by decide +kernel
theorem dX1_weigh_1 : decode cX1_weigh 1 = .ok (.invokevirtual 18, 3) := by decide +kernel
theorem dX1_weigh_4 : decode cX1_weigh 4 = .ok (.iconst 0, 1) := by decide +kernel
theorem dX1_weigh_5 : decode cX1_weigh 5 = .ok (.istore_n 3, 1) := by decide +kernel
theorem dX1_weigh_6 : decode cX1_weigh 6 = .ok (.iload_n 3, 1) := by decide +kernel
theorem dX1_weigh_7 : decode cX1_weigh 7 = .ok (.aload_n 1, 1) := by decide +kernel
theorem dX1_weigh_8 : decode cX1_weigh 8 = .ok (.getfield 21, 3) := by decide +kernel
theorem dX1_weigh_11 : decode cX1_weigh 11 = .ok (.if_icmp .ge 44, 3) := by decide +kernel
theorem dX1_weigh_14 : decode cX1_weigh 14 = .ok (.aload_n 2, 1) := by decide +kernel
theorem dX1_weigh_15 : decode cX1_weigh 15 = .ok (.iload_n 3, 1) := by decide +kernel
theorem dX1_weigh_16 : decode cX1_weigh 16 = .ok (.invokevirtual 27, 3) := by decide +kernel
theorem dX1_weigh_19 : decode cX1_weigh 19 = .ok (.istore 4, 2) := by decide +kernel
theorem dX1_weigh_21 : decode cX1_weigh 21 = .ok (.iload 4, 2) := by decide +kernel
theorem dX1_weigh_23 : decode cX1_weigh 23 = .ok (.iconst 0, 1) := by decide +kernel
theorem dX1_weigh_24 : decode cX1_weigh 24 = .ok (.aload_n 1, 1) := by decide +kernel
theorem dX1_weigh_25 : decode cX1_weigh 25 = .ok (.getfield 33, 3) := by decide +kernel
theorem dX1_weigh_28 : decode cX1_weigh 28 = .ok (.iconst 1, 1) := by decide +kernel
theorem dX1_weigh_29 : decode cX1_weigh 29 = .ok (.isub, 1) := by decide +kernel
theorem dX1_weigh_30 : decode cX1_weigh 30 = .ok (.invokestatic 36, 3) := by decide +kernel
theorem dX1_weigh_33 : decode cX1_weigh 33 = .ok (.ifCond .eq 16, 3) := by decide +kernel
theorem dX1_weigh_36 : decode cX1_weigh 36 = .ok (.aload_n 0, 1) := by decide +kernel
theorem dX1_weigh_37 : decode cX1_weigh 37 = .ok (.aload_n 1, 1) := by decide +kernel
theorem dX1_weigh_38 : decode cX1_weigh 38 = .ok (.iload 4, 2) := by decide +kernel
theorem dX1_weigh_40 : decode cX1_weigh 40 = .ok (.aload_n 1, 1) := by decide +kernel
theorem dX1_weigh_41 : decode cX1_weigh 41 = .ok (.getfield 40, 3) := by decide +kernel
theorem dX1_weigh_44 : decode cX1_weigh 44 = .ok (.iload_n 3, 1) := by decide +kernel
theorem dX1_weigh_45 : decode cX1_weigh 45 = .ok (.iaload, 1) := by decide +kernel
theorem dX1_weigh_46 : decode cX1_weigh 46 = .ok (.invokevirtual 43, 3) := by decide +kernel
theorem dX1_weigh_49 : decode cX1_weigh 49 = .ok (.iinc 3 1, 3) := by decide +kernel
theorem dX1_weigh_52 : decode cX1_weigh 52 = .ok (.goto (-46), 3) := by decide +kernel
theorem dX1_weigh_55 : decode cX1_weigh 55 = .ok (.return_, 1) := by decide +kernel
theorem dX1_add_0 : decode cX1_add 0 = .ok (.aload_n 1, 1) := by decide +kernel
theorem dX1_add_1 : decode cX1_add 1 = .ok (.getfield 47, 3) := by decide +kernel
theorem dX1_add_4 : decode cX1_add 4 = .ok (.iconst 2, 1) := by decide +kernel
theorem dX1_add_5 : decode cX1_add 5 = .ok (.iload_n 2, 1) := by decide +kernel
theorem dX1_add_6 : decode cX1_add 6 = .ok (.imul, 1) := by decide +kernel
theorem dX1_add_7 : decode cX1_add 7 = .ok (.iaload, 1) := by decide +kernel
theorem dX1_add_8 : decode cX1_add 8 = .ok (.istore 4, 2) := by decide +kernel
theorem dX1_add_10 : decode cX1_add 10 = .ok (.aload_n 1, 1) := by decide +kernel
theorem dX1_add_11 : decode cX1_add 11 = .ok (.getfield 47, 3) := by decide +kernel
theorem dX1_add_14 : decode cX1_add 14 = .ok (.iconst 2, 1) := by decide +kernel
theorem dX1_add_15 : decode cX1_add 15 = .ok (.iload_n 2, 1) := by decide +kernel
theorem dX1_add_16 : decode cX1_add 16 = .ok (.imul, 1) := by decide +kernel
theorem dX1_add_17 : decode cX1_add 17 = .ok (.iconst 1, 1) := by decide +kernel
theorem dX1_add_18 : decode cX1_add 18 = .ok (.iadd, 1) := by decide +kernel
theorem dX1_add_19 : decode cX1_add 19 = .ok (.iaload, 1) := by decide +kernel
theorem dX1_add_20 : decode cX1_add 20 = .ok (.istore 5, 2) := by decide +kernel
theorem dX1_add_22 : decode cX1_add 22 = .ok (.aload_n 0, 1) := by decide +kernel
theorem dX1_add_23 : decode cX1_add 23 = .ok (.getfield 15, 3) := by decide +kernel
theorem dX1_add_26 : decode cX1_add 26 = .ok (.iload 4, 2) := by decide +kernel
theorem dX1_add_28 : decode cX1_add 28 = .ok (.dup2, 1) := by decide +kernel
theorem dX1_add_29 : decode cX1_add 29 = .ok (.iaload, 1) := by decide +kernel
theorem dX1_add_30 : decode cX1_add 30 = .ok (.aload_n 0, 1) := by decide +kernel
theorem dX1_add_31 : decode cX1_add 31 = .ok (.getfield 9, 3) := by decide +kernel
theorem dX1_add_34 : decode cX1_add 34 = .ok (.iload_n 2, 1) := by decide +kernel
theorem dX1_add_35 : decode cX1_add 35 = .ok (.iaload, 1) := by decide +kernel
theorem dX1_add_36 : decode cX1_add 36 = .ok (.aload_n 0, 1) := by decide +kernel
theorem dX1_add_37 : decode cX1_add 37 = .ok (.getfield 9, 3) := by decide +kernel
theorem dX1_add_40 : decode cX1_add 40 = .ok (.iload_n 2, 1) := by decide +kernel
theorem dX1_add_41 : decode cX1_add 41 = .ok (.iaload, 1) := by decide +kernel
theorem dX1_add_42 : decode cX1_add 42 = .ok (.iconst 2, 1) := by decide +kernel
theorem dX1_add_43 : decode cX1_add 43 = .ok (.idiv, 1) := by decide +kernel
theorem dX1_add_44 : decode cX1_add 44 = .ok (.isub, 1) := by decide +kernel
theorem dX1_add_45 : decode cX1_add 45 = .ok (.isub, 1) := by decide +kernel
theorem dX1_add_46 : decode cX1_add 46 = .ok (.iastore, 1) := by decide +kernel
theorem dX1_add_47 : decode cX1_add 47 = .ok (.aload_n 0, 1) := by decide +kernel
theorem dX1_add_48 : decode cX1_add 48 = .ok (.getfield 15, 3) := by decide +kernel
theorem dX1_add_51 : decode cX1_add 51 = .ok (.iload 5, 2) := by decide +kernel
theorem dX1_add_53 : decode cX1_add 53 = .ok (.dup2, 1) := by decide +kernel
theorem dX1_add_54 : decode cX1_add 54 = .ok (.iaload, 1) := by decide +kernel
theorem dX1_add_55 : decode cX1_add 55 = .ok (.aload_n 0, 1) := by decide +kernel
theorem dX1_add_56 : decode cX1_add 56 = .ok (.getfield 9, 3) := by decide +kernel
theorem dX1_add_59 : decode cX1_add 59 = .ok (.iload_n 2, 1) := by decide +kernel
theorem dX1_add_60 : decode cX1_add 60 = .ok (.iaload, 1) := by decide +kernel
theorem dX1_add_61 : decode cX1_add 61 = .ok (.iconst 2, 1) := by decide +kernel
theorem dX1_add_62 : decode cX1_add 62 = .ok (.idiv, 1) := by decide +kernel
theorem dX1_add_63 : decode cX1_add 63 = .ok (.isub, 1) := by decide +kernel
theorem dX1_add_64 : decode cX1_add 64 = .ok (.iastore, 1) := by decide +kernel
theorem dX1_add_65 : decode cX1_add 65 = .ok (.aload_n 0, 1) := by decide +kernel
theorem dX1_add_66 : decode cX1_add 66 = .ok (.getfield 9, 3) := by decide +kernel
theorem dX1_add_69 : decode cX1_add 69 = .ok (.iload_n 2, 1) := by decide +kernel
theorem dX1_add_70 : decode cX1_add 70 = .ok (.dup2, 1) := by decide +kernel
theorem dX1_add_71 : decode cX1_add 71 = .ok (.iaload, 1) := by decide +kernel
theorem dX1_add_72 : decode cX1_add 72 = .ok (.iload_n 3, 1) := by decide +kernel
theorem dX1_add_73 : decode cX1_add 73 = .ok (.iadd, 1) := by decide +kernel
theorem dX1_add_74 : decode cX1_add 74 = .ok (.iastore, 1) := by decide +kernel
theorem dX1_add_75 : decode cX1_add 75 = .ok (.aload_n 0, 1) := by decide +kernel
theorem dX1_add_76 : decode cX1_add 76 = .ok (.getfield 15, 3) := by decide +kernel
theorem dX1_add_79 : decode cX1_add 79 = .ok (.iload 4, 2) := by decide +kernel
theorem dX1_add_81 : decode cX1_add 81 = .ok (.dup2, 1) := by decide +kernel
theorem dX1_add_82 : decode cX1_add 82 = .ok (.iaload, 1) := by decide +kernel
theorem dX1_add_83 : decode cX1_add 83 = .ok (.aload_n 0, 1) := by decide +kernel
theorem dX1_add_84 : decode cX1_add 84 = .ok (.getfield 9, 3) := by decide +kernel
theorem dX1_add_87 : decode cX1_add 87 = .ok (.iload_n 2, 1) := by decide +kernel
theorem dX1_add_88 : decode cX1_add 88 = .ok (.iaload, 1) := by decide +kernel
theorem dX1_add_89 : decode cX1_add 89 = .ok (.aload_n 0, 1) := by decide +kernel
theorem dX1_add_90 : decode cX1_add 90 = .ok (.getfield 9, 3) := by decide +kernel
theorem dX1_add_93 : decode cX1_add 93 = .ok (.iload_n 2, 1) := by decide +kernel
theorem dX1_add_94 : decode cX1_add 94 = .ok (.iaload, 1) := by decide +kernel
theorem dX1_add_95 : decode cX1_add 95 = .ok (.iconst 2, 1) := by decide +kernel
theorem dX1_add_96 : decode cX1_add 96 = .ok (.idiv, 1) := by decide +kernel
theorem dX1_add_97 : decode cX1_add 97 = .ok (.isub, 1) := by decide +kernel
theorem dX1_add_98 : decode cX1_add 98 = .ok (.iadd, 1) := by decide +kernel
theorem dX1_add_99 : decode cX1_add 99 = .ok (.iastore, 1) := by decide +kernel
theorem dX1_add_100 : decode cX1_add 100 = .ok (.aload_n 0, 1) := by decide +kernel
theorem dX1_add_101 : decode cX1_add 101 = .ok (.getfield 15, 3) := by decide +kernel
theorem dX1_add_104 : decode cX1_add 104 = .ok (.iload 5, 2) := by decide +kernel
theorem dX1_add_106 : decode cX1_add 106 = .ok (.dup2, 1) := by decide +kernel
theorem dX1_add_107 : decode cX1_add 107 = .ok (.iaload, 1) := by decide +kernel
theorem dX1_add_108 : decode cX1_add 108 = .ok (.aload_n 0, 1) := by decide +kernel
theorem dX1_add_109 : decode cX1_add 109 = .ok (.getfield 9, 3) := by decide +kernel
theorem dX1_add_112 : decode cX1_add 112 = .ok (.iload_n 2, 1) := by decide +kernel
theorem dX1_add_113 : decode cX1_add 113 = .ok (.iaload, 1) := by decide +kernel
theorem dX1_add_114 : decode cX1_add 114 = .ok (.iconst 2, 1) := by decide +kernel
theorem dX1_add_115 : decode cX1_add 115 = .ok (.idiv, 1) := by decide +kernel
theorem dX1_add_116 : decode cX1_add 116 = .ok (.iadd, 1) := by decide +kernel
theorem dX1_add_117 : decode cX1_add 117 = .ok (.iastore, 1) := by decide +kernel
theorem dX1_add_118 : decode cX1_add 118 = .ok (.return_, 1) := by decide +kernel
theorem dX1_fits_0 : decode cX1_fits 0 = .ok (.aload_n 1, 1) := by decide +kernel
theorem dX1_fits_1 : decode cX1_fits 1 = .ok (.getfield 47, 3) := by decide +kernel
theorem dX1_fits_4 : decode cX1_fits 4 = .ok (.iconst 2, 1) := by decide +kernel
theorem dX1_fits_5 : decode cX1_fits 5 = .ok (.iload_n 2, 1) := by decide +kernel
theorem dX1_fits_6 : decode cX1_fits 6 = .ok (.imul, 1) := by decide +kernel
theorem dX1_fits_7 : decode cX1_fits 7 = .ok (.iaload, 1) := by decide +kernel
theorem dX1_fits_8 : decode cX1_fits 8 = .ok (.istore_n 3, 1) := by decide +kernel
theorem dX1_fits_9 : decode cX1_fits 9 = .ok (.aload_n 1, 1) := by decide +kernel
theorem dX1_fits_10 : decode cX1_fits 10 = .ok (.getfield 47, 3) := by decide +kernel
theorem dX1_fits_13 : decode cX1_fits 13 = .ok (.iconst 2, 1) := by decide +kernel
theorem dX1_fits_14 : decode cX1_fits 14 = .ok (.iload_n 2, 1) := by decide +kernel
theorem dX1_fits_15 : decode cX1_fits 15 = .ok (.imul, 1) := by decide +kernel
theorem dX1_fits_16 : decode cX1_fits 16 = .ok (.iconst 1, 1) := by decide +kernel
theorem dX1_fits_17 : decode cX1_fits 17 = .ok (.iadd, 1) := by decide +kernel
theorem dX1_fits_18 : decode cX1_fits 18 = .ok (.iaload, 1) := by decide +kernel
theorem dX1_fits_19 : decode cX1_fits 19 = .ok (.istore 4, 2) := by decide +kernel
theorem dX1_fits_21 : decode cX1_fits 21 = .ok (.aload_n 0, 1) := by decide +kernel
theorem dX1_fits_22 : decode cX1_fits 22 = .ok (.getfield 9, 3) := by decide +kernel
theorem dX1_fits_25 : decode cX1_fits 25 = .ok (.iload_n 2, 1) := by decide +kernel
theorem dX1_fits_26 : decode cX1_fits 26 = .ok (.iaload, 1) := by decide +kernel
theorem dX1_fits_27 : decode cX1_fits 27 = .ok (.aload_n 1, 1) := by decide +kernel
theorem dX1_fits_28 : decode cX1_fits 28 = .ok (.getfield 50, 3) := by decide +kernel
theorem dX1_fits_31 : decode cX1_fits 31 = .ok (.iload_n 2, 1) := by decide +kernel
theorem dX1_fits_32 : decode cX1_fits 32 = .ok (.iaload, 1) := by decide +kernel
theorem dX1_fits_33 : decode cX1_fits 33 = .ok (.if_icmp .gt 39, 3) := by decide +kernel
theorem dX1_fits_36 : decode cX1_fits 36 = .ok (.aload_n 0, 1) := by decide +kernel
theorem dX1_fits_37 : decode cX1_fits 37 = .ok (.getfield 15, 3) := by decide +kernel
theorem dX1_fits_40 : decode cX1_fits 40 = .ok (.iload_n 3, 1) := by decide +kernel
theorem dX1_fits_41 : decode cX1_fits 41 = .ok (.iaload, 1) := by decide +kernel
theorem dX1_fits_42 : decode cX1_fits 42 = .ok (.aload_n 1, 1) := by decide +kernel
theorem dX1_fits_43 : decode cX1_fits 43 = .ok (.getfield 53, 3) := by decide +kernel
theorem dX1_fits_46 : decode cX1_fits 46 = .ok (.iload_n 3, 1) := by decide +kernel
theorem dX1_fits_47 : decode cX1_fits 47 = .ok (.iaload, 1) := by decide +kernel
theorem dX1_fits_48 : decode cX1_fits 48 = .ok (.if_icmp .gt 24, 3) := by decide +kernel
theorem dX1_fits_51 : decode cX1_fits 51 = .ok (.aload_n 0, 1) := by decide +kernel
theorem dX1_fits_52 : decode cX1_fits 52 = .ok (.getfield 15, 3) := by decide +kernel
theorem dX1_fits_55 : decode cX1_fits 55 = .ok (.iload 4, 2) := by decide +kernel
theorem dX1_fits_57 : decode cX1_fits 57 = .ok (.iaload, 1) := by decide +kernel
theorem dX1_fits_58 : decode cX1_fits 58 = .ok (.aload_n 1, 1) := by decide +kernel
theorem dX1_fits_59 : decode cX1_fits 59 = .ok (.getfield 53, 3) := by decide +kernel
theorem dX1_fits_62 : decode cX1_fits 62 = .ok (.iload 4, 2) := by decide +kernel
theorem dX1_fits_64 : decode cX1_fits 64 = .ok (.iaload, 1) := by decide +kernel
theorem dX1_fits_65 : decode cX1_fits 65 = .ok (.if_icmp .gt 7, 3) := by decide +kernel
theorem dX1_fits_68 : decode cX1_fits 68 = .ok (.iconst 1, 1) := by decide +kernel
theorem dX1_fits_69 : decode cX1_fits 69 = .ok (.goto 4, 3) := by decide +kernel
theorem dX1_fits_72 : decode cX1_fits 72 = .ok (.iconst 0, 1) := by decide +kernel
theorem dX1_fits_73 : decode cX1_fits 73 = .ok (.ireturn, 1) := by decide +kernel
theorem dX1_allHold_0 : decode cX1_allHold 0 = .ok (.aload_n 0, 1) := by decide +kernel
theorem dX1_allHold_1 : decode cX1_allHold 1 = .ok (.aload_n 1, 1) := by decide +kernel
theorem dX1_allHold_2 : decode cX1_allHold 2 = .ok (.invokevirtual 56, 3) := by decide +kernel
theorem dX1_allHold_5 : decode cX1_allHold 5 = .ok (.bipush (-9), 2) := by decide +kernel
theorem dX1_allHold_7 : decode cX1_allHold 7 = .ok (.if_icmp .ne 28, 3) := by decide +kernel
theorem dX1_allHold_10 : decode cX1_allHold 10 = .ok (.aload_n 0, 1) := by decide +kernel
theorem dX1_allHold_11 : decode cX1_allHold 11 = .ok (.aload_n 1, 1) := by decide +kernel
theorem dX1_allHold_12 : decode cX1_allHold 12 = .ok (.invokevirtual 60, 3) := by decide +kernel
theorem dX1_allHold_15 : decode cX1_allHold 15 = .ok (.bipush (-9), 2) := by decide +kernel
theorem dX1_allHold_17 : decode cX1_allHold 17 = .ok (.if_icmp .ne 18, 3) := by decide +kernel
theorem dX1_allHold_20 : decode cX1_allHold 20 = .ok (.aload_n 0, 1) := by decide +kernel
theorem dX1_allHold_21 : decode cX1_allHold 21 = .ok (.aload_n 1, 1) := by decide +kernel
theorem dX1_allHold_22 : decode cX1_allHold 22 = .ok (.aload_n 2, 1) := by decide +kernel
theorem dX1_allHold_23 : decode cX1_allHold 23 = .ok (.invokevirtual 63, 3) := by decide +kernel
theorem dX1_allHold_26 : decode cX1_allHold 26 = .ok (.bipush (-9), 2) := by decide +kernel
theorem dX1_allHold_28 : decode cX1_allHold 28 = .ok (.if_icmp .ne 7, 3) := by decide +kernel
theorem dX1_allHold_31 : decode cX1_allHold 31 = .ok (.iconst 1, 1) := by decide +kernel
theorem dX1_allHold_32 : decode cX1_allHold 32 = .ok (.goto 4, 3) := by decide +kernel
theorem dX1_allHold_35 : decode cX1_allHold 35 = .ok (.iconst 0, 1) := by decide +kernel
theorem dX1_allHold_36 : decode cX1_allHold 36 = .ok (.ireturn, 1) := by decide +kernel
theorem dX1_firstTooLaden_0 : decode cX1_firstTooLaden 0 = .ok (.iconst 0, 1) := by decide +kernel
theorem dX1_firstTooLaden_1 : decode cX1_firstTooLaden 1 = .ok (.istore_n 2, 1) := by decide +kernel
theorem dX1_firstTooLaden_2 : decode cX1_firstTooLaden 2 = .ok (.iload_n 2, 1) := by decide +kernel
theorem dX1_firstTooLaden_3 : decode cX1_firstTooLaden 3 = .ok (.aload_n 1, 1) := by decide +kernel
theorem dX1_firstTooLaden_4 : decode cX1_firstTooLaden 4 = .ok (.getfield 33, 3) := by decide +kernel
theorem dX1_firstTooLaden_7 : decode cX1_firstTooLaden 7 = .ok (.if_icmp .ge 26, 3) := by decide +kernel
theorem dX1_firstTooLaden_10 : decode cX1_firstTooLaden 10 = .ok (.aload_n 0, 1) := by decide +kernel
theorem dX1_firstTooLaden_11 : decode cX1_firstTooLaden 11 = .ok (.getfield 9, 3) := by decide +kernel
theorem dX1_firstTooLaden_14 : decode cX1_firstTooLaden 14 = .ok (.iload_n 2, 1) := by decide +kernel
theorem dX1_firstTooLaden_15 : decode cX1_firstTooLaden 15 = .ok (.iaload, 1) := by decide +kernel
theorem dX1_firstTooLaden_16 : decode cX1_firstTooLaden 16 = .ok (.aload_n 1, 1) := by decide +kernel
theorem dX1_firstTooLaden_17 : decode cX1_firstTooLaden 17 = .ok (.getfield 50, 3) := by decide +kernel
theorem dX1_firstTooLaden_20 : decode cX1_firstTooLaden 20 = .ok (.iload_n 2, 1) := by decide +kernel
theorem dX1_firstTooLaden_21 : decode cX1_firstTooLaden 21 = .ok (.iaload, 1) := by decide +kernel
theorem dX1_firstTooLaden_22 : decode cX1_firstTooLaden 22 = .ok (.if_icmp .le 5, 3) := by decide +kernel
theorem dX1_firstTooLaden_25 : decode cX1_firstTooLaden 25 = .ok (.iload_n 2, 1) := by decide +kernel
theorem dX1_firstTooLaden_26 : decode cX1_firstTooLaden 26 = .ok (.ireturn, 1) := by decide +kernel
theorem dX1_firstTooLaden_27 : decode cX1_firstTooLaden 27 = .ok (.iinc 2 1, 3) := by decide +kernel
theorem dX1_firstTooLaden_30 : decode cX1_firstTooLaden 30 = .ok (.goto (-28), 3) := by decide +kernel
theorem dX1_firstTooLaden_33 : decode cX1_firstTooLaden 33 = .ok (.bipush (-9), 2) := by decide +kernel
theorem dX1_firstTooLaden_35 : decode cX1_firstTooLaden 35 = .ok (.ireturn, 1) := by decide +kernel
theorem dX1_firstTooBent_0 : decode cX1_firstTooBent 0 = .ok (.iconst 0, 1) := by decide +kernel
theorem dX1_firstTooBent_1 : decode cX1_firstTooBent 1 = .ok (.istore_n 2, 1) := by decide +kernel
theorem dX1_firstTooBent_2 : decode cX1_firstTooBent 2 = .ok (.iload_n 2, 1) := by decide +kernel
theorem dX1_firstTooBent_3 : decode cX1_firstTooBent 3 = .ok (.aload_n 1, 1) := by decide +kernel
theorem dX1_firstTooBent_4 : decode cX1_firstTooBent 4 = .ok (.getfield 67, 3) := by decide +kernel
theorem dX1_firstTooBent_7 : decode cX1_firstTooBent 7 = .ok (.if_icmp .ge 26, 3) := by decide +kernel
theorem dX1_firstTooBent_10 : decode cX1_firstTooBent 10 = .ok (.aload_n 0, 1) := by decide +kernel
theorem dX1_firstTooBent_11 : decode cX1_firstTooBent 11 = .ok (.getfield 15, 3) := by decide +kernel
theorem dX1_firstTooBent_14 : decode cX1_firstTooBent 14 = .ok (.iload_n 2, 1) := by decide +kernel
theorem dX1_firstTooBent_15 : decode cX1_firstTooBent 15 = .ok (.iaload, 1) := by decide +kernel
theorem dX1_firstTooBent_16 : decode cX1_firstTooBent 16 = .ok (.aload_n 1, 1) := by decide +kernel
theorem dX1_firstTooBent_17 : decode cX1_firstTooBent 17 = .ok (.getfield 53, 3) := by decide +kernel
theorem dX1_firstTooBent_20 : decode cX1_firstTooBent 20 = .ok (.iload_n 2, 1) := by decide +kernel
theorem dX1_firstTooBent_21 : decode cX1_firstTooBent 21 = .ok (.iaload, 1) := by decide +kernel
theorem dX1_firstTooBent_22 : decode cX1_firstTooBent 22 = .ok (.if_icmp .le 5, 3) := by decide +kernel
theorem dX1_firstTooBent_25 : decode cX1_firstTooBent 25 = .ok (.iload_n 2, 1) := by decide +kernel
theorem dX1_firstTooBent_26 : decode cX1_firstTooBent 26 = .ok (.ireturn, 1) := by decide +kernel
theorem dX1_firstTooBent_27 : decode cX1_firstTooBent 27 = .ok (.iinc 2 1, 3) := by decide +kernel
theorem dX1_firstTooBent_30 : decode cX1_firstTooBent 30 = .ok (.goto (-28), 3) := by decide +kernel
theorem dX1_firstTooBent_33 : decode cX1_firstTooBent 33 = .ok (.bipush (-9), 2) := by decide +kernel
theorem dX1_firstTooBent_35 : decode cX1_firstTooBent 35 = .ok (.ireturn, 1) := by decide +kernel
theorem dX1_firstUnheld_0 : decode cX1_firstUnheld 0 = .ok (.iconst 0, 1) := by decide +kernel
theorem dX1_firstUnheld_1 : decode cX1_firstUnheld 1 = .ok (.istore_n 3, 1) := by decide +kernel
theorem dX1_firstUnheld_2 : decode cX1_firstUnheld 2 = .ok (.iload_n 3, 1) := by decide +kernel
theorem dX1_firstUnheld_3 : decode cX1_firstUnheld 3 = .ok (.aload_n 1, 1) := by decide +kernel
theorem dX1_firstUnheld_4 : decode cX1_firstUnheld 4 = .ok (.getfield 33, 3) := by decide +kernel
theorem dX1_firstUnheld_7 : decode cX1_firstUnheld 7 = .ok (.if_icmp .ge 28, 3) := by decide +kernel
theorem dX1_firstUnheld_10 : decode cX1_firstUnheld 10 = .ok (.aload_n 0, 1) := by decide +kernel
theorem dX1_firstUnheld_11 : decode cX1_firstUnheld 11 = .ok (.getfield 9, 3) := by decide +kernel
theorem dX1_firstUnheld_14 : decode cX1_firstUnheld 14 = .ok (.iload_n 3, 1) := by decide +kernel
theorem dX1_firstUnheld_15 : decode cX1_firstUnheld 15 = .ok (.iaload, 1) := by decide +kernel
theorem dX1_firstUnheld_16 : decode cX1_firstUnheld 16 = .ok (.ifCond .le 13, 3) := by decide +kernel
theorem dX1_firstUnheld_19 : decode cX1_firstUnheld 19 = .ok (.aload_n 2, 1) := by decide +kernel
theorem dX1_firstUnheld_20 : decode cX1_firstUnheld 20 = .ok (.iload_n 3, 1) := by decide +kernel
theorem dX1_firstUnheld_21 : decode cX1_firstUnheld 21 = .ok (.invokevirtual 70, 3) := by decide +kernel
theorem dX1_firstUnheld_24 : decode cX1_firstUnheld 24 = .ok (.ifCond .ne 5, 3) := by decide +kernel
theorem dX1_firstUnheld_27 : decode cX1_firstUnheld 27 = .ok (.iload_n 3, 1) := by decide +kernel
theorem dX1_firstUnheld_28 : decode cX1_firstUnheld 28 = .ok (.ireturn, 1) := by decide +kernel
theorem dX1_firstUnheld_29 : decode cX1_firstUnheld 29 = .ok (.iinc 3 1, 3) := by decide +kernel
theorem dX1_firstUnheld_32 : decode cX1_firstUnheld 32 = .ok (.goto (-30), 3) := by decide +kernel
theorem dX1_firstUnheld_35 : decode cX1_firstUnheld 35 = .ok (.bipush (-9), 2) := by decide +kernel
theorem dX1_firstUnheld_37 : decode cX1_firstUnheld 37 = .ok (.ireturn, 1) := by decide +kernel
theorem dX2_init_0 : decode cX2_init 0 = .ok (.aload_n 0, 1) := by decide +kernel
theorem dX2_init_1 : decode cX2_init 1 = .ok (.invokespecial 3, 3) := by decide +kernel
theorem dX2_init_4 : decode cX2_init 4 = .ok (.aload_n 0, 1) := by decide +kernel
theorem dX2_init_5 : decode cX2_init 5 = .ok (.bipush 36, 2) := by decide +kernel
theorem dX2_init_7 : decode cX2_init 7 = .ok (.newarray .long, 2) := by decide +kernel
theorem dX2_init_9 : decode cX2_init 9 = .ok (.putfield 11, 3) := by decide +kernel
theorem dX2_init_12 : decode cX2_init 12 = .ok (.aload_n 0, 1) := by decide +kernel
theorem dX2_init_13 : decode cX2_init 13 = .ok (.bipush 36, 2) := by decide +kernel
theorem dX2_init_15 : decode cX2_init 15 = .ok (.newarray .long, 2) := by decide +kernel
theorem dX2_init_17 : decode cX2_init 17 = .ok (.putfield 15, 3) := by decide +kernel
theorem dX2_init_20 : decode cX2_init 20 = .ok (.return_, 1) := by decide +kernel
theorem dX2_allWays_0 : decode cX2_allWays 0 = .ok (.lconst 1, 1) := by decide +kernel
theorem dX2_allWays_1 : decode cX2_allWays 1 = .ok (.lstore_n 1, 1) := by decide +kernel
theorem dX2_allWays_2 : decode cX2_allWays 2 = .ok (.iconst 0, 1) := by decide +kernel
theorem dX2_allWays_3 : decode cX2_allWays 3 = .ok (.istore_n 3, 1) := by decide +kernel
theorem dX2_allWays_4 : decode cX2_allWays 4 = .ok (.iload_n 3, 1) := by decide +kernel
theorem dX2_allWays_5 : decode cX2_allWays 5 = .ok (.iload_n 0, 1) := by decide +kernel
theorem dX2_allWays_6 : decode cX2_allWays 6 = .ok (.if_icmp .ge 15, 3) := by decide +kernel
theorem dX2_allWays_9 : decode cX2_allWays 9 = .ok (.lload_n 1, 1) := by decide +kernel
theorem dX2_allWays_10 : decode cX2_allWays 10 = .ok (.ldc2_w 18, 3) := by decide +kernel
theorem dX2_allWays_13 : decode cX2_allWays 13 = .ok (.lmul, 1) := by decide +kernel
theorem dX2_allWays_14 : decode cX2_allWays 14 = .ok (.lstore_n 1, 1) := by decide +kernel
theorem dX2_allWays_15 : decode cX2_allWays 15 = .ok (.iinc 3 1, 3) := by decide +kernel
theorem dX2_allWays_18 : decode cX2_allWays 18 = .ok (.goto (-14), 3) := by decide +kernel
theorem dX2_allWays_21 : decode cX2_allWays 21 = .ok (.lload_n 1, 1) := by decide +kernel
theorem dX2_allWays_22 : decode cX2_allWays 22 = .ok (.lreturn, 1) := by decide +kernel
theorem dX2_waysToStay_0 : decode cX2_waysToStay 0 = .ok (.iload_n 1, 1) := by decide +kernel
theorem dX2_waysToStay_1 : decode cX2_waysToStay 1 = .ok (.ifCond .ne 9, 3) := by decide +kernel
theorem dX2_waysToStay_4 : decode cX2_waysToStay 4 = .ok (.iload 4, 2) := by decide +kernel
theorem dX2_waysToStay_6 : decode cX2_waysToStay 6 = .ok (.invokestatic 20, 3) := by decide +kernel
theorem dX2_waysToStay_9 : decode cX2_waysToStay 9 = .ok (.lreturn, 1) := by decide +kernel
theorem dX2_waysToStay_10 : decode cX2_waysToStay 10 = .ok (.iload_n 1, 1) := by decide +kernel
theorem dX2_waysToStay_11 : decode cX2_waysToStay 11 = .ok (.invokestatic 24, 3) := by decide +kernel
theorem dX2_waysToStay_14 : decode cX2_waysToStay 14 = .ok (.bipush 36, 2) := by decide +kernel
theorem dX2_waysToStay_16 : decode cX2_waysToStay 16 = .ok (.invokestatic 28, 3) := by decide +kernel
theorem dX2_waysToStay_19 : decode cX2_waysToStay 19 = .ok (.istore 5, 2) := by decide +kernel
theorem dX2_waysToStay_21 : decode cX2_waysToStay 21 = .ok (.iconst 0, 1) := by decide +kernel
theorem dX2_waysToStay_22 : decode cX2_waysToStay 22 = .ok (.istore 6, 2) := by decide +kernel
theorem dX2_waysToStay_24 : decode cX2_waysToStay 24 = .ok (.iload 6, 2) := by decide +kernel
theorem dX2_waysToStay_26 : decode cX2_waysToStay 26 = .ok (.bipush 36, 2) := by decide +kernel
theorem dX2_waysToStay_28 : decode cX2_waysToStay 28 = .ok (.if_icmp .ge 27, 3) := by decide +kernel
theorem dX2_waysToStay_31 : decode cX2_waysToStay 31 = .ok (.aload_n 0, 1) := by decide +kernel
theorem dX2_waysToStay_32 : decode cX2_waysToStay 32 = .ok (.getfield 11, 3) := by decide +kernel
theorem dX2_waysToStay_35 : decode cX2_waysToStay 35 = .ok (.iload 6, 2) := by decide +kernel
theorem dX2_waysToStay_37 : decode cX2_waysToStay 37 = .ok (.iload 6, 2) := by decide +kernel
theorem dX2_waysToStay_39 : decode cX2_waysToStay 39 = .ok (.iload_n 2, 1) := by decide +kernel
theorem dX2_waysToStay_40 : decode cX2_waysToStay 40 = .ok (.if_icmp .ne 7, 3) := by decide +kernel
theorem dX2_waysToStay_43 : decode cX2_waysToStay 43 = .ok (.lconst 1, 1) := by decide +kernel
theorem dX2_waysToStay_44 : decode cX2_waysToStay 44 = .ok (.goto 4, 3) := by decide +kernel
theorem dX2_waysToStay_47 : decode cX2_waysToStay 47 = .ok (.lconst 0, 1) := by decide +kernel
theorem dX2_waysToStay_48 : decode cX2_waysToStay 48 = .ok (.lastore, 1) := by decide +kernel
theorem dX2_waysToStay_49 : decode cX2_waysToStay 49 = .ok (.iinc 6 1, 3) := by decide +kernel
theorem dX2_waysToStay_52 : decode cX2_waysToStay 52 = .ok (.goto (-28), 3) := by decide +kernel
theorem dX2_waysToStay_55 : decode cX2_waysToStay 55 = .ok (.iconst 0, 1) := by decide +kernel
theorem dX2_waysToStay_56 : decode cX2_waysToStay 56 = .ok (.istore 6, 2) := by decide +kernel
theorem dX2_waysToStay_58 : decode cX2_waysToStay 58 = .ok (.iload 6, 2) := by decide +kernel
theorem dX2_waysToStay_60 : decode cX2_waysToStay 60 = .ok (.iload 4, 2) := by decide +kernel
theorem dX2_waysToStay_62 : decode cX2_waysToStay 62 = .ok (.if_icmp .ge 17, 3) := by decide +kernel
theorem dX2_waysToStay_65 : decode cX2_waysToStay 65 = .ok (.aload_n 0, 1) := by decide +kernel
theorem dX2_waysToStay_66 : decode cX2_waysToStay 66 = .ok (.iload_n 1, 1) := by decide +kernel
theorem dX2_waysToStay_67 : decode cX2_waysToStay 67 = .ok (.iload_n 3, 1) := by decide +kernel
theorem dX2_waysToStay_68 : decode cX2_waysToStay 68 = .ok (.iload 5, 2) := by decide +kernel
theorem dX2_waysToStay_70 : decode cX2_waysToStay 70 = .ok (.invokevirtual 34, 3) := by decide +kernel
theorem dX2_waysToStay_73 : decode cX2_waysToStay 73 = .ok (.iinc 6 1, 3) := by decide +kernel
theorem dX2_waysToStay_76 : decode cX2_waysToStay 76 = .ok (.goto (-18), 3) := by decide +kernel
theorem dX2_waysToStay_79 : decode cX2_waysToStay 79 = .ok (.lconst 0, 1) := by decide +kernel
theorem dX2_waysToStay_80 : decode cX2_waysToStay 80 = .ok (.lstore 6, 2) := by decide +kernel
theorem dX2_waysToStay_82 : decode cX2_waysToStay 82 = .ok (.iconst 0, 1) := by decide +kernel
theorem dX2_waysToStay_83 : decode cX2_waysToStay 83 = .ok (.istore 8, 2) := by decide +kernel
theorem dX2_waysToStay_85 : decode cX2_waysToStay 85 = .ok (.iload 8, 2) := by decide +kernel
theorem dX2_waysToStay_87 : decode cX2_waysToStay 87 = .ok (.iload 5, 2) := by decide +kernel
theorem dX2_waysToStay_89 : decode cX2_waysToStay 89 = .ok (.if_icmp .ge 21, 3) := by decide +kernel
theorem dX2_waysToStay_92 : decode cX2_waysToStay 92 = .ok (.lload 6, 2) := by decide +kernel
theorem dX2_waysToStay_94 : decode cX2_waysToStay 94 = .ok (.aload_n 0, 1) := by decide +kernel
theorem dX2_waysToStay_95 : decode cX2_waysToStay 95 = .ok (.getfield 11, 3) := by decide +kernel
theorem dX2_waysToStay_98 : decode cX2_waysToStay 98 = .ok (.iload 8, 2) := by decide +kernel
theorem dX2_waysToStay_100 : decode cX2_waysToStay 100 = .ok (.laload, 1) := by decide +kernel
theorem dX2_waysToStay_101 : decode cX2_waysToStay 101 = .ok (.ladd, 1) := by decide +kernel
theorem dX2_waysToStay_102 : decode cX2_waysToStay 102 = .ok (.lstore 6, 2) := by decide +kernel
theorem dX2_waysToStay_104 : decode cX2_waysToStay 104 = .ok (.iinc 8 1, 3) := by decide +kernel
theorem dX2_waysToStay_107 : decode cX2_waysToStay 107 = .ok (.goto (-22), 3) := by decide +kernel
theorem dX2_waysToStay_110 : decode cX2_waysToStay 110 = .ok (.lload 6, 2) := by decide +kernel
theorem dX2_waysToStay_112 : decode cX2_waysToStay 112 = .ok (.lreturn, 1) := by decide +kernel
theorem dX2_blowOnce_0 : decode cX2_blowOnce 0 = .ok (.iconst 0, 1) := by decide +kernel
theorem dX2_blowOnce_1 : decode cX2_blowOnce 1 = .ok (.istore 4, 2) := by decide +kernel
theorem dX2_blowOnce_3 : decode cX2_blowOnce 3 = .ok (.iload 4, 2) := by decide +kernel
theorem dX2_blowOnce_5 : decode cX2_blowOnce 5 = .ok (.bipush 36, 2) := by decide +kernel
theorem dX2_blowOnce_7 : decode cX2_blowOnce 7 = .ok (.if_icmp .ge 17, 3) := by decide +kernel
theorem dX2_blowOnce_10 : decode cX2_blowOnce 10 = .ok (.aload_n 0, 1) := by decide +kernel
theorem dX2_blowOnce_11 : decode cX2_blowOnce 11 = .ok (.getfield 15, 3) := by decide +kernel
theorem dX2_blowOnce_14 : decode cX2_blowOnce 14 = .ok (.iload 4, 2) := by decide +kernel
theorem dX2_blowOnce_16 : decode cX2_blowOnce 16 = .ok (.lconst 0, 1) := by decide +kernel
theorem dX2_blowOnce_17 : decode cX2_blowOnce 17 = .ok (.lastore, 1) := by decide +kernel
theorem dX2_blowOnce_18 : decode cX2_blowOnce 18 = .ok (.iinc 4 1, 3) := by decide +kernel
theorem dX2_blowOnce_21 : decode cX2_blowOnce 21 = .ok (.goto (-18), 3) := by decide +kernel
theorem dX2_blowOnce_24 : decode cX2_blowOnce 24 = .ok (.iconst 1, 1) := by decide +kernel
theorem dX2_blowOnce_25 : decode cX2_blowOnce 25 = .ok (.istore 4, 2) := by decide +kernel
theorem dX2_blowOnce_27 : decode cX2_blowOnce 27 = .ok (.iload 4, 2) := by decide +kernel
theorem dX2_blowOnce_29 : decode cX2_blowOnce 29 = .ok (.bipush 6, 2) := by decide +kernel
theorem dX2_blowOnce_31 : decode cX2_blowOnce 31 = .ok (.if_icmp .gt 56, 3) := by decide +kernel
theorem dX2_blowOnce_34 : decode cX2_blowOnce 34 = .ok (.iload_n 1, 1) := by decide +kernel
theorem dX2_blowOnce_35 : decode cX2_blowOnce 35 = .ok (.iload_n 2, 1) := by decide +kernel
theorem dX2_blowOnce_36 : decode cX2_blowOnce 36 = .ok (.iload 4, 2) := by decide +kernel
theorem dX2_blowOnce_38 : decode cX2_blowOnce 38 = .ok (.invokestatic 38, 3) := by decide +kernel
theorem dX2_blowOnce_41 : decode cX2_blowOnce 41 = .ok (.istore 5, 2) := by decide +kernel
theorem dX2_blowOnce_43 : decode cX2_blowOnce 43 = .ok (.iconst 0, 1) := by decide +kernel
theorem dX2_blowOnce_44 : decode cX2_blowOnce 44 = .ok (.istore 6, 2) := by decide +kernel
theorem dX2_blowOnce_46 : decode cX2_blowOnce 46 = .ok (.iload 6, 2) := by decide +kernel
theorem dX2_blowOnce_48 : decode cX2_blowOnce 48 = .ok (.iload 5, 2) := by decide +kernel
theorem dX2_blowOnce_50 : decode cX2_blowOnce 50 = .ok (.iadd, 1) := by decide +kernel
theorem dX2_blowOnce_51 : decode cX2_blowOnce 51 = .ok (.iload_n 3, 1) := by decide +kernel
theorem dX2_blowOnce_52 : decode cX2_blowOnce 52 = .ok (.if_icmp .ge 29, 3) := by decide +kernel
theorem dX2_blowOnce_55 : decode cX2_blowOnce 55 = .ok (.aload_n 0, 1) := by decide +kernel
theorem dX2_blowOnce_56 : decode cX2_blowOnce 56 = .ok (.getfield 15, 3) := by decide +kernel
theorem dX2_blowOnce_59 : decode cX2_blowOnce 59 = .ok (.iload 6, 2) := by decide +kernel
theorem dX2_blowOnce_61 : decode cX2_blowOnce 61 = .ok (.iload 5, 2) := by decide +kernel
theorem dX2_blowOnce_63 : decode cX2_blowOnce 63 = .ok (.iadd, 1) := by decide +kernel
theorem dX2_blowOnce_64 : decode cX2_blowOnce 64 = .ok (.dup2, 1) := by decide +kernel
theorem dX2_blowOnce_65 : decode cX2_blowOnce 65 = .ok (.laload, 1) := by decide +kernel
theorem dX2_blowOnce_66 : decode cX2_blowOnce 66 = .ok (.aload_n 0, 1) := by decide +kernel
theorem dX2_blowOnce_67 : decode cX2_blowOnce 67 = .ok (.getfield 11, 3) := by decide +kernel
theorem dX2_blowOnce_70 : decode cX2_blowOnce 70 = .ok (.iload 6, 2) := by decide +kernel
theorem dX2_blowOnce_72 : decode cX2_blowOnce 72 = .ok (.laload, 1) := by decide +kernel
theorem dX2_blowOnce_73 : decode cX2_blowOnce 73 = .ok (.ladd, 1) := by decide +kernel
theorem dX2_blowOnce_74 : decode cX2_blowOnce 74 = .ok (.lastore, 1) := by decide +kernel
theorem dX2_blowOnce_75 : decode cX2_blowOnce 75 = .ok (.iinc 6 1, 3) := by decide +kernel
theorem dX2_blowOnce_78 : decode cX2_blowOnce 78 = .ok (.goto (-32), 3) := by decide +kernel
theorem dX2_blowOnce_81 : decode cX2_blowOnce 81 = .ok (.iinc 4 1, 3) := by decide +kernel
theorem dX2_blowOnce_84 : decode cX2_blowOnce 84 = .ok (.goto (-57), 3) := by decide +kernel
theorem dX2_blowOnce_87 : decode cX2_blowOnce 87 = .ok (.aload_n 0, 1) := by decide +kernel
theorem dX2_blowOnce_88 : decode cX2_blowOnce 88 = .ok (.getfield 15, 3) := by decide +kernel
theorem dX2_blowOnce_91 : decode cX2_blowOnce 91 = .ok (.iconst 0, 1) := by decide +kernel
theorem dX2_blowOnce_92 : decode cX2_blowOnce 92 = .ok (.aload_n 0, 1) := by decide +kernel
theorem dX2_blowOnce_93 : decode cX2_blowOnce 93 = .ok (.getfield 11, 3) := by decide +kernel
theorem dX2_blowOnce_96 : decode cX2_blowOnce 96 = .ok (.iconst 0, 1) := by decide +kernel
theorem dX2_blowOnce_97 : decode cX2_blowOnce 97 = .ok (.bipush 36, 2) := by decide +kernel
theorem dX2_blowOnce_99 : decode cX2_blowOnce 99 = .ok (.invokestatic 42, 3) := by decide +kernel
theorem dX2_blowOnce_102 : decode cX2_blowOnce 102 = .ok (.return_, 1) := by decide +kernel
theorem dX2_greatestShared_0 : decode cX2_greatestShared 0 = .ok (.iconst 0, 1) := by decide +kernel
theorem dX2_greatestShared_1 : decode cX2_greatestShared 1 = .ok (.istore 4, 2) := by decide +kernel
theorem dX2_greatestShared_3 : decode cX2_greatestShared 3 = .ok (.iload 4, 2) := by decide +kernel
theorem dX2_greatestShared_5 : decode cX2_greatestShared 5 = .ok (.sipush 128, 3) := by decide +kernel
theorem dX2_greatestShared_8 : decode cX2_greatestShared 8 = .ok (.if_icmp .ge 25, 3) := by decide +kernel
theorem dX2_greatestShared_11 : decode cX2_greatestShared 11 = .ok (.lload_n 2, 1) := by decide +kernel
theorem dX2_greatestShared_12 : decode cX2_greatestShared 12 = .ok (.lconst 0, 1) := by decide +kernel
theorem dX2_greatestShared_13 : decode cX2_greatestShared 13 = .ok (.lcmp, 1) := by decide +kernel
theorem dX2_greatestShared_14 : decode cX2_greatestShared 14 = .ok (.ifCond .eq 19, 3) := by decide +kernel
theorem dX2_greatestShared_17 : decode cX2_greatestShared 17 = .ok (.lload_n 0, 1) := by decide +kernel
theorem dX2_greatestShared_18 : decode cX2_greatestShared 18 = .ok (.lload_n 2, 1) := by decide +kernel
theorem dX2_greatestShared_19 : decode cX2_greatestShared 19 = .ok (.lrem, 1) := by decide +kernel
theorem dX2_greatestShared_20 : decode cX2_greatestShared 20 = .ok (.lstore 5, 2) := by decide +kernel
theorem dX2_greatestShared_22 : decode cX2_greatestShared 22 = .ok (.lload_n 2, 1) := by decide +kernel
theorem dX2_greatestShared_23 : decode cX2_greatestShared 23 = .ok (.lstore_n 0, 1) := by decide +kernel
theorem dX2_greatestShared_24 : decode cX2_greatestShared 24 = .ok (.lload 5, 2) := by decide +kernel
theorem dX2_greatestShared_26 : decode cX2_greatestShared 26 = .ok (.lstore_n 2, 1) := by decide +kernel
theorem dX2_greatestShared_27 : decode cX2_greatestShared 27 = .ok (.iinc 4 1, 3) := by decide +kernel
theorem dX2_greatestShared_30 : decode cX2_greatestShared 30 = .ok (.goto (-27), 3) := by decide +kernel
theorem dX2_greatestShared_33 : decode cX2_greatestShared 33 = .ok (.lload_n 0, 1) := by decide +kernel
theorem dX2_greatestShared_34 : decode cX2_greatestShared 34 = .ok (.lreturn, 1) := by decide +kernel
theorem dX3_init_0 : decode cX3_init 0 = .ok (.aload_n 0, 1) := by decide +kernel
theorem dX3_init_1 : decode cX3_init 1 = .ok (.invokespecial 3, 3) := by decide +kernel
theorem dX3_init_4 : decode cX3_init 4 = .ok (.aload_n 0, 1) := by decide +kernel
theorem dX3_init_5 : decode cX3_init 5 = .ok (.new 9, 3) := by decide +kernel
theorem dX3_init_8 : decode cX3_init 8 = .ok (.dup, 1) := by decide +kernel
theorem dX3_init_9 : decode cX3_init 9 = .ok (.invokespecial 11, 3) := by decide +kernel
theorem dX3_init_12 : decode cX3_init 12 = .ok (.putfield 12, 3) := by decide +kernel
theorem dX3_init_15 : decode cX3_init 15 = .ok (.return_, 1) := by decide +kernel
theorem dX3_galesToFirstOut_0 : decode cX3_galesToFirstOut 0 = .ok (.aload_n 0, 1) := by decide +kernel
theorem dX3_galesToFirstOut_1 : decode cX3_galesToFirstOut 1 = .ok (.getfield 12, 3) := by decide +kernel
theorem dX3_galesToFirstOut_4 : decode cX3_galesToFirstOut 4 = .ok (.aload_n 2, 1) := by decide +kernel
theorem dX3_galesToFirstOut_5 : decode cX3_galesToFirstOut 5 = .ok (.getfield 18, 3) := by decide +kernel
theorem dX3_galesToFirstOut_8 : decode cX3_galesToFirstOut 8 = .ok (.invokevirtual 22, 3) := by decide +kernel
theorem dX3_galesToFirstOut_11 : decode cX3_galesToFirstOut 11 = .ok (.aload_n 2, 1) := by decide +kernel
theorem dX3_galesToFirstOut_12 : decode cX3_galesToFirstOut 12 = .ok (.aload_n 1, 1) := by decide +kernel
theorem dX3_galesToFirstOut_13 : decode cX3_galesToFirstOut 13 = .ok (.invokevirtual 26, 3) := by decide +kernel
theorem dX3_galesToFirstOut_16 : decode cX3_galesToFirstOut 16 = .ok (.istore 4, 2) := by decide +kernel
theorem dX3_galesToFirstOut_18 : decode cX3_galesToFirstOut 18 = .ok (.iconst 1, 1) := by decide +kernel
theorem dX3_galesToFirstOut_19 : decode cX3_galesToFirstOut 19 = .ok (.istore 5, 2) := by decide +kernel
theorem dX3_galesToFirstOut_21 : decode cX3_galesToFirstOut 21 = .ok (.iload 5, 2) := by decide +kernel
theorem dX3_galesToFirstOut_23 : decode cX3_galesToFirstOut 23 = .ok (.bipush 60, 2) := by decide +kernel
theorem dX3_galesToFirstOut_25 : decode cX3_galesToFirstOut 25 = .ok (.if_icmp .gt 34, 3) := by decide +kernel
theorem dX3_galesToFirstOut_28 : decode cX3_galesToFirstOut 28 = .ok (.aload_n 0, 1) := by decide +kernel
theorem dX3_galesToFirstOut_29 : decode cX3_galesToFirstOut 29 = .ok (.getfield 12, 3) := by decide +kernel
theorem dX3_galesToFirstOut_32 : decode cX3_galesToFirstOut 32 = .ok (.aload_n 1, 1) := by decide +kernel
theorem dX3_galesToFirstOut_33 : decode cX3_galesToFirstOut 33 = .ok (.iload_n 3, 1) := by decide +kernel
theorem dX3_galesToFirstOut_34 : decode cX3_galesToFirstOut 34 = .ok (.invokevirtual 30, 3) := by decide +kernel
theorem dX3_galesToFirstOut_37 : decode cX3_galesToFirstOut 37 = .ok (.aload_n 0, 1) := by decide +kernel
theorem dX3_galesToFirstOut_38 : decode cX3_galesToFirstOut 38 = .ok (.getfield 12, 3) := by decide +kernel
theorem dX3_galesToFirstOut_41 : decode cX3_galesToFirstOut 41 = .ok (.aload_n 1, 1) := by decide +kernel
theorem dX3_galesToFirstOut_42 : decode cX3_galesToFirstOut 42 = .ok (.invokevirtual 26, 3) := by decide +kernel
theorem dX3_galesToFirstOut_45 : decode cX3_galesToFirstOut 45 = .ok (.iload 4, 2) := by decide +kernel
theorem dX3_galesToFirstOut_47 : decode cX3_galesToFirstOut 47 = .ok (.if_icmp .eq 6, 3) := by decide +kernel
theorem dX3_galesToFirstOut_50 : decode cX3_galesToFirstOut 50 = .ok (.iload 5, 2) := by decide +kernel
theorem dX3_galesToFirstOut_52 : decode cX3_galesToFirstOut 52 = .ok (.ireturn, 1) := by decide +kernel
theorem dX3_galesToFirstOut_53 : decode cX3_galesToFirstOut 53 = .ok (.iinc 5 1, 3) := by decide +kernel
theorem dX3_galesToFirstOut_56 : decode cX3_galesToFirstOut 56 = .ok (.goto (-35), 3) := by decide +kernel
theorem dX3_galesToFirstOut_59 : decode cX3_galesToFirstOut 59 = .ok (.bipush (-9), 2) := by decide +kernel
theorem dX3_galesToFirstOut_61 : decode cX3_galesToFirstOut 61 = .ok (.ireturn, 1) := by decide +kernel
theorem dX3_endFirstOut_0 : decode cX3_endFirstOut 0 = .ok (.aload_n 0, 1) := by decide +kernel
theorem dX3_endFirstOut_1 : decode cX3_endFirstOut 1 = .ok (.aload_n 1, 1) := by decide +kernel
theorem dX3_endFirstOut_2 : decode cX3_endFirstOut 2 = .ok (.aload_n 2, 1) := by decide +kernel
theorem dX3_endFirstOut_3 : decode cX3_endFirstOut 3 = .ok (.iload_n 3, 1) := by decide +kernel
theorem dX3_endFirstOut_4 : decode cX3_endFirstOut 4 = .ok (.invokevirtual 34, 3) := by decide +kernel
theorem dX3_endFirstOut_7 : decode cX3_endFirstOut 7 = .ok (.bipush (-9), 2) := by decide +kernel
theorem dX3_endFirstOut_9 : decode cX3_endFirstOut 9 = .ok (.if_icmp .ne 6, 3) := by decide +kernel
theorem dX3_endFirstOut_12 : decode cX3_endFirstOut 12 = .ok (.bipush (-9), 2) := by decide +kernel
theorem dX3_endFirstOut_14 : decode cX3_endFirstOut 14 = .ok (.ireturn, 1) := by decide +kernel
theorem dX3_endFirstOut_15 : decode cX3_endFirstOut 15 = .ok (.aload_n 0, 1) := by decide +kernel
theorem dX3_endFirstOut_16 : decode cX3_endFirstOut 16 = .ok (.getfield 12, 3) := by decide +kernel
theorem dX3_endFirstOut_19 : decode cX3_endFirstOut 19 = .ok (.aload_n 1, 1) := by decide +kernel
theorem dX3_endFirstOut_20 : decode cX3_endFirstOut 20 = .ok (.invokevirtual 26, 3) := by decide +kernel
theorem dX3_endFirstOut_23 : decode cX3_endFirstOut 23 = .ok (.aload_n 2, 1) := by decide +kernel
theorem dX3_endFirstOut_24 : decode cX3_endFirstOut 24 = .ok (.aload_n 1, 1) := by decide +kernel
theorem dX3_endFirstOut_25 : decode cX3_endFirstOut 25 = .ok (.invokevirtual 26, 3) := by decide +kernel
theorem dX3_endFirstOut_28 : decode cX3_endFirstOut 28 = .ok (.iconst (-1), 1) := by decide +kernel
theorem dX3_endFirstOut_29 : decode cX3_endFirstOut 29 = .ok (.ixor, 1) := by decide +kernel
theorem dX3_endFirstOut_30 : decode cX3_endFirstOut 30 = .ok (.iand, 1) := by decide +kernel
theorem dX3_endFirstOut_31 : decode cX3_endFirstOut 31 = .ok (.invokestatic 38, 3) := by decide +kernel
theorem dX3_endFirstOut_34 : decode cX3_endFirstOut 34 = .ok (.ireturn, 1) := by decide +kernel
theorem dX3_galesToFall_0 : decode cX3_galesToFall 0 = .ok (.aload_n 0, 1) := by decide +kernel
theorem dX3_galesToFall_1 : decode cX3_galesToFall 1 = .ok (.getfield 12, 3) := by decide +kernel
theorem dX3_galesToFall_4 : decode cX3_galesToFall 4 = .ok (.aload_n 2, 1) := by decide +kernel
theorem dX3_galesToFall_5 : decode cX3_galesToFall 5 = .ok (.getfield 18, 3) := by decide +kernel
theorem dX3_galesToFall_8 : decode cX3_galesToFall 8 = .ok (.invokevirtual 22, 3) := by decide +kernel
theorem dX3_galesToFall_11 : decode cX3_galesToFall 11 = .ok (.iconst 0, 1) := by decide +kernel
theorem dX3_galesToFall_12 : decode cX3_galesToFall 12 = .ok (.istore 5, 2) := by decide +kernel
theorem dX3_galesToFall_14 : decode cX3_galesToFall 14 = .ok (.iload 5, 2) := by decide +kernel
theorem dX3_galesToFall_16 : decode cX3_galesToFall 16 = .ok (.bipush 60, 2) := by decide +kernel
theorem dX3_galesToFall_18 : decode cX3_galesToFall 18 = .ok (.if_icmp .gt 34, 3) := by decide +kernel
theorem dX3_galesToFall_21 : decode cX3_galesToFall 21 = .ok (.aload_n 3, 1) := by decide +kernel
theorem dX3_galesToFall_22 : decode cX3_galesToFall 22 = .ok (.aload_n 1, 1) := by decide +kernel
theorem dX3_galesToFall_23 : decode cX3_galesToFall 23 = .ok (.aload_n 0, 1) := by decide +kernel
theorem dX3_galesToFall_24 : decode cX3_galesToFall 24 = .ok (.getfield 12, 3) := by decide +kernel
theorem dX3_galesToFall_27 : decode cX3_galesToFall 27 = .ok (.invokevirtual 44, 3) := by decide +kernel
theorem dX3_galesToFall_30 : decode cX3_galesToFall 30 = .ok (.ifCond .ne 6, 3) := by decide +kernel
theorem dX3_galesToFall_33 : decode cX3_galesToFall 33 = .ok (.iload 5, 2) := by decide +kernel
theorem dX3_galesToFall_35 : decode cX3_galesToFall 35 = .ok (.ireturn, 1) := by decide +kernel
theorem dX3_galesToFall_36 : decode cX3_galesToFall 36 = .ok (.aload_n 0, 1) := by decide +kernel
theorem dX3_galesToFall_37 : decode cX3_galesToFall 37 = .ok (.getfield 12, 3) := by decide +kernel
theorem dX3_galesToFall_40 : decode cX3_galesToFall 40 = .ok (.aload_n 1, 1) := by decide +kernel
theorem dX3_galesToFall_41 : decode cX3_galesToFall 41 = .ok (.iload 4, 2) := by decide +kernel
theorem dX3_galesToFall_43 : decode cX3_galesToFall 43 = .ok (.invokevirtual 30, 3) := by decide +kernel
theorem dX3_galesToFall_46 : decode cX3_galesToFall 46 = .ok (.iinc 5 1, 3) := by decide +kernel
theorem dX3_galesToFall_49 : decode cX3_galesToFall 49 = .ok (.goto (-35), 3) := by decide +kernel
theorem dX3_galesToFall_52 : decode cX3_galesToFall 52 = .ok (.bipush (-9), 2) := by decide +kernel
theorem dX3_galesToFall_54 : decode cX3_galesToFall 54 = .ok (.ireturn, 1) := by decide +kernel
theorem dX3_lostBehind_0 : decode cX3_lostBehind 0 = .ok (.aload_n 0, 1) := by decide +kernel
theorem dX3_lostBehind_1 : decode cX3_lostBehind 1 = .ok (.getfield 12, 3) := by decide +kernel
theorem dX3_lostBehind_4 : decode cX3_lostBehind 4 = .ok (.aload_n 2, 1) := by decide +kernel
theorem dX3_lostBehind_5 : decode cX3_lostBehind 5 = .ok (.getfield 18, 3) := by decide +kernel
theorem dX3_lostBehind_8 : decode cX3_lostBehind 8 = .ok (.invokevirtual 22, 3) := by decide +kernel
theorem dX3_lostBehind_11 : decode cX3_lostBehind 11 = .ok (.aload_n 0, 1) := by decide +kernel
theorem dX3_lostBehind_12 : decode cX3_lostBehind 12 = .ok (.aload_n 1, 1) := by decide +kernel
theorem dX3_lostBehind_13 : decode cX3_lostBehind 13 = .ok (.iload_n 3, 1) := by decide +kernel
theorem dX3_lostBehind_14 : decode cX3_lostBehind 14 = .ok (.iload 4, 2) := by decide +kernel
theorem dX3_lostBehind_16 : decode cX3_lostBehind 16 = .ok (.invokevirtual 50, 3) := by decide +kernel
theorem dX3_lostBehind_19 : decode cX3_lostBehind 19 = .ok (.aload_n 2, 1) := by decide +kernel
theorem dX3_lostBehind_20 : decode cX3_lostBehind 20 = .ok (.aload_n 1, 1) := by decide +kernel
theorem dX3_lostBehind_21 : decode cX3_lostBehind 21 = .ok (.invokevirtual 26, 3) := by decide +kernel
theorem dX3_lostBehind_24 : decode cX3_lostBehind 24 = .ok (.iconst (-1), 1) := by decide +kernel
theorem dX3_lostBehind_25 : decode cX3_lostBehind 25 = .ok (.ixor, 1) := by decide +kernel
theorem dX3_lostBehind_26 : decode cX3_lostBehind 26 = .ok (.iand, 1) := by decide +kernel
theorem dX3_lostBehind_27 : decode cX3_lostBehind 27 = .ok (.ireturn, 1) := by decide +kernel
theorem dX3_lostIfBolted_0 : decode cX3_lostIfBolted 0 = .ok (.aload_n 0, 1) := by decide +kernel
theorem dX3_lostIfBolted_1 : decode cX3_lostIfBolted 1 = .ok (.getfield 12, 3) := by decide +kernel
theorem dX3_lostIfBolted_4 : decode cX3_lostIfBolted 4 = .ok (.aload_n 2, 1) := by decide +kernel
theorem dX3_lostIfBolted_5 : decode cX3_lostIfBolted 5 = .ok (.getfield 18, 3) := by decide +kernel
theorem dX3_lostIfBolted_8 : decode cX3_lostIfBolted 8 = .ok (.invokevirtual 22, 3) := by decide +kernel
theorem dX3_lostIfBolted_11 : decode cX3_lostIfBolted 11 = .ok (.iconst 0, 1) := by decide +kernel
theorem dX3_lostIfBolted_12 : decode cX3_lostIfBolted 12 = .ok (.istore 5, 2) := by decide +kernel
theorem dX3_lostIfBolted_14 : decode cX3_lostIfBolted 14 = .ok (.iload 5, 2) := by decide +kernel
theorem dX3_lostIfBolted_16 : decode cX3_lostIfBolted 16 = .ok (.aload_n 1, 1) := by decide +kernel
theorem dX3_lostIfBolted_17 : decode cX3_lostIfBolted 17 = .ok (.invokevirtual 54, 3) := by decide +kernel
theorem dX3_lostIfBolted_20 : decode cX3_lostIfBolted 20 = .ok (.if_icmp .ge 19, 3) := by decide +kernel
theorem dX3_lostIfBolted_23 : decode cX3_lostIfBolted 23 = .ok (.aload_n 0, 1) := by decide +kernel
theorem dX3_lostIfBolted_24 : decode cX3_lostIfBolted 24 = .ok (.getfield 12, 3) := by decide +kernel
theorem dX3_lostIfBolted_27 : decode cX3_lostIfBolted 27 = .ok (.iload 5, 2) := by decide +kernel
theorem dX3_lostIfBolted_29 : decode cX3_lostIfBolted 29 = .ok (.iconst 3, 1) := by decide +kernel
theorem dX3_lostIfBolted_30 : decode cX3_lostIfBolted 30 = .ok (.invokevirtual 60, 3) := by decide +kernel
theorem dX3_lostIfBolted_33 : decode cX3_lostIfBolted 33 = .ok (.iinc 5 1, 3) := by decide +kernel
theorem dX3_lostIfBolted_36 : decode cX3_lostIfBolted 36 = .ok (.goto (-22), 3) := by decide +kernel
theorem dX3_lostIfBolted_39 : decode cX3_lostIfBolted 39 = .ok (.aload_n 0, 1) := by decide +kernel
theorem dX3_lostIfBolted_40 : decode cX3_lostIfBolted 40 = .ok (.aload_n 1, 1) := by decide +kernel
theorem dX3_lostIfBolted_41 : decode cX3_lostIfBolted 41 = .ok (.iload_n 3, 1) := by decide +kernel
theorem dX3_lostIfBolted_42 : decode cX3_lostIfBolted 42 = .ok (.iload 4, 2) := by decide +kernel
theorem dX3_lostIfBolted_44 : decode cX3_lostIfBolted 44 = .ok (.invokevirtual 50, 3) := by decide +kernel
theorem dX3_lostIfBolted_47 : decode cX3_lostIfBolted 47 = .ok (.ireturn, 1) := by decide +kernel
theorem dX3_blowAndTell_0 : decode cX3_blowAndTell 0 = .ok (.iconst 0, 1) := by decide +kernel
theorem dX3_blowAndTell_1 : decode cX3_blowAndTell 1 = .ok (.istore 4, 2) := by decide +kernel
theorem dX3_blowAndTell_3 : decode cX3_blowAndTell 3 = .ok (.iload 4, 2) := by decide +kernel
theorem dX3_blowAndTell_5 : decode cX3_blowAndTell 5 = .ok (.iload_n 3, 1) := by decide +kernel
theorem dX3_blowAndTell_6 : decode cX3_blowAndTell 6 = .ok (.if_icmp .ge 18, 3) := by decide +kernel
theorem dX3_blowAndTell_9 : decode cX3_blowAndTell 9 = .ok (.aload_n 0, 1) := by decide +kernel
theorem dX3_blowAndTell_10 : decode cX3_blowAndTell 10 = .ok (.getfield 12, 3) := by decide +kernel
theorem dX3_blowAndTell_13 : decode cX3_blowAndTell 13 = .ok (.aload_n 1, 1) := by decide +kernel
theorem dX3_blowAndTell_14 : decode cX3_blowAndTell 14 = .ok (.iload_n 2, 1) := by decide +kernel
theorem dX3_blowAndTell_15 : decode cX3_blowAndTell 15 = .ok (.invokevirtual 30, 3) := by decide +kernel
theorem dX3_blowAndTell_18 : decode cX3_blowAndTell 18 = .ok (.iinc 4 1, 3) := by decide +kernel
theorem dX3_blowAndTell_21 : decode cX3_blowAndTell 21 = .ok (.goto (-18), 3) := by decide +kernel
theorem dX3_blowAndTell_24 : decode cX3_blowAndTell 24 = .ok (.aload_n 0, 1) := by decide +kernel
theorem dX3_blowAndTell_25 : decode cX3_blowAndTell 25 = .ok (.getfield 12, 3) := by decide +kernel
theorem dX3_blowAndTell_28 : decode cX3_blowAndTell 28 = .ok (.aload_n 1, 1) := by decide +kernel
theorem dX3_blowAndTell_29 : decode cX3_blowAndTell 29 = .ok (.invokevirtual 26, 3) := by decide +kernel
theorem dX3_blowAndTell_32 : decode cX3_blowAndTell 32 = .ok (.ireturn, 1) := by decide +kernel
theorem dX4_init_0 : decode cX4_init 0 = .ok (.aload_n 0, 1) := by decide +kernel
theorem dX4_init_1 : decode cX4_init 1 = .ok (.invokespecial 3, 3) := by decide +kernel
theorem dX4_init_4 : decode cX4_init 4 = .ok (.aload_n 0, 1) := by decide +kernel
theorem dX4_init_5 : decode cX4_init 5 = .ok (.bipush 64, 2) := by decide +kernel
theorem dX4_init_7 : decode cX4_init 7 = .ok (.newarray .int, 2) := by decide +kernel
theorem dX4_init_9 : decode cX4_init 9 = .ok (.putfield 9, 3) := by decide +kernel
theorem dX4_init_12 : decode cX4_init 12 = .ok (.return_, 1) := by decide +kernel
theorem dX4_howMany_0 : decode cX4_howMany 0 = .ok (.iconst 1, 1) := by decide +kernel
theorem dX4_howMany_1 : decode cX4_howMany 1 = .ok (.aload_n 1, 1) := by decide +kernel
theorem dX4_howMany_2 : decode cX4_howMany 2 = .ok (.getfield 15, 3) := by decide +kernel
theorem dX4_howMany_5 : decode cX4_howMany 5 = .ok (.ishl, 1) := by decide +kernel
theorem dX4_howMany_6 : decode cX4_howMany 6 = .ok (.istore_n 2, 1) := by decide +kernel
theorem dX4_howMany_7 : decode cX4_howMany 7 = .ok (.iconst 0, 1) := by decide +kernel
theorem dX4_howMany_8 : decode cX4_howMany 8 = .ok (.istore_n 3, 1) := by decide +kernel
theorem dX4_howMany_9 : decode cX4_howMany 9 = .ok (.iload_n 3, 1) := by decide +kernel
theorem dX4_howMany_10 : decode cX4_howMany 10 = .ok (.iload_n 2, 1) := by decide +kernel
theorem dX4_howMany_11 : decode cX4_howMany 11 = .ok (.if_icmp .ge 24, 3) := by decide +kernel
theorem dX4_howMany_14 : decode cX4_howMany 14 = .ok (.aload_n 0, 1) := by decide +kernel
theorem dX4_howMany_15 : decode cX4_howMany 15 = .ok (.getfield 9, 3) := by decide +kernel
theorem dX4_howMany_18 : decode cX4_howMany 18 = .ok (.iload_n 3, 1) := by decide +kernel
theorem dX4_howMany_19 : decode cX4_howMany 19 = .ok (.iload_n 3, 1) := by decide +kernel
theorem dX4_howMany_20 : decode cX4_howMany 20 = .ok (.ifCond .ne 7, 3) := by decide +kernel
theorem dX4_howMany_23 : decode cX4_howMany 23 = .ok (.iconst 1, 1) := by decide +kernel
theorem dX4_howMany_24 : decode cX4_howMany 24 = .ok (.goto 4, 3) := by decide +kernel
theorem dX4_howMany_27 : decode cX4_howMany 27 = .ok (.iconst 0, 1) := by decide +kernel
theorem dX4_howMany_28 : decode cX4_howMany 28 = .ok (.iastore, 1) := by decide +kernel
theorem dX4_howMany_29 : decode cX4_howMany 29 = .ok (.iinc 3 1, 3) := by decide +kernel
theorem dX4_howMany_32 : decode cX4_howMany 32 = .ok (.goto (-23), 3) := by decide +kernel
theorem dX4_howMany_35 : decode cX4_howMany 35 = .ok (.iconst 0, 1) := by decide +kernel
theorem dX4_howMany_36 : decode cX4_howMany 36 = .ok (.istore_n 3, 1) := by decide +kernel
theorem dX4_howMany_37 : decode cX4_howMany 37 = .ok (.iload_n 3, 1) := by decide +kernel
theorem dX4_howMany_38 : decode cX4_howMany 38 = .ok (.iload_n 2, 1) := by decide +kernel
theorem dX4_howMany_39 : decode cX4_howMany 39 = .ok (.if_icmp .ge 66, 3) := by decide +kernel
theorem dX4_howMany_42 : decode cX4_howMany 42 = .ok (.aload_n 1, 1) := by decide +kernel
theorem dX4_howMany_43 : decode cX4_howMany 43 = .ok (.iload_n 3, 1) := by decide +kernel
theorem dX4_howMany_44 : decode cX4_howMany 44 = .ok (.invokestatic 21, 3) := by decide +kernel
theorem dX4_howMany_47 : decode cX4_howMany 47 = .ok (.istore 4, 2) := by decide +kernel
theorem dX4_howMany_49 : decode cX4_howMany 49 = .ok (.iconst 0, 1) := by decide +kernel
theorem dX4_howMany_50 : decode cX4_howMany 50 = .ok (.istore 5, 2) := by decide +kernel
theorem dX4_howMany_52 : decode cX4_howMany 52 = .ok (.iload 5, 2) := by decide +kernel
theorem dX4_howMany_54 : decode cX4_howMany 54 = .ok (.aload_n 1, 1) := by decide +kernel
theorem dX4_howMany_55 : decode cX4_howMany 55 = .ok (.getfield 15, 3) := by decide +kernel
theorem dX4_howMany_58 : decode cX4_howMany 58 = .ok (.if_icmp .ge 41, 3) := by decide +kernel
theorem dX4_howMany_61 : decode cX4_howMany 61 = .ok (.aload_n 1, 1) := by decide +kernel
theorem dX4_howMany_62 : decode cX4_howMany 62 = .ok (.iload_n 3, 1) := by decide +kernel
theorem dX4_howMany_63 : decode cX4_howMany 63 = .ok (.iload 4, 2) := by decide +kernel
theorem dX4_howMany_65 : decode cX4_howMany 65 = .ok (.iload 5, 2) := by decide +kernel
theorem dX4_howMany_67 : decode cX4_howMany 67 = .ok (.invokestatic 25, 3) := by decide +kernel
theorem dX4_howMany_70 : decode cX4_howMany 70 = .ok (.ifCond .eq 23, 3) := by decide +kernel
theorem dX4_howMany_73 : decode cX4_howMany 73 = .ok (.aload_n 0, 1) := by decide +kernel
theorem dX4_howMany_74 : decode cX4_howMany 74 = .ok (.getfield 9, 3) := by decide +kernel
theorem dX4_howMany_77 : decode cX4_howMany 77 = .ok (.iload_n 3, 1) := by decide +kernel
theorem dX4_howMany_78 : decode cX4_howMany 78 = .ok (.iconst 1, 1) := by decide +kernel
theorem dX4_howMany_79 : decode cX4_howMany 79 = .ok (.iload 5, 2) := by decide +kernel
theorem dX4_howMany_81 : decode cX4_howMany 81 = .ok (.ishl, 1) := by decide +kernel
theorem dX4_howMany_82 : decode cX4_howMany 82 = .ok (.ior, 1) := by decide +kernel
theorem dX4_howMany_83 : decode cX4_howMany 83 = .ok (.dup2, 1) := by decide +kernel
theorem dX4_howMany_84 : decode cX4_howMany 84 = .ok (.iaload, 1) := by decide +kernel
theorem dX4_howMany_85 : decode cX4_howMany 85 = .ok (.aload_n 0, 1) := by decide +kernel
theorem dX4_howMany_86 : decode cX4_howMany 86 = .ok (.getfield 9, 3) := by decide +kernel
theorem dX4_howMany_89 : decode cX4_howMany 89 = .ok (.iload_n 3, 1) := by decide +kernel
theorem dX4_howMany_90 : decode cX4_howMany 90 = .ok (.iaload, 1) := by decide +kernel
theorem dX4_howMany_91 : decode cX4_howMany 91 = .ok (.iadd, 1) := by decide +kernel
theorem dX4_howMany_92 : decode cX4_howMany 92 = .ok (.iastore, 1) := by decide +kernel
theorem dX4_howMany_93 : decode cX4_howMany 93 = .ok (.iinc 5 1, 3) := by decide +kernel
theorem dX4_howMany_96 : decode cX4_howMany 96 = .ok (.goto (-44), 3) := by decide +kernel
theorem dX4_howMany_99 : decode cX4_howMany 99 = .ok (.iinc 3 1, 3) := by decide +kernel
theorem dX4_howMany_102 : decode cX4_howMany 102 = .ok (.goto (-65), 3) := by decide +kernel
theorem dX4_howMany_105 : decode cX4_howMany 105 = .ok (.aload_n 0, 1) := by decide +kernel
theorem dX4_howMany_106 : decode cX4_howMany 106 = .ok (.getfield 9, 3) := by decide +kernel
theorem dX4_howMany_109 : decode cX4_howMany 109 = .ok (.iload_n 2, 1) := by decide +kernel
theorem dX4_howMany_110 : decode cX4_howMany 110 = .ok (.iconst 1, 1) := by decide +kernel
theorem dX4_howMany_111 : decode cX4_howMany 111 = .ok (.isub, 1) := by decide +kernel
theorem dX4_howMany_112 : decode cX4_howMany 112 = .ok (.iaload, 1) := by decide +kernel
theorem dX4_howMany_113 : decode cX4_howMany 113 = .ok (.ireturn, 1) := by decide +kernel
theorem dX4_ofFirst_0 : decode cX4_ofFirst 0 = .ok (.iconst 0, 1) := by decide +kernel
theorem dX4_ofFirst_1 : decode cX4_ofFirst 1 = .ok (.istore_n 3, 1) := by decide +kernel
theorem dX4_ofFirst_2 : decode cX4_ofFirst 2 = .ok (.bipush (-9), 2) := by decide +kernel
theorem dX4_ofFirst_4 : decode cX4_ofFirst 4 = .ok (.istore 4, 2) := by decide +kernel
theorem dX4_ofFirst_6 : decode cX4_ofFirst 6 = .ok (.iconst 0, 1) := by decide +kernel
theorem dX4_ofFirst_7 : decode cX4_ofFirst 7 = .ok (.istore 5, 2) := by decide +kernel
theorem dX4_ofFirst_9 : decode cX4_ofFirst 9 = .ok (.iload 5, 2) := by decide +kernel
theorem dX4_ofFirst_11 : decode cX4_ofFirst 11 = .ok (.iload_n 2, 1) := by decide +kernel
theorem dX4_ofFirst_12 : decode cX4_ofFirst 12 = .ok (.if_icmp .gt 42, 3) := by decide +kernel
theorem dX4_ofFirst_15 : decode cX4_ofFirst 15 = .ok (.iload 5, 2) := by decide +kernel
theorem dX4_ofFirst_17 : decode cX4_ofFirst 17 = .ok (.aload_n 1, 1) := by decide +kernel
theorem dX4_ofFirst_18 : decode cX4_ofFirst 18 = .ok (.getfield 15, 3) := by decide +kernel
theorem dX4_ofFirst_21 : decode cX4_ofFirst 21 = .ok (.if_icmp .ge 33, 3) := by decide +kernel
theorem dX4_ofFirst_24 : decode cX4_ofFirst 24 = .ok (.aload_n 1, 1) := by decide +kernel
theorem dX4_ofFirst_25 : decode cX4_ofFirst 25 = .ok (.iload_n 3, 1) := by decide +kernel
theorem dX4_ofFirst_26 : decode cX4_ofFirst 26 = .ok (.invokestatic 29, 3) := by decide +kernel
theorem dX4_ofFirst_29 : decode cX4_ofFirst 29 = .ok (.istore 4, 2) := by decide +kernel
theorem dX4_ofFirst_31 : decode cX4_ofFirst 31 = .ok (.iload 4, 2) := by decide +kernel
theorem dX4_ofFirst_33 : decode cX4_ofFirst 33 = .ok (.bipush (-9), 2) := by decide +kernel
theorem dX4_ofFirst_35 : decode cX4_ofFirst 35 = .ok (.if_icmp .ne 6, 3) := by decide +kernel
theorem dX4_ofFirst_38 : decode cX4_ofFirst 38 = .ok (.bipush (-9), 2) := by decide +kernel
theorem dX4_ofFirst_40 : decode cX4_ofFirst 40 = .ok (.ireturn, 1) := by decide +kernel
theorem dX4_ofFirst_41 : decode cX4_ofFirst 41 = .ok (.iload_n 3, 1) := by decide +kernel
theorem dX4_ofFirst_42 : decode cX4_ofFirst 42 = .ok (.iconst 1, 1) := by decide +kernel
theorem dX4_ofFirst_43 : decode cX4_ofFirst 43 = .ok (.iload 4, 2) := by decide +kernel
theorem dX4_ofFirst_45 : decode cX4_ofFirst 45 = .ok (.ishl, 1) := by decide +kernel
theorem dX4_ofFirst_46 : decode cX4_ofFirst 46 = .ok (.ior, 1) := by decide +kernel
theorem dX4_ofFirst_47 : decode cX4_ofFirst 47 = .ok (.istore_n 3, 1) := by decide +kernel
theorem dX4_ofFirst_48 : decode cX4_ofFirst 48 = .ok (.iinc 5 1, 3) := by decide +kernel
theorem dX4_ofFirst_51 : decode cX4_ofFirst 51 = .ok (.goto (-42), 3) := by decide +kernel
theorem dX4_ofFirst_54 : decode cX4_ofFirst 54 = .ok (.iload 4, 2) := by decide +kernel
theorem dX4_ofFirst_56 : decode cX4_ofFirst 56 = .ok (.ireturn, 1) := by decide +kernel
theorem dX4_neverLaid_0 : decode cX4_neverLaid 0 = .ok (.iconst 0, 1) := by decide +kernel
theorem dX4_neverLaid_1 : decode cX4_neverLaid 1 = .ok (.istore_n 2, 1) := by decide +kernel
theorem dX4_neverLaid_2 : decode cX4_neverLaid 2 = .ok (.iconst 0, 1) := by decide +kernel
theorem dX4_neverLaid_3 : decode cX4_neverLaid 3 = .ok (.istore_n 3, 1) := by decide +kernel
theorem dX4_neverLaid_4 : decode cX4_neverLaid 4 = .ok (.iload_n 3, 1) := by decide +kernel
theorem dX4_neverLaid_5 : decode cX4_neverLaid 5 = .ok (.aload_n 1, 1) := by decide +kernel
theorem dX4_neverLaid_6 : decode cX4_neverLaid 6 = .ok (.getfield 15, 3) := by decide +kernel
theorem dX4_neverLaid_9 : decode cX4_neverLaid 9 = .ok (.if_icmp .ge 30, 3) := by decide +kernel
theorem dX4_neverLaid_12 : decode cX4_neverLaid 12 = .ok (.aload_n 1, 1) := by decide +kernel
theorem dX4_neverLaid_13 : decode cX4_neverLaid 13 = .ok (.iload_n 2, 1) := by decide +kernel
theorem dX4_neverLaid_14 : decode cX4_neverLaid 14 = .ok (.invokestatic 29, 3) := by decide +kernel
theorem dX4_neverLaid_17 : decode cX4_neverLaid 17 = .ok (.istore 4, 2) := by decide +kernel
theorem dX4_neverLaid_19 : decode cX4_neverLaid 19 = .ok (.iload 4, 2) := by decide +kernel
theorem dX4_neverLaid_21 : decode cX4_neverLaid 21 = .ok (.bipush (-9), 2) := by decide +kernel
theorem dX4_neverLaid_23 : decode cX4_neverLaid 23 = .ok (.if_icmp .eq 10, 3) := by decide +kernel
theorem dX4_neverLaid_26 : decode cX4_neverLaid 26 = .ok (.iload_n 2, 1) := by decide +kernel
theorem dX4_neverLaid_27 : decode cX4_neverLaid 27 = .ok (.iconst 1, 1) := by decide +kernel
theorem dX4_neverLaid_28 : decode cX4_neverLaid 28 = .ok (.iload 4, 2) := by decide +kernel
theorem dX4_neverLaid_30 : decode cX4_neverLaid 30 = .ok (.ishl, 1) := by decide +kernel
theorem dX4_neverLaid_31 : decode cX4_neverLaid 31 = .ok (.ior, 1) := by decide +kernel
theorem dX4_neverLaid_32 : decode cX4_neverLaid 32 = .ok (.istore_n 2, 1) := by decide +kernel
theorem dX4_neverLaid_33 : decode cX4_neverLaid 33 = .ok (.iinc 3 1, 3) := by decide +kernel
theorem dX4_neverLaid_36 : decode cX4_neverLaid 36 = .ok (.goto (-32), 3) := by decide +kernel
theorem dX4_neverLaid_39 : decode cX4_neverLaid 39 = .ok (.iconst 1, 1) := by decide +kernel
theorem dX4_neverLaid_40 : decode cX4_neverLaid 40 = .ok (.aload_n 1, 1) := by decide +kernel
theorem dX4_neverLaid_41 : decode cX4_neverLaid 41 = .ok (.getfield 15, 3) := by decide +kernel
theorem dX4_neverLaid_44 : decode cX4_neverLaid 44 = .ok (.ishl, 1) := by decide +kernel
theorem dX4_neverLaid_45 : decode cX4_neverLaid 45 = .ok (.iconst 1, 1) := by decide +kernel
theorem dX4_neverLaid_46 : decode cX4_neverLaid 46 = .ok (.isub, 1) := by decide +kernel
theorem dX4_neverLaid_47 : decode cX4_neverLaid 47 = .ok (.iload_n 2, 1) := by decide +kernel
theorem dX4_neverLaid_48 : decode cX4_neverLaid 48 = .ok (.iconst (-1), 1) := by decide +kernel
theorem dX4_neverLaid_49 : decode cX4_neverLaid 49 = .ok (.ixor, 1) := by decide +kernel
theorem dX4_neverLaid_50 : decode cX4_neverLaid 50 = .ok (.iand, 1) := by decide +kernel
theorem dX4_neverLaid_51 : decode cX4_neverLaid 51 = .ok (.ireturn, 1) := by decide +kernel
theorem dX4_leastNext_0 : decode cX4_leastNext 0 = .ok (.aload_n 0, 1) := by decide +kernel
theorem dX4_leastNext_1 : decode cX4_leastNext 1 = .ok (.iload_n 1, 1) := by decide +kernel
theorem dX4_leastNext_2 : decode cX4_leastNext 2 = .ok (.invokestatic 21, 3) := by decide +kernel
theorem dX4_leastNext_5 : decode cX4_leastNext 5 = .ok (.istore_n 2, 1) := by decide +kernel
theorem dX4_leastNext_6 : decode cX4_leastNext 6 = .ok (.iconst 0, 1) := by decide +kernel
theorem dX4_leastNext_7 : decode cX4_leastNext 7 = .ok (.istore_n 3, 1) := by decide +kernel
theorem dX4_leastNext_8 : decode cX4_leastNext 8 = .ok (.iload_n 3, 1) := by decide +kernel
theorem dX4_leastNext_9 : decode cX4_leastNext 9 = .ok (.aload_n 0, 1) := by decide +kernel
theorem dX4_leastNext_10 : decode cX4_leastNext 10 = .ok (.getfield 15, 3) := by decide +kernel
theorem dX4_leastNext_13 : decode cX4_leastNext 13 = .ok (.if_icmp .ge 21, 3) := by decide +kernel
theorem dX4_leastNext_16 : decode cX4_leastNext 16 = .ok (.aload_n 0, 1) := by decide +kernel
theorem dX4_leastNext_17 : decode cX4_leastNext 17 = .ok (.iload_n 1, 1) := by decide +kernel
theorem dX4_leastNext_18 : decode cX4_leastNext 18 = .ok (.iload_n 2, 1) := by decide +kernel
theorem dX4_leastNext_19 : decode cX4_leastNext 19 = .ok (.iload_n 3, 1) := by decide +kernel
theorem dX4_leastNext_20 : decode cX4_leastNext 20 = .ok (.invokestatic 25, 3) := by decide +kernel
theorem dX4_leastNext_23 : decode cX4_leastNext 23 = .ok (.ifCond .eq 5, 3) := by decide +kernel
theorem dX4_leastNext_26 : decode cX4_leastNext 26 = .ok (.iload_n 3, 1) := by decide +kernel
theorem dX4_leastNext_27 : decode cX4_leastNext 27 = .ok (.ireturn, 1) := by decide +kernel
theorem dX4_leastNext_28 : decode cX4_leastNext 28 = .ok (.iinc 3 1, 3) := by decide +kernel
theorem dX4_leastNext_31 : decode cX4_leastNext 31 = .ok (.goto (-23), 3) := by decide +kernel
theorem dX4_leastNext_34 : decode cX4_leastNext 34 = .ok (.bipush (-9), 2) := by decide +kernel
theorem dX4_leastNext_36 : decode cX4_leastNext 36 = .ok (.ireturn, 1) := by decide +kernel
theorem dX4_canFollow_0 : decode cX4_canFollow 0 = .ok (.iload_n 1, 1) := by decide +kernel
theorem dX4_canFollow_1 : decode cX4_canFollow 1 = .ok (.iload_n 3, 1) := by decide +kernel
theorem dX4_canFollow_2 : decode cX4_canFollow 2 = .ok (.ishr, 1) := by decide +kernel
theorem dX4_canFollow_3 : decode cX4_canFollow 3 = .ok (.iconst 1, 1) := by decide +kernel
theorem dX4_canFollow_4 : decode cX4_canFollow 4 = .ok (.iand, 1) := by decide +kernel
theorem dX4_canFollow_5 : decode cX4_canFollow 5 = .ok (.ifCond .ne 17, 3) := by decide +kernel
theorem dX4_canFollow_8 : decode cX4_canFollow 8 = .ok (.aload_n 0, 1) := by decide +kernel
theorem dX4_canFollow_9 : decode cX4_canFollow 9 = .ok (.iload_n 3, 1) := by decide +kernel
theorem dX4_canFollow_10 : decode cX4_canFollow 10 = .ok (.invokevirtual 32, 3) := by decide +kernel
theorem dX4_canFollow_13 : decode cX4_canFollow 13 = .ok (.iload_n 2, 1) := by decide +kernel
theorem dX4_canFollow_14 : decode cX4_canFollow 14 = .ok (.iand, 1) := by decide +kernel
theorem dX4_canFollow_15 : decode cX4_canFollow 15 = .ok (.ifCond .eq 7, 3) := by decide +kernel
theorem dX4_canFollow_18 : decode cX4_canFollow 18 = .ok (.iconst 1, 1) := by decide +kernel
theorem dX4_canFollow_19 : decode cX4_canFollow 19 = .ok (.goto 4, 3) := by decide +kernel
theorem dX4_canFollow_22 : decode cX4_canFollow 22 = .ok (.iconst 0, 1) := by decide +kernel
theorem dX4_canFollow_23 : decode cX4_canFollow 23 = .ok (.ireturn, 1) := by decide +kernel
theorem dX4_reachedBy_0 : decode cX4_reachedBy 0 = .ok (.iconst 1, 1) := by decide +kernel
theorem dX4_reachedBy_1 : decode cX4_reachedBy 1 = .ok (.istore_n 2, 1) := by decide +kernel
theorem dX4_reachedBy_2 : decode cX4_reachedBy 2 = .ok (.iconst 0, 1) := by decide +kernel
theorem dX4_reachedBy_3 : decode cX4_reachedBy 3 = .ok (.istore_n 3, 1) := by decide +kernel
theorem dX4_reachedBy_4 : decode cX4_reachedBy 4 = .ok (.iload_n 3, 1) := by decide +kernel
theorem dX4_reachedBy_5 : decode cX4_reachedBy 5 = .ok (.aload_n 0, 1) := by decide +kernel
theorem dX4_reachedBy_6 : decode cX4_reachedBy 6 = .ok (.getfield 15, 3) := by decide +kernel
theorem dX4_reachedBy_9 : decode cX4_reachedBy 9 = .ok (.if_icmp .ge 25, 3) := by decide +kernel
theorem dX4_reachedBy_12 : decode cX4_reachedBy 12 = .ok (.iload_n 1, 1) := by decide +kernel
theorem dX4_reachedBy_13 : decode cX4_reachedBy 13 = .ok (.iload_n 3, 1) := by decide +kernel
theorem dX4_reachedBy_14 : decode cX4_reachedBy 14 = .ok (.ishr, 1) := by decide +kernel
theorem dX4_reachedBy_15 : decode cX4_reachedBy 15 = .ok (.iconst 1, 1) := by decide +kernel
theorem dX4_reachedBy_16 : decode cX4_reachedBy 16 = .ok (.iand, 1) := by decide +kernel
theorem dX4_reachedBy_17 : decode cX4_reachedBy 17 = .ok (.ifCond .eq 11, 3) := by decide +kernel
theorem dX4_reachedBy_20 : decode cX4_reachedBy 20 = .ok (.iload_n 2, 1) := by decide +kernel
theorem dX4_reachedBy_21 : decode cX4_reachedBy 21 = .ok (.aload_n 0, 1) := by decide +kernel
theorem dX4_reachedBy_22 : decode cX4_reachedBy 22 = .ok (.iload_n 3, 1) := by decide +kernel
theorem dX4_reachedBy_23 : decode cX4_reachedBy 23 = .ok (.invokevirtual 32, 3) := by decide +kernel
theorem dX4_reachedBy_26 : decode cX4_reachedBy 26 = .ok (.ior, 1) := by decide +kernel
theorem dX4_reachedBy_27 : decode cX4_reachedBy 27 = .ok (.istore_n 2, 1) := by decide +kernel
theorem dX4_reachedBy_28 : decode cX4_reachedBy 28 = .ok (.iinc 3 1, 3) := by decide +kernel
theorem dX4_reachedBy_31 : decode cX4_reachedBy 31 = .ok (.goto (-27), 3) := by decide +kernel
theorem dX4_reachedBy_34 : decode cX4_reachedBy 34 = .ok (.iload_n 2, 1) := by decide +kernel
theorem dX4_reachedBy_35 : decode cX4_reachedBy 35 = .ok (.ireturn, 1) := by decide +kernel
theorem dX5_init_0 : decode cX5_init 0 = .ok (.aload_n 0, 1) := by decide +kernel
theorem dX5_init_1 : decode cX5_init 1 = .ok (.invokespecial 3, 3) := by decide +kernel
theorem dX5_init_4 : decode cX5_init 4 = .ok (.aload_n 0, 1) := by decide +kernel
theorem dX5_init_5 : decode cX5_init 5 = .ok (.bipush 10, 2) := by decide +kernel
theorem dX5_init_7 : decode cX5_init 7 = .ok (.bipush 42, 2) := by decide +kernel
theorem dX5_init_9 : decode cX5_init 9 = .ok (.multianewarray 11 2, 4) := by decide +kernel
theorem dX5_init_13 : decode cX5_init 13 = .ok (.putfield 13, 3) := by decide +kernel
theorem dX5_init_16 : decode cX5_init 16 = .ok (.aload_n 0, 1) := by decide +kernel
theorem dX5_init_17 : decode cX5_init 17 = .ok (.iconst 0, 1) := by decide +kernel
theorem dX5_init_18 : decode cX5_init 18 = .ok (.putfield 18, 3) := by decide +kernel
theorem dX5_init_21 : decode cX5_init 21 = .ok (.aload_n 0, 1) := by decide +kernel
theorem dX5_init_22 : decode cX5_init 22 = .ok (.iconst 0, 1) := by decide +kernel
theorem dX5_init_23 : decode cX5_init 23 = .ok (.putfield 22, 3) := by decide +kernel
theorem dX5_init_26 : decode cX5_init 26 = .ok (.return_, 1) := by decide +kernel
theorem dX5_remember_0 : decode cX5_remember 0 = .ok (.aload_n 1, 1) := by decide +kernel
theorem dX5_remember_1 : decode cX5_remember 1 = .ok (.aload_n 0, 1) := by decide +kernel
theorem dX5_remember_2 : decode cX5_remember 2 = .ok (.getfield 13, 3) := by decide +kernel
theorem dX5_remember_5 : decode cX5_remember 5 = .ok (.aload_n 0, 1) := by decide +kernel
theorem dX5_remember_6 : decode cX5_remember 6 = .ok (.getfield 22, 3) := by decide +kernel
theorem dX5_remember_9 : decode cX5_remember 9 = .ok (.aaload, 1) := by decide +kernel
theorem dX5_remember_10 : decode cX5_remember 10 = .ok (.invokevirtual 25, 3) := by decide +kernel
theorem dX5_remember_13 : decode cX5_remember 13 = .ok (.aload_n 0, 1) := by decide +kernel
theorem dX5_remember_14 : decode cX5_remember 14 = .ok (.aload_n 0, 1) := by decide +kernel
theorem dX5_remember_15 : decode cX5_remember 15 = .ok (.getfield 22, 3) := by decide +kernel
theorem dX5_remember_18 : decode cX5_remember 18 = .ok (.iconst 1, 1) := by decide +kernel
theorem dX5_remember_19 : decode cX5_remember 19 = .ok (.iadd, 1) := by decide +kernel
theorem dX5_remember_20 : decode cX5_remember 20 = .ok (.bipush 10, 2) := by decide +kernel
theorem dX5_remember_22 : decode cX5_remember 22 = .ok (.if_icmp .ge 12, 3) := by decide +kernel
theorem dX5_remember_25 : decode cX5_remember 25 = .ok (.aload_n 0, 1) := by decide +kernel
theorem dX5_remember_26 : decode cX5_remember 26 = .ok (.getfield 22, 3) := by decide +kernel
theorem dX5_remember_29 : decode cX5_remember 29 = .ok (.iconst 1, 1) := by decide +kernel
theorem dX5_remember_30 : decode cX5_remember 30 = .ok (.iadd, 1) := by decide +kernel
theorem dX5_remember_31 : decode cX5_remember 31 = .ok (.goto 4, 3) := by decide +kernel
theorem dX5_remember_34 : decode cX5_remember 34 = .ok (.iconst 0, 1) := by decide +kernel
theorem dX5_remember_35 : decode cX5_remember 35 = .ok (.putfield 22, 3) := by decide +kernel
theorem dX5_remember_38 : decode cX5_remember 38 = .ok (.aload_n 0, 1) := by decide +kernel
theorem dX5_remember_39 : decode cX5_remember 39 = .ok (.aload_n 0, 1) := by decide +kernel
theorem dX5_remember_40 : decode cX5_remember 40 = .ok (.getfield 18, 3) := by decide +kernel
theorem dX5_remember_43 : decode cX5_remember 43 = .ok (.iconst 1, 1) := by decide +kernel
theorem dX5_remember_44 : decode cX5_remember 44 = .ok (.iadd, 1) := by decide +kernel
theorem dX5_remember_45 : decode cX5_remember 45 = .ok (.bipush 10, 2) := by decide +kernel
theorem dX5_remember_47 : decode cX5_remember 47 = .ok (.invokestatic 29, 3) := by decide +kernel
theorem dX5_remember_50 : decode cX5_remember 50 = .ok (.putfield 18, 3) := by decide +kernel
theorem dX5_remember_53 : decode cX5_remember 53 = .ok (.return_, 1) := by decide +kernel
theorem dX5_takeBack_0 : decode cX5_takeBack 0 = .ok (.aload_n 0, 1) := by decide +kernel
theorem dX5_takeBack_1 : decode cX5_takeBack 1 = .ok (.getfield 18, 3) := by decide +kernel
theorem dX5_takeBack_4 : decode cX5_takeBack 4 = .ok (.ifCond .ne 5, 3) := by decide +kernel
theorem dX5_takeBack_7 : decode cX5_takeBack 7 = .ok (.iconst 0, 1) := by decide +kernel
theorem dX5_takeBack_8 : decode cX5_takeBack 8 = .ok (.ireturn, 1) := by decide +kernel
theorem dX5_takeBack_9 : decode cX5_takeBack 9 = .ok (.aload_n 0, 1) := by decide +kernel
theorem dX5_takeBack_10 : decode cX5_takeBack 10 = .ok (.dup, 1) := by decide +kernel
theorem dX5_takeBack_11 : decode cX5_takeBack 11 = .ok (.getfield 18, 3) := by decide +kernel
theorem dX5_takeBack_14 : decode cX5_takeBack 14 = .ok (.iconst 1, 1) := by decide +kernel
theorem dX5_takeBack_15 : decode cX5_takeBack 15 = .ok (.isub, 1) := by decide +kernel
theorem dX5_takeBack_16 : decode cX5_takeBack 16 = .ok (.putfield 18, 3) := by decide +kernel
theorem dX5_takeBack_19 : decode cX5_takeBack 19 = .ok (.aload_n 0, 1) := by decide +kernel
theorem dX5_takeBack_20 : decode cX5_takeBack 20 = .ok (.aload_n 0, 1) := by decide +kernel
theorem dX5_takeBack_21 : decode cX5_takeBack 21 = .ok (.getfield 22, 3) := by decide +kernel
theorem dX5_takeBack_24 : decode cX5_takeBack 24 = .ok (.ifCond .le 12, 3) := by decide +kernel
theorem dX5_takeBack_27 : decode cX5_takeBack 27 = .ok (.aload_n 0, 1) := by decide +kernel
theorem dX5_takeBack_28 : decode cX5_takeBack 28 = .ok (.getfield 22, 3) := by decide +kernel
theorem dX5_takeBack_31 : decode cX5_takeBack 31 = .ok (.iconst 1, 1) := by decide +kernel
theorem dX5_takeBack_32 : decode cX5_takeBack 32 = .ok (.isub, 1) := by decide +kernel
theorem dX5_takeBack_33 : decode cX5_takeBack 33 = .ok (.goto 5, 3) := by decide +kernel
theorem dX5_takeBack_36 : decode cX5_takeBack 36 = .ok (.bipush 9, 2) := by decide +kernel
theorem dX5_takeBack_38 : decode cX5_takeBack 38 = .ok (.putfield 22, 3) := by decide +kernel
theorem dX5_takeBack_41 : decode cX5_takeBack 41 = .ok (.aload_n 1, 1) := by decide +kernel
theorem dX5_takeBack_42 : decode cX5_takeBack 42 = .ok (.aload_n 0, 1) := by decide +kernel
theorem dX5_takeBack_43 : decode cX5_takeBack 43 = .ok (.getfield 13, 3) := by decide +kernel
theorem dX5_takeBack_46 : decode cX5_takeBack 46 = .ok (.aload_n 0, 1) := by decide +kernel
theorem dX5_takeBack_47 : decode cX5_takeBack 47 = .ok (.getfield 22, 3) := by decide +kernel
theorem dX5_takeBack_50 : decode cX5_takeBack 50 = .ok (.aaload, 1) := by decide +kernel
theorem dX5_takeBack_51 : decode cX5_takeBack 51 = .ok (.invokevirtual 35, 3) := by decide +kernel
theorem dX5_takeBack_54 : decode cX5_takeBack 54 = .ok (.iconst 1, 1) := by decide +kernel
theorem dX5_takeBack_55 : decode cX5_takeBack 55 = .ok (.ireturn, 1) := by decide +kernel
theorem dX5_lose_0 : decode cX5_lose 0 = .ok (.aload_n 0, 1) := by decide +kernel
theorem dX5_lose_1 : decode cX5_lose 1 = .ok (.iconst 0, 1) := by decide +kernel
theorem dX5_lose_2 : decode cX5_lose 2 = .ok (.putfield 18, 3) := by decide +kernel
theorem dX5_lose_5 : decode cX5_lose 5 = .ok (.aload_n 0, 1) := by decide +kernel
theorem dX5_lose_6 : decode cX5_lose 6 = .ok (.iconst 0, 1) := by decide +kernel
theorem dX5_lose_7 : decode cX5_lose 7 = .ok (.putfield 22, 3) := by decide +kernel
theorem dX5_lose_10 : decode cX5_lose 10 = .ok (.return_, 1) := by decide +kernel
theorem dX6_init_0 : decode cX6_init 0 = .ok (.aload_n 0, 1) := by decide +kernel
theorem dX6_init_1 : decode cX6_init 1 = .ok (.invokespecial 3, 3) := by decide +kernel
theorem dX6_init_4 : decode cX6_init 4 = .ok (.aload_n 0, 1) := by decide +kernel
theorem dX6_init_5 : decode cX6_init 5 = .ok (.new 9, 3) := by decide +kernel
theorem dX6_init_8 : decode cX6_init 8 = .ok (.dup, 1) := by decide +kernel
theorem dX6_init_9 : decode cX6_init 9 = .ok (.invokespecial 11, 3) := by decide +kernel
theorem dX6_init_12 : decode cX6_init 12 = .ok (.putfield 12, 3) := by decide +kernel
theorem dX6_init_15 : decode cX6_init 15 = .ok (.aload_n 0, 1) := by decide +kernel
theorem dX6_init_16 : decode cX6_init 16 = .ok (.iconst 5, 1) := by decide +kernel
theorem dX6_init_17 : decode cX6_init 17 = .ok (.newarray .int, 2) := by decide +kernel
theorem dX6_init_19 : decode cX6_init 19 = .ok (.putfield 18, 3) := by decide +kernel
theorem dX6_init_22 : decode cX6_init 22 = .ok (.aload_n 0, 1) := by decide +kernel
theorem dX6_init_23 : decode cX6_init 23 = .ok (.bipush 6, 2) := by decide +kernel
theorem dX6_init_25 : decode cX6_init 25 = .ok (.newarray .int, 2) := by decide +kernel
theorem dX6_init_27 : decode cX6_init 27 = .ok (.putfield 22, 3) := by decide +kernel
theorem dX6_init_30 : decode cX6_init 30 = .ok (.aload_n 0, 1) := by decide +kernel
theorem dX6_init_31 : decode cX6_init 31 = .ok (.iconst 5, 1) := by decide +kernel
theorem dX6_init_32 : decode cX6_init 32 = .ok (.newarray .int, 2) := by decide +kernel
theorem dX6_init_34 : decode cX6_init 34 = .ok (.putfield 25, 3) := by decide +kernel
theorem dX6_init_37 : decode cX6_init 37 = .ok (.aload_n 0, 1) := by decide +kernel
theorem dX6_init_38 : decode cX6_init 38 = .ok (.iconst 5, 1) := by decide +kernel
theorem dX6_init_39 : decode cX6_init 39 = .ok (.newarray .int, 2) := by decide +kernel
theorem dX6_init_41 : decode cX6_init 41 = .ok (.putfield 28, 3) := by decide +kernel
theorem dX6_init_44 : decode cX6_init 44 = .ok (.aload_n 0, 1) := by decide +kernel
theorem dX6_init_45 : decode cX6_init 45 = .ok (.iconst (-1), 1) := by decide +kernel
theorem dX6_init_46 : decode cX6_init 46 = .ok (.putfield 31, 3) := by decide +kernel
theorem dX6_init_49 : decode cX6_init 49 = .ok (.return_, 1) := by decide +kernel
theorem dX6_seekMost_0 : decode cX6_seekMost 0 = .ok (.iconst 0, 1) := by decide +kernel
theorem dX6_seekMost_1 : decode cX6_seekMost 1 = .ok (.istore_n 3, 1) := by decide +kernel
theorem dX6_seekMost_2 : decode cX6_seekMost 2 = .ok (.iload_n 3, 1) := by decide +kernel
theorem dX6_seekMost_3 : decode cX6_seekMost 3 = .ok (.aload_n 1, 1) := by decide +kernel
theorem dX6_seekMost_4 : decode cX6_seekMost 4 = .ok (.getfield 35, 3) := by decide +kernel
theorem dX6_seekMost_7 : decode cX6_seekMost 7 = .ok (.if_icmp .ge 16, 3) := by decide +kernel
theorem dX6_seekMost_10 : decode cX6_seekMost 10 = .ok (.aload_n 0, 1) := by decide +kernel
theorem dX6_seekMost_11 : decode cX6_seekMost 11 = .ok (.getfield 18, 3) := by decide +kernel
theorem dX6_seekMost_14 : decode cX6_seekMost 14 = .ok (.iload_n 3, 1) := by decide +kernel
theorem dX6_seekMost_15 : decode cX6_seekMost 15 = .ok (.iconst 1, 1) := by decide +kernel
theorem dX6_seekMost_16 : decode cX6_seekMost 16 = .ok (.iastore, 1) := by decide +kernel
theorem dX6_seekMost_17 : decode cX6_seekMost 17 = .ok (.iinc 3 1, 3) := by decide +kernel
theorem dX6_seekMost_20 : decode cX6_seekMost 20 = .ok (.goto (-18), 3) := by decide +kernel
theorem dX6_seekMost_23 : decode cX6_seekMost 23 = .ok (.aload_n 0, 1) := by decide +kernel
theorem dX6_seekMost_24 : decode cX6_seekMost 24 = .ok (.aload_n 1, 1) := by decide +kernel
theorem dX6_seekMost_25 : decode cX6_seekMost 25 = .ok (.aload_n 2, 1) := by decide +kernel
theorem dX6_seekMost_26 : decode cX6_seekMost 26 = .ok (.invokevirtual 40, 3) := by decide +kernel
theorem dX6_seekMost_29 : decode cX6_seekMost 29 = .ok (.return_, 1) := by decide +kernel
theorem dX6_seekRichest_0 : decode cX6_seekRichest 0 = .ok (.iconst 0, 1) := by decide +kernel
theorem dX6_seekRichest_1 : decode cX6_seekRichest 1 = .ok (.istore_n 3, 1) := by decide +kernel
theorem dX6_seekRichest_2 : decode cX6_seekRichest 2 = .ok (.iload_n 3, 1) := by decide +kernel
theorem dX6_seekRichest_3 : decode cX6_seekRichest 3 = .ok (.aload_n 1, 1) := by decide +kernel
theorem dX6_seekRichest_4 : decode cX6_seekRichest 4 = .ok (.getfield 35, 3) := by decide +kernel
theorem dX6_seekRichest_7 : decode cX6_seekRichest 7 = .ok (.if_icmp .ge 26, 3) := by decide +kernel
theorem dX6_seekRichest_10 : decode cX6_seekRichest 10 = .ok (.aload_n 0, 1) := by decide +kernel
theorem dX6_seekRichest_11 : decode cX6_seekRichest 11 = .ok (.getfield 18, 3) := by decide +kernel
theorem dX6_seekRichest_14 : decode cX6_seekRichest 14 = .ok (.iload_n 3, 1) := by decide +kernel
theorem dX6_seekRichest_15 : decode cX6_seekRichest 15 = .ok (.bipush 10, 2) := by decide +kernel
theorem dX6_seekRichest_17 : decode cX6_seekRichest 17 = .ok (.aload_n 1, 1) := by decide +kernel
theorem dX6_seekRichest_18 : decode cX6_seekRichest 18 = .ok (.getfield 44, 3) := by decide +kernel
theorem dX6_seekRichest_21 : decode cX6_seekRichest 21 = .ok (.iload_n 3, 1) := by decide +kernel
theorem dX6_seekRichest_22 : decode cX6_seekRichest 22 = .ok (.iaload, 1) := by decide +kernel
theorem dX6_seekRichest_23 : decode cX6_seekRichest 23 = .ok (.imul, 1) := by decide +kernel
theorem dX6_seekRichest_24 : decode cX6_seekRichest 24 = .ok (.iconst 1, 1) := by decide +kernel
theorem dX6_seekRichest_25 : decode cX6_seekRichest 25 = .ok (.isub, 1) := by decide +kernel
theorem dX6_seekRichest_26 : decode cX6_seekRichest 26 = .ok (.iastore, 1) := by decide +kernel
theorem dX6_seekRichest_27 : decode cX6_seekRichest 27 = .ok (.iinc 3 1, 3) := by decide +kernel
theorem dX6_seekRichest_30 : decode cX6_seekRichest 30 = .ok (.goto (-28), 3) := by decide +kernel
theorem dX6_seekRichest_33 : decode cX6_seekRichest 33 = .ok (.aload_n 0, 1) := by decide +kernel
theorem dX6_seekRichest_34 : decode cX6_seekRichest 34 = .ok (.aload_n 1, 1) := by decide +kernel
theorem dX6_seekRichest_35 : decode cX6_seekRichest 35 = .ok (.aload_n 2, 1) := by decide +kernel
theorem dX6_seekRichest_36 : decode cX6_seekRichest 36 = .ok (.invokevirtual 40, 3) := by decide +kernel
theorem dX6_seekRichest_39 : decode cX6_seekRichest 39 = .ok (.return_, 1) := by decide +kernel
theorem dX6_placeOf_0 : decode cX6_placeOf 0 = .ok (.aload_n 0, 1) := by decide +kernel
theorem dX6_placeOf_1 : decode cX6_placeOf 1 = .ok (.getfield 28, 3) := by decide +kernel
theorem dX6_placeOf_4 : decode cX6_placeOf 4 = .ok (.iload_n 1, 1) := by decide +kernel
theorem dX6_placeOf_5 : decode cX6_placeOf 5 = .ok (.iaload, 1) := by decide +kernel
theorem dX6_placeOf_6 : decode cX6_placeOf 6 = .ok (.bipush (-9), 2) := by decide +kernel
theorem dX6_placeOf_8 : decode cX6_placeOf 8 = .ok (.if_icmp .ne 8, 3) := by decide +kernel
theorem dX6_placeOf_11 : decode cX6_placeOf 11 = .ok (.bipush (-5), 2) := by decide +kernel
theorem dX6_placeOf_13 : decode cX6_placeOf 13 = .ok (.goto 9, 3) := by decide +kernel
theorem dX6_placeOf_16 : decode cX6_placeOf 16 = .ok (.aload_n 0, 1) := by decide +kernel
theorem dX6_placeOf_17 : decode cX6_placeOf 17 = .ok (.getfield 28, 3) := by decide +kernel
theorem dX6_placeOf_20 : decode cX6_placeOf 20 = .ok (.iload_n 1, 1) := by decide +kernel
theorem dX6_placeOf_21 : decode cX6_placeOf 21 = .ok (.iaload, 1) := by decide +kernel
theorem dX6_placeOf_22 : decode cX6_placeOf 22 = .ok (.ireturn, 1) := by decide +kernel
theorem dX6_howMany_0 : decode cX6_howMany 0 = .ok (.iconst 0, 1) := by decide +kernel
theorem dX6_howMany_1 : decode cX6_howMany 1 = .ok (.istore_n 2, 1) := by decide +kernel
theorem dX6_howMany_2 : decode cX6_howMany 2 = .ok (.iconst 0, 1) := by decide +kernel
theorem dX6_howMany_3 : decode cX6_howMany 3 = .ok (.istore_n 3, 1) := by decide +kernel
theorem dX6_howMany_4 : decode cX6_howMany 4 = .ok (.iload_n 3, 1) := by decide +kernel
theorem dX6_howMany_5 : decode cX6_howMany 5 = .ok (.aload_n 1, 1) := by decide +kernel
theorem dX6_howMany_6 : decode cX6_howMany 6 = .ok (.getfield 35, 3) := by decide +kernel
theorem dX6_howMany_9 : decode cX6_howMany 9 = .ok (.if_icmp .ge 28, 3) := by decide +kernel
theorem dX6_howMany_12 : decode cX6_howMany 12 = .ok (.iload_n 2, 1) := by decide +kernel
theorem dX6_howMany_13 : decode cX6_howMany 13 = .ok (.aload_n 0, 1) := by decide +kernel
theorem dX6_howMany_14 : decode cX6_howMany 14 = .ok (.getfield 28, 3) := by decide +kernel
theorem dX6_howMany_17 : decode cX6_howMany 17 = .ok (.iload_n 3, 1) := by decide +kernel
theorem dX6_howMany_18 : decode cX6_howMany 18 = .ok (.iaload, 1) := by decide +kernel
theorem dX6_howMany_19 : decode cX6_howMany 19 = .ok (.bipush (-9), 2) := by decide +kernel
theorem dX6_howMany_21 : decode cX6_howMany 21 = .ok (.if_icmp .ne 7, 3) := by decide +kernel
theorem dX6_howMany_24 : decode cX6_howMany 24 = .ok (.iconst 0, 1) := by decide +kernel
theorem dX6_howMany_25 : decode cX6_howMany 25 = .ok (.goto 4, 3) := by decide +kernel
theorem dX6_howMany_28 : decode cX6_howMany 28 = .ok (.iconst 1, 1) := by decide +kernel
theorem dX6_howMany_29 : decode cX6_howMany 29 = .ok (.iadd, 1) := by decide +kernel
theorem dX6_howMany_30 : decode cX6_howMany 30 = .ok (.istore_n 2, 1) := by decide +kernel
theorem dX6_howMany_31 : decode cX6_howMany 31 = .ok (.iinc 3 1, 3) := by decide +kernel
theorem dX6_howMany_34 : decode cX6_howMany 34 = .ok (.goto (-30), 3) := by decide +kernel
theorem dX6_howMany_37 : decode cX6_howMany 37 = .ok (.iload_n 2, 1) := by decide +kernel
theorem dX6_howMany_38 : decode cX6_howMany 38 = .ok (.ireturn, 1) := by decide +kernel
theorem dX6_howMuch_0 : decode cX6_howMuch 0 = .ok (.iconst 0, 1) := by decide +kernel
theorem dX6_howMuch_1 : decode cX6_howMuch 1 = .ok (.istore_n 2, 1) := by decide +kernel
theorem dX6_howMuch_2 : decode cX6_howMuch 2 = .ok (.iconst 0, 1) := by decide +kernel
theorem dX6_howMuch_3 : decode cX6_howMuch 3 = .ok (.istore_n 3, 1) := by decide +kernel
theorem dX6_howMuch_4 : decode cX6_howMuch 4 = .ok (.iload_n 3, 1) := by decide +kernel
theorem dX6_howMuch_5 : decode cX6_howMuch 5 = .ok (.aload_n 1, 1) := by decide +kernel
theorem dX6_howMuch_6 : decode cX6_howMuch 6 = .ok (.getfield 35, 3) := by decide +kernel
theorem dX6_howMuch_9 : decode cX6_howMuch 9 = .ok (.if_icmp .ge 33, 3) := by decide +kernel
theorem dX6_howMuch_12 : decode cX6_howMuch 12 = .ok (.iload_n 2, 1) := by decide +kernel
theorem dX6_howMuch_13 : decode cX6_howMuch 13 = .ok (.aload_n 0, 1) := by decide +kernel
theorem dX6_howMuch_14 : decode cX6_howMuch 14 = .ok (.getfield 28, 3) := by decide +kernel
theorem dX6_howMuch_17 : decode cX6_howMuch 17 = .ok (.iload_n 3, 1) := by decide +kernel
theorem dX6_howMuch_18 : decode cX6_howMuch 18 = .ok (.iaload, 1) := by decide +kernel
theorem dX6_howMuch_19 : decode cX6_howMuch 19 = .ok (.bipush (-9), 2) := by decide +kernel
theorem dX6_howMuch_21 : decode cX6_howMuch 21 = .ok (.if_icmp .ne 7, 3) := by decide +kernel
theorem dX6_howMuch_24 : decode cX6_howMuch 24 = .ok (.iconst 0, 1) := by decide +kernel
theorem dX6_howMuch_25 : decode cX6_howMuch 25 = .ok (.goto 9, 3) := by decide +kernel
theorem dX6_howMuch_28 : decode cX6_howMuch 28 = .ok (.aload_n 1, 1) := by decide +kernel
theorem dX6_howMuch_29 : decode cX6_howMuch 29 = .ok (.getfield 44, 3) := by decide +kernel
theorem dX6_howMuch_32 : decode cX6_howMuch 32 = .ok (.iload_n 3, 1) := by decide +kernel
theorem dX6_howMuch_33 : decode cX6_howMuch 33 = .ok (.iaload, 1) := by decide +kernel
theorem dX6_howMuch_34 : decode cX6_howMuch 34 = .ok (.iadd, 1) := by decide +kernel
theorem dX6_howMuch_35 : decode cX6_howMuch 35 = .ok (.istore_n 2, 1) := by decide +kernel
theorem dX6_howMuch_36 : decode cX6_howMuch 36 = .ok (.iinc 3 1, 3) := by decide +kernel
theorem dX6_howMuch_39 : decode cX6_howMuch 39 = .ok (.goto (-35), 3) := by decide +kernel
theorem dX6_howMuch_42 : decode cX6_howMuch 42 = .ok (.iload_n 2, 1) := by decide +kernel
theorem dX6_howMuch_43 : decode cX6_howMuch 43 = .ok (.ireturn, 1) := by decide +kernel
theorem dX6_seek_0 : decode cX6_seek 0 = .ok (.aload_n 0, 1) := by decide +kernel
theorem dX6_seek_1 : decode cX6_seek 1 = .ok (.getfield 22, 3) := by decide +kernel
theorem dX6_seek_4 : decode cX6_seek 4 = .ok (.aload_n 1, 1) := by decide +kernel
theorem dX6_seek_5 : decode cX6_seek 5 = .ok (.getfield 35, 3) := by decide +kernel
theorem dX6_seek_8 : decode cX6_seek 8 = .ok (.iconst 0, 1) := by decide +kernel
theorem dX6_seek_9 : decode cX6_seek 9 = .ok (.iastore, 1) := by decide +kernel
theorem dX6_seek_10 : decode cX6_seek 10 = .ok (.aload_n 1, 1) := by decide +kernel
theorem dX6_seek_11 : decode cX6_seek 11 = .ok (.getfield 35, 3) := by decide +kernel
theorem dX6_seek_14 : decode cX6_seek 14 = .ok (.iconst 1, 1) := by decide +kernel
theorem dX6_seek_15 : decode cX6_seek 15 = .ok (.isub, 1) := by decide +kernel
theorem dX6_seek_16 : decode cX6_seek 16 = .ok (.istore_n 3, 1) := by decide +kernel
theorem dX6_seek_17 : decode cX6_seek 17 = .ok (.iload_n 3, 1) := by decide +kernel
theorem dX6_seek_18 : decode cX6_seek 18 = .ok (.ifCond .lt 34, 3) := by decide +kernel
theorem dX6_seek_21 : decode cX6_seek 21 = .ok (.aload_n 0, 1) := by decide +kernel
theorem dX6_seek_22 : decode cX6_seek 22 = .ok (.getfield 22, 3) := by decide +kernel
theorem dX6_seek_25 : decode cX6_seek 25 = .ok (.iload_n 3, 1) := by decide +kernel
theorem dX6_seek_26 : decode cX6_seek 26 = .ok (.aload_n 0, 1) := by decide +kernel
theorem dX6_seek_27 : decode cX6_seek 27 = .ok (.getfield 22, 3) := by decide +kernel
theorem dX6_seek_30 : decode cX6_seek 30 = .ok (.iload_n 3, 1) := by decide +kernel
theorem dX6_seek_31 : decode cX6_seek 31 = .ok (.iconst 1, 1) := by decide +kernel
theorem dX6_seek_32 : decode cX6_seek 32 = .ok (.iadd, 1) := by decide +kernel
theorem dX6_seek_33 : decode cX6_seek 33 = .ok (.iaload, 1) := by decide +kernel
theorem dX6_seek_34 : decode cX6_seek 34 = .ok (.iconst 0, 1) := by decide +kernel
theorem dX6_seek_35 : decode cX6_seek 35 = .ok (.aload_n 0, 1) := by decide +kernel
theorem dX6_seek_36 : decode cX6_seek 36 = .ok (.getfield 18, 3) := by decide +kernel
theorem dX6_seek_39 : decode cX6_seek 39 = .ok (.iload_n 3, 1) := by decide +kernel
theorem dX6_seek_40 : decode cX6_seek 40 = .ok (.iaload, 1) := by decide +kernel
theorem dX6_seek_41 : decode cX6_seek 41 = .ok (.invokestatic 47, 3) := by decide +kernel
theorem dX6_seek_44 : decode cX6_seek 44 = .ok (.iadd, 1) := by decide +kernel
theorem dX6_seek_45 : decode cX6_seek 45 = .ok (.iastore, 1) := by decide +kernel
theorem dX6_seek_46 : decode cX6_seek 46 = .ok (.iinc 3 (-1), 3) := by decide +kernel
theorem dX6_seek_49 : decode cX6_seek 49 = .ok (.goto (-32), 3) := by decide +kernel
theorem dX6_seek_52 : decode cX6_seek 52 = .ok (.aload_n 0, 1) := by decide +kernel
theorem dX6_seek_53 : decode cX6_seek 53 = .ok (.getfield 12, 3) := by decide +kernel
theorem dX6_seek_56 : decode cX6_seek 56 = .ok (.invokevirtual 53, 3) := by decide +kernel
theorem dX6_seek_59 : decode cX6_seek 59 = .ok (.aload_n 0, 1) := by decide +kernel
theorem dX6_seek_60 : decode cX6_seek 60 = .ok (.iconst (-1), 1) := by decide +kernel
theorem dX6_seek_61 : decode cX6_seek 61 = .ok (.putfield 31, 3) := by decide +kernel
theorem dX6_seek_64 : decode cX6_seek 64 = .ok (.aload_n 0, 1) := by decide +kernel
theorem dX6_seek_65 : decode cX6_seek 65 = .ok (.aload_n 1, 1) := by decide +kernel
theorem dX6_seek_66 : decode cX6_seek 66 = .ok (.aload_n 2, 1) := by decide +kernel
theorem dX6_seek_67 : decode cX6_seek 67 = .ok (.iconst 0, 1) := by decide +kernel
theorem dX6_seek_68 : decode cX6_seek 68 = .ok (.iconst 0, 1) := by decide +kernel
theorem dX6_seek_69 : decode cX6_seek 69 = .ok (.invokevirtual 56, 3) := by decide +kernel
theorem dX6_seek_72 : decode cX6_seek 72 = .ok (.return_, 1) := by decide +kernel
theorem dX6_placeFrom_0 : decode cX6_placeFrom 0 = .ok (.iload_n 3, 1) := by decide +kernel
theorem dX6_placeFrom_1 : decode cX6_placeFrom 1 = .ok (.aload_n 1, 1) := by decide +kernel
theorem dX6_placeFrom_2 : decode cX6_placeFrom 2 = .ok (.getfield 35, 3) := by decide +kernel
theorem dX6_placeFrom_5 : decode cX6_placeFrom 5 = .ok (.if_icmp .gt 19, 3) := by decide +kernel
theorem dX6_placeFrom_8 : decode cX6_placeFrom 8 = .ok (.iload 4, 2) := by decide +kernel
theorem dX6_placeFrom_10 : decode cX6_placeFrom 10 = .ok (.aload_n 0, 1) := by decide +kernel
theorem dX6_placeFrom_11 : decode cX6_placeFrom 11 = .ok (.getfield 22, 3) := by decide +kernel
theorem dX6_placeFrom_14 : decode cX6_placeFrom 14 = .ok (.iload_n 3, 1) := by decide +kernel
theorem dX6_placeFrom_15 : decode cX6_placeFrom 15 = .ok (.iaload, 1) := by decide +kernel
theorem dX6_placeFrom_16 : decode cX6_placeFrom 16 = .ok (.iadd, 1) := by decide +kernel
theorem dX6_placeFrom_17 : decode cX6_placeFrom 17 = .ok (.aload_n 0, 1) := by decide +kernel
theorem dX6_placeFrom_18 : decode cX6_placeFrom 18 = .ok (.getfield 31, 3) := by decide +kernel
theorem dX6_placeFrom_21 : decode cX6_placeFrom 21 = .ok (.if_icmp .gt 4, 3) := by decide +kernel
theorem dX6_placeFrom_24 : decode cX6_placeFrom 24 = .ok (.return_, 1) := by decide +kernel
theorem dX6_placeFrom_25 : decode cX6_placeFrom 25 = .ok (.iload_n 3, 1) := by decide +kernel
theorem dX6_placeFrom_26 : decode cX6_placeFrom 26 = .ok (.aload_n 1, 1) := by decide +kernel
theorem dX6_placeFrom_27 : decode cX6_placeFrom 27 = .ok (.getfield 35, 3) := by decide +kernel
theorem dX6_placeFrom_30 : decode cX6_placeFrom 30 = .ok (.if_icmp .ne 24, 3) := by decide +kernel
theorem dX6_placeFrom_33 : decode cX6_placeFrom 33 = .ok (.aload_n 0, 1) := by decide +kernel
theorem dX6_placeFrom_34 : decode cX6_placeFrom 34 = .ok (.iload 4, 2) := by decide +kernel
theorem dX6_placeFrom_36 : decode cX6_placeFrom 36 = .ok (.putfield 31, 3) := by decide +kernel
theorem dX6_placeFrom_39 : decode cX6_placeFrom 39 = .ok (.aload_n 0, 1) := by decide +kernel
theorem dX6_placeFrom_40 : decode cX6_placeFrom 40 = .ok (.getfield 25, 3) := by decide +kernel
theorem dX6_placeFrom_43 : decode cX6_placeFrom 43 = .ok (.iconst 0, 1) := by decide +kernel
theorem dX6_placeFrom_44 : decode cX6_placeFrom 44 = .ok (.aload_n 0, 1) := by decide +kernel
theorem dX6_placeFrom_45 : decode cX6_placeFrom 45 = .ok (.getfield 28, 3) := by decide +kernel
theorem dX6_placeFrom_48 : decode cX6_placeFrom 48 = .ok (.iconst 0, 1) := by decide +kernel
theorem dX6_placeFrom_49 : decode cX6_placeFrom 49 = .ok (.iconst 5, 1) := by decide +kernel
theorem dX6_placeFrom_50 : decode cX6_placeFrom 50 = .ok (.invokestatic 60, 3) := by decide +kernel
theorem dX6_placeFrom_53 : decode cX6_placeFrom 53 = .ok (.return_, 1) := by decide +kernel
theorem dX6_placeFrom_54 : decode cX6_placeFrom 54 = .ok (.iconst 0, 1) := by decide +kernel
theorem dX6_placeFrom_55 : decode cX6_placeFrom 55 = .ok (.istore 5, 2) := by decide +kernel
theorem dX6_placeFrom_57 : decode cX6_placeFrom 57 = .ok (.iload 5, 2) := by decide +kernel
theorem dX6_placeFrom_59 : decode cX6_placeFrom 59 = .ok (.aload_n 1, 1) := by decide +kernel
theorem dX6_placeFrom_60 : decode cX6_placeFrom 60 = .ok (.getfield 66, 3) := by decide +kernel
theorem dX6_placeFrom_63 : decode cX6_placeFrom 63 = .ok (.if_icmp .ge 90, 3) := by decide +kernel
theorem dX6_placeFrom_66 : decode cX6_placeFrom 66 = .ok (.aload_n 2, 1) := by decide +kernel
theorem dX6_placeFrom_67 : decode cX6_placeFrom 67 = .ok (.iload 5, 2) := by decide +kernel
theorem dX6_placeFrom_69 : decode cX6_placeFrom 69 = .ok (.invokevirtual 69, 3) := by decide +kernel
theorem dX6_placeFrom_72 : decode cX6_placeFrom 72 = .ok (.ifCond .eq 75, 3) := by decide +kernel
theorem dX6_placeFrom_75 : decode cX6_placeFrom 75 = .ok (.aload_n 0, 1) := by decide +kernel
theorem dX6_placeFrom_76 : decode cX6_placeFrom 76 = .ok (.getfield 12, 3) := by decide +kernel
theorem dX6_placeFrom_79 : decode cX6_placeFrom 79 = .ok (.aload_n 1, 1) := by decide +kernel
theorem dX6_placeFrom_80 : decode cX6_placeFrom 80 = .ok (.iload 5, 2) := by decide +kernel
theorem dX6_placeFrom_82 : decode cX6_placeFrom 82 = .ok (.aload_n 1, 1) := by decide +kernel
theorem dX6_placeFrom_83 : decode cX6_placeFrom 83 = .ok (.getfield 75, 3) := by decide +kernel
theorem dX6_placeFrom_86 : decode cX6_placeFrom 86 = .ok (.iload_n 3, 1) := by decide +kernel
theorem dX6_placeFrom_87 : decode cX6_placeFrom 87 = .ok (.iaload, 1) := by decide +kernel
theorem dX6_placeFrom_88 : decode cX6_placeFrom 88 = .ok (.invokevirtual 78, 3) := by decide +kernel
theorem dX6_placeFrom_91 : decode cX6_placeFrom 91 = .ok (.aload_n 0, 1) := by decide +kernel
theorem dX6_placeFrom_92 : decode cX6_placeFrom 92 = .ok (.getfield 12, 3) := by decide +kernel
theorem dX6_placeFrom_95 : decode cX6_placeFrom 95 = .ok (.aload_n 1, 1) := by decide +kernel
theorem dX6_placeFrom_96 : decode cX6_placeFrom 96 = .ok (.iload 5, 2) := by decide +kernel
theorem dX6_placeFrom_98 : decode cX6_placeFrom 98 = .ok (.invokevirtual 82, 3) := by decide +kernel
theorem dX6_placeFrom_101 : decode cX6_placeFrom 101 = .ok (.ifCond .eq 29, 3) := by decide +kernel
theorem dX6_placeFrom_104 : decode cX6_placeFrom 104 = .ok (.aload_n 0, 1) := by decide +kernel
theorem dX6_placeFrom_105 : decode cX6_placeFrom 105 = .ok (.getfield 25, 3) := by decide +kernel
theorem dX6_placeFrom_108 : decode cX6_placeFrom 108 = .ok (.iload_n 3, 1) := by decide +kernel
theorem dX6_placeFrom_109 : decode cX6_placeFrom 109 = .ok (.iload 5, 2) := by decide +kernel
theorem dX6_placeFrom_111 : decode cX6_placeFrom 111 = .ok (.iastore, 1) := by decide +kernel
theorem dX6_placeFrom_112 : decode cX6_placeFrom 112 = .ok (.aload_n 0, 1) := by decide +kernel
theorem dX6_placeFrom_113 : decode cX6_placeFrom 113 = .ok (.aload_n 1, 1) := by decide +kernel
theorem dX6_placeFrom_114 : decode cX6_placeFrom 114 = .ok (.aload_n 2, 1) := by decide +kernel
theorem dX6_placeFrom_115 : decode cX6_placeFrom 115 = .ok (.iload_n 3, 1) := by decide +kernel
theorem dX6_placeFrom_116 : decode cX6_placeFrom 116 = .ok (.iconst 1, 1) := by decide +kernel
theorem dX6_placeFrom_117 : decode cX6_placeFrom 117 = .ok (.iadd, 1) := by decide +kernel
theorem dX6_placeFrom_118 : decode cX6_placeFrom 118 = .ok (.iload 4, 2) := by decide +kernel
theorem dX6_placeFrom_120 : decode cX6_placeFrom 120 = .ok (.aload_n 0, 1) := by decide +kernel
theorem dX6_placeFrom_121 : decode cX6_placeFrom 121 = .ok (.getfield 18, 3) := by decide +kernel
theorem dX6_placeFrom_124 : decode cX6_placeFrom 124 = .ok (.iload_n 3, 1) := by decide +kernel
theorem dX6_placeFrom_125 : decode cX6_placeFrom 125 = .ok (.iaload, 1) := by decide +kernel
theorem dX6_placeFrom_126 : decode cX6_placeFrom 126 = .ok (.iadd, 1) := by decide +kernel
theorem dX6_placeFrom_127 : decode cX6_placeFrom 127 = .ok (.invokevirtual 56, 3) := by decide +kernel
theorem dX6_placeFrom_130 : decode cX6_placeFrom 130 = .ok (.aload_n 0, 1) := by decide +kernel
theorem dX6_placeFrom_131 : decode cX6_placeFrom 131 = .ok (.getfield 12, 3) := by decide +kernel
theorem dX6_placeFrom_134 : decode cX6_placeFrom 134 = .ok (.aload_n 1, 1) := by decide +kernel
theorem dX6_placeFrom_135 : decode cX6_placeFrom 135 = .ok (.iload 5, 2) := by decide +kernel
theorem dX6_placeFrom_137 : decode cX6_placeFrom 137 = .ok (.aload_n 1, 1) := by decide +kernel
theorem dX6_placeFrom_138 : decode cX6_placeFrom 138 = .ok (.getfield 75, 3) := by decide +kernel
theorem dX6_placeFrom_141 : decode cX6_placeFrom 141 = .ok (.iload_n 3, 1) := by decide +kernel
theorem dX6_placeFrom_142 : decode cX6_placeFrom 142 = .ok (.iaload, 1) := by decide +kernel
theorem dX6_placeFrom_143 : decode cX6_placeFrom 143 = .ok (.ineg, 1) := by decide +kernel
theorem dX6_placeFrom_144 : decode cX6_placeFrom 144 = .ok (.invokevirtual 78, 3) := by decide +kernel
theorem dX6_placeFrom_147 : decode cX6_placeFrom 147 = .ok (.iinc 5 1, 3) := by decide +kernel
theorem dX6_placeFrom_150 : decode cX6_placeFrom 150 = .ok (.goto (-93), 3) := by decide +kernel
theorem dX6_placeFrom_153 : decode cX6_placeFrom 153 = .ok (.aload_n 0, 1) := by decide +kernel
theorem dX6_placeFrom_154 : decode cX6_placeFrom 154 = .ok (.getfield 25, 3) := by decide +kernel
theorem dX6_placeFrom_157 : decode cX6_placeFrom 157 = .ok (.iload_n 3, 1) := by decide +kernel
theorem dX6_placeFrom_158 : decode cX6_placeFrom 158 = .ok (.bipush (-9), 2) := by decide +kernel
theorem dX6_placeFrom_160 : decode cX6_placeFrom 160 = .ok (.iastore, 1) := by decide +kernel
theorem dX6_placeFrom_161 : decode cX6_placeFrom 161 = .ok (.aload_n 0, 1) := by decide +kernel
theorem dX6_placeFrom_162 : decode cX6_placeFrom 162 = .ok (.aload_n 1, 1) := by decide +kernel
theorem dX6_placeFrom_163 : decode cX6_placeFrom 163 = .ok (.aload_n 2, 1) := by decide +kernel
theorem dX6_placeFrom_164 : decode cX6_placeFrom 164 = .ok (.iload_n 3, 1) := by decide +kernel
theorem dX6_placeFrom_165 : decode cX6_placeFrom 165 = .ok (.iconst 1, 1) := by decide +kernel
theorem dX6_placeFrom_166 : decode cX6_placeFrom 166 = .ok (.iadd, 1) := by decide +kernel
theorem dX6_placeFrom_167 : decode cX6_placeFrom 167 = .ok (.iload 4, 2) := by decide +kernel
theorem dX6_placeFrom_169 : decode cX6_placeFrom 169 = .ok (.invokevirtual 56, 3) := by decide +kernel
theorem dX6_placeFrom_172 : decode cX6_placeFrom 172 = .ok (.return_, 1) := by decide +kernel
theorem dX7_init_0 : decode cX7_init 0 = .ok (.aload_n 0, 1) := by decide +kernel
theorem dX7_init_1 : decode cX7_init 1 = .ok (.invokespecial 3, 3) := by decide +kernel
theorem dX7_init_4 : decode cX7_init 4 = .ok (.aload_n 0, 1) := by decide +kernel
theorem dX7_init_5 : decode cX7_init 5 = .ok (.iconst 0, 1) := by decide +kernel
theorem dX7_init_6 : decode cX7_init 6 = .ok (.putfield 9, 3) := by decide +kernel
theorem dX7_init_9 : decode cX7_init 9 = .ok (.aload_n 0, 1) := by decide +kernel
theorem dX7_init_10 : decode cX7_init 10 = .ok (.bipush (-9), 2) := by decide +kernel
theorem dX7_init_12 : decode cX7_init 12 = .ok (.putfield 15, 3) := by decide +kernel
theorem dX7_init_15 : decode cX7_init 15 = .ok (.aload_n 0, 1) := by decide +kernel
theorem dX7_init_16 : decode cX7_init 16 = .ok (.bipush (-9), 2) := by decide +kernel
theorem dX7_init_18 : decode cX7_init 18 = .ok (.putfield 18, 3) := by decide +kernel
theorem dX7_init_21 : decode cX7_init 21 = .ok (.aload_n 0, 1) := by decide +kernel
theorem dX7_init_22 : decode cX7_init 22 = .ok (.bipush 6, 2) := by decide +kernel
theorem dX7_init_24 : decode cX7_init 24 = .ok (.newarray .int, 2) := by decide +kernel
theorem dX7_init_26 : decode cX7_init 26 = .ok (.putfield 21, 3) := by decide +kernel
theorem dX7_init_29 : decode cX7_init 29 = .ok (.aload_n 0, 1) := by decide +kernel
theorem dX7_init_30 : decode cX7_init 30 = .ok (.bipush 6, 2) := by decide +kernel
theorem dX7_init_32 : decode cX7_init 32 = .ok (.newarray .int, 2) := by decide +kernel
theorem dX7_init_34 : decode cX7_init 34 = .ok (.putfield 25, 3) := by decide +kernel
theorem dX7_init_37 : decode cX7_init 37 = .ok (.aload_n 0, 1) := by decide +kernel
theorem dX7_init_38 : decode cX7_init 38 = .ok (.bipush 6, 2) := by decide +kernel
theorem dX7_init_40 : decode cX7_init 40 = .ok (.newarray .int, 2) := by decide +kernel
theorem dX7_init_42 : decode cX7_init 42 = .ok (.putfield 28, 3) := by decide +kernel
theorem dX7_init_45 : decode cX7_init 45 = .ok (.return_, 1) := by decide +kernel
theorem dX7_note_0 : decode cX7_note 0 = .ok (.aload_n 0, 1) := by decide +kernel
theorem dX7_note_1 : decode cX7_note 1 = .ok (.getfield 9, 3) := by decide +kernel
theorem dX7_note_4 : decode cX7_note 4 = .ok (.bipush 6, 2) := by decide +kernel
theorem dX7_note_6 : decode cX7_note 6 = .ok (.if_icmp .lt 5, 3) := by decide +kernel
theorem dX7_note_9 : decode cX7_note 9 = .ok (.iconst 0, 1) := by decide +kernel
theorem dX7_note_10 : decode cX7_note 10 = .ok (.ireturn, 1) := by decide +kernel
theorem dX7_note_11 : decode cX7_note 11 = .ok (.aload_n 0, 1) := by decide +kernel
theorem dX7_note_12 : decode cX7_note 12 = .ok (.getfield 21, 3) := by decide +kernel
theorem dX7_note_15 : decode cX7_note 15 = .ok (.aload_n 0, 1) := by decide +kernel
theorem dX7_note_16 : decode cX7_note 16 = .ok (.getfield 9, 3) := by decide +kernel
theorem dX7_note_19 : decode cX7_note 19 = .ok (.iload_n 1, 1) := by decide +kernel
theorem dX7_note_20 : decode cX7_note 20 = .ok (.iastore, 1) := by decide +kernel
theorem dX7_note_21 : decode cX7_note 21 = .ok (.aload_n 0, 1) := by decide +kernel
theorem dX7_note_22 : decode cX7_note 22 = .ok (.getfield 25, 3) := by decide +kernel
theorem dX7_note_25 : decode cX7_note 25 = .ok (.aload_n 0, 1) := by decide +kernel
theorem dX7_note_26 : decode cX7_note 26 = .ok (.getfield 9, 3) := by decide +kernel
theorem dX7_note_29 : decode cX7_note 29 = .ok (.iload_n 2, 1) := by decide +kernel
theorem dX7_note_30 : decode cX7_note 30 = .ok (.iastore, 1) := by decide +kernel
theorem dX7_note_31 : decode cX7_note 31 = .ok (.aload_n 0, 1) := by decide +kernel
theorem dX7_note_32 : decode cX7_note 32 = .ok (.getfield 28, 3) := by decide +kernel
theorem dX7_note_35 : decode cX7_note 35 = .ok (.aload_n 0, 1) := by decide +kernel
theorem dX7_note_36 : decode cX7_note 36 = .ok (.getfield 9, 3) := by decide +kernel
theorem dX7_note_39 : decode cX7_note 39 = .ok (.iload_n 3, 1) := by decide +kernel
theorem dX7_note_40 : decode cX7_note 40 = .ok (.iastore, 1) := by decide +kernel
theorem dX7_note_41 : decode cX7_note 41 = .ok (.aload_n 0, 1) := by decide +kernel
theorem dX7_note_42 : decode cX7_note 42 = .ok (.dup, 1) := by decide +kernel
theorem dX7_note_43 : decode cX7_note 43 = .ok (.getfield 9, 3) := by decide +kernel
theorem dX7_note_46 : decode cX7_note 46 = .ok (.iconst 1, 1) := by decide +kernel
theorem dX7_note_47 : decode cX7_note 47 = .ok (.iadd, 1) := by decide +kernel
theorem dX7_note_48 : decode cX7_note 48 = .ok (.putfield 9, 3) := by decide +kernel
theorem dX7_note_51 : decode cX7_note 51 = .ok (.iconst 1, 1) := by decide +kernel
theorem dX7_note_52 : decode cX7_note 52 = .ok (.ireturn, 1) := by decide +kernel
theorem dX7_suspects_0 : decode cX7_suspects 0 = .ok (.iconst 0, 1) := by decide +kernel
theorem dX7_suspects_1 : decode cX7_suspects 1 = .ok (.istore_n 2, 1) := by decide +kernel
theorem dX7_suspects_2 : decode cX7_suspects 2 = .ok (.iconst 0, 1) := by decide +kernel
theorem dX7_suspects_3 : decode cX7_suspects 3 = .ok (.istore_n 3, 1) := by decide +kernel
theorem dX7_suspects_4 : decode cX7_suspects 4 = .ok (.iload_n 3, 1) := by decide +kernel
theorem dX7_suspects_5 : decode cX7_suspects 5 = .ok (.aload_n 1, 1) := by decide +kernel
theorem dX7_suspects_6 : decode cX7_suspects 6 = .ok (.getfield 31, 3) := by decide +kernel
theorem dX7_suspects_9 : decode cX7_suspects 9 = .ok (.if_icmp .ge 24, 3) := by decide +kernel
theorem dX7_suspects_12 : decode cX7_suspects 12 = .ok (.aload_n 0, 1) := by decide +kernel
theorem dX7_suspects_13 : decode cX7_suspects 13 = .ok (.aload_n 1, 1) := by decide +kernel
theorem dX7_suspects_14 : decode cX7_suspects 14 = .ok (.iload_n 3, 1) := by decide +kernel
theorem dX7_suspects_15 : decode cX7_suspects 15 = .ok (.invokevirtual 36, 3) := by decide +kernel
theorem dX7_suspects_18 : decode cX7_suspects 18 = .ok (.ifCond .eq 9, 3) := by decide +kernel
theorem dX7_suspects_21 : decode cX7_suspects 21 = .ok (.iload_n 2, 1) := by decide +kernel
theorem dX7_suspects_22 : decode cX7_suspects 22 = .ok (.iconst 1, 1) := by decide +kernel
theorem dX7_suspects_23 : decode cX7_suspects 23 = .ok (.iload_n 3, 1) := by decide +kernel
theorem dX7_suspects_24 : decode cX7_suspects 24 = .ok (.ishl, 1) := by decide +kernel
theorem dX7_suspects_25 : decode cX7_suspects 25 = .ok (.ior, 1) := by decide +kernel
theorem dX7_suspects_26 : decode cX7_suspects 26 = .ok (.istore_n 2, 1) := by decide +kernel
theorem dX7_suspects_27 : decode cX7_suspects 27 = .ok (.iinc 3 1, 3) := by decide +kernel
theorem dX7_suspects_30 : decode cX7_suspects 30 = .ok (.goto (-26), 3) := by decide +kernel
theorem dX7_suspects_33 : decode cX7_suspects 33 = .ok (.iload_n 2, 1) := by decide +kernel
theorem dX7_suspects_34 : decode cX7_suspects 34 = .ok (.ireturn, 1) := by decide +kernel
theorem dX7_agrees_0 : decode cX7_agrees 0 = .ok (.iconst 0, 1) := by decide +kernel
theorem dX7_agrees_1 : decode cX7_agrees 1 = .ok (.istore_n 3, 1) := by decide +kernel
theorem dX7_agrees_2 : decode cX7_agrees 2 = .ok (.iload_n 3, 1) := by decide +kernel
theorem dX7_agrees_3 : decode cX7_agrees 3 = .ok (.aload_n 0, 1) := by decide +kernel
theorem dX7_agrees_4 : decode cX7_agrees 4 = .ok (.getfield 9, 3) := by decide +kernel
theorem dX7_agrees_7 : decode cX7_agrees 7 = .ok (.if_icmp .ge 46, 3) := by decide +kernel
theorem dX7_agrees_10 : decode cX7_agrees 10 = .ok (.aload_n 1, 1) := by decide +kernel
theorem dX7_agrees_11 : decode cX7_agrees 11 = .ok (.aload_n 0, 1) := by decide +kernel
theorem dX7_agrees_12 : decode cX7_agrees 12 = .ok (.getfield 21, 3) := by decide +kernel
theorem dX7_agrees_15 : decode cX7_agrees 15 = .ok (.iload_n 3, 1) := by decide +kernel
theorem dX7_agrees_16 : decode cX7_agrees 16 = .ok (.iaload, 1) := by decide +kernel
theorem dX7_agrees_17 : decode cX7_agrees 17 = .ok (.aload_n 0, 1) := by decide +kernel
theorem dX7_agrees_18 : decode cX7_agrees 18 = .ok (.getfield 25, 3) := by decide +kernel
theorem dX7_agrees_21 : decode cX7_agrees 21 = .ok (.iload_n 3, 1) := by decide +kernel
theorem dX7_agrees_22 : decode cX7_agrees 22 = .ok (.iaload, 1) := by decide +kernel
theorem dX7_agrees_23 : decode cX7_agrees 23 = .ok (.iload_n 2, 1) := by decide +kernel
theorem dX7_agrees_24 : decode cX7_agrees 24 = .ok (.invokestatic 40, 3) := by decide +kernel
theorem dX7_agrees_27 : decode cX7_agrees 27 = .ok (.aload_n 0, 1) := by decide +kernel
theorem dX7_agrees_28 : decode cX7_agrees 28 = .ok (.getfield 28, 3) := by decide +kernel
theorem dX7_agrees_31 : decode cX7_agrees 31 = .ok (.iload_n 3, 1) := by decide +kernel
theorem dX7_agrees_32 : decode cX7_agrees 32 = .ok (.iaload, 1) := by decide +kernel
theorem dX7_agrees_33 : decode cX7_agrees 33 = .ok (.iconst 1, 1) := by decide +kernel
theorem dX7_agrees_34 : decode cX7_agrees 34 = .ok (.if_icmp .ne 7, 3) := by decide +kernel
theorem dX7_agrees_37 : decode cX7_agrees 37 = .ok (.iconst 1, 1) := by decide +kernel
theorem dX7_agrees_38 : decode cX7_agrees 38 = .ok (.goto 4, 3) := by decide +kernel
theorem dX7_agrees_41 : decode cX7_agrees 41 = .ok (.iconst 0, 1) := by decide +kernel
theorem dX7_agrees_42 : decode cX7_agrees 42 = .ok (.if_icmp .eq 5, 3) := by decide +kernel
theorem dX7_agrees_45 : decode cX7_agrees 45 = .ok (.iconst 0, 1) := by decide +kernel
theorem dX7_agrees_46 : decode cX7_agrees 46 = .ok (.ireturn, 1) := by decide +kernel
theorem dX7_agrees_47 : decode cX7_agrees 47 = .ok (.iinc 3 1, 3) := by decide +kernel
theorem dX7_agrees_50 : decode cX7_agrees 50 = .ok (.goto (-48), 3) := by decide +kernel
theorem dX7_agrees_53 : decode cX7_agrees 53 = .ok (.iconst 1, 1) := by decide +kernel
theorem dX7_agrees_54 : decode cX7_agrees 54 = .ok (.ireturn, 1) := by decide +kernel
theorem dX7_breaks_0 : decode cX7_breaks 0 = .ok (.iload_n 1, 1) := by decide +kernel
theorem dX7_breaks_1 : decode cX7_breaks 1 = .ok (.iload_n 3, 1) := by decide +kernel
theorem dX7_breaks_2 : decode cX7_breaks 2 = .ok (.if_icmp .ne 14, 3) := by decide +kernel
theorem dX7_breaks_5 : decode cX7_breaks 5 = .ok (.aload_n 0, 1) := by decide +kernel
theorem dX7_breaks_6 : decode cX7_breaks 6 = .ok (.getfield 44, 3) := by decide +kernel
theorem dX7_breaks_9 : decode cX7_breaks 9 = .ok (.iload_n 1, 1) := by decide +kernel
theorem dX7_breaks_10 : decode cX7_breaks 10 = .ok (.iaload, 1) := by decide +kernel
theorem dX7_breaks_11 : decode cX7_breaks 11 = .ok (.iconst 2, 1) := by decide +kernel
theorem dX7_breaks_12 : decode cX7_breaks 12 = .ok (.idiv, 1) := by decide +kernel
theorem dX7_breaks_13 : decode cX7_breaks 13 = .ok (.goto 9, 3) := by decide +kernel
theorem dX7_breaks_16 : decode cX7_breaks 16 = .ok (.aload_n 0, 1) := by decide +kernel
theorem dX7_breaks_17 : decode cX7_breaks 17 = .ok (.getfield 44, 3) := by decide +kernel
theorem dX7_breaks_20 : decode cX7_breaks 20 = .ok (.iload_n 1, 1) := by decide +kernel
theorem dX7_breaks_21 : decode cX7_breaks 21 = .ok (.iaload, 1) := by decide +kernel
theorem dX7_breaks_22 : decode cX7_breaks 22 = .ok (.istore 4, 2) := by decide +kernel
theorem dX7_breaks_24 : decode cX7_breaks 24 = .ok (.iload 4, 2) := by decide +kernel
theorem dX7_breaks_26 : decode cX7_breaks 26 = .ok (.iload_n 2, 1) := by decide +kernel
theorem dX7_breaks_27 : decode cX7_breaks 27 = .ok (.if_icmp .ge 7, 3) := by decide +kernel
theorem dX7_breaks_30 : decode cX7_breaks 30 = .ok (.iconst 1, 1) := by decide +kernel
theorem dX7_breaks_31 : decode cX7_breaks 31 = .ok (.goto 4, 3) := by decide +kernel
theorem dX7_breaks_34 : decode cX7_breaks 34 = .ok (.iconst 0, 1) := by decide +kernel
theorem dX7_breaks_35 : decode cX7_breaks 35 = .ok (.ireturn, 1) := by decide +kernel
theorem dX7_seekTrial_0 : decode cX7_seekTrial 0 = .ok (.aload_n 0, 1) := by decide +kernel
theorem dX7_seekTrial_1 : decode cX7_seekTrial 1 = .ok (.aload_n 1, 1) := by decide +kernel
theorem dX7_seekTrial_2 : decode cX7_seekTrial 2 = .ok (.invokevirtual 47, 3) := by decide +kernel
theorem dX7_seekTrial_5 : decode cX7_seekTrial 5 = .ok (.istore_n 2, 1) := by decide +kernel
theorem dX7_seekTrial_6 : decode cX7_seekTrial 6 = .ok (.bipush 7, 2) := by decide +kernel
theorem dX7_seekTrial_8 : decode cX7_seekTrial 8 = .ok (.istore_n 3, 1) := by decide +kernel
theorem dX7_seekTrial_9 : decode cX7_seekTrial 9 = .ok (.iconst 0, 1) := by decide +kernel
theorem dX7_seekTrial_10 : decode cX7_seekTrial 10 = .ok (.istore 4, 2) := by decide +kernel
theorem dX7_seekTrial_12 : decode cX7_seekTrial 12 = .ok (.iload 4, 2) := by decide +kernel
theorem dX7_seekTrial_14 : decode cX7_seekTrial 14 = .ok (.aload_n 1, 1) := by decide +kernel
theorem dX7_seekTrial_15 : decode cX7_seekTrial 15 = .ok (.getfield 31, 3) := by decide +kernel
theorem dX7_seekTrial_18 : decode cX7_seekTrial 18 = .ok (.if_icmp .ge 57, 3) := by decide +kernel
theorem dX7_seekTrial_21 : decode cX7_seekTrial 21 = .ok (.iconst 1, 1) := by decide +kernel
theorem dX7_seekTrial_22 : decode cX7_seekTrial 22 = .ok (.istore 5, 2) := by decide +kernel
theorem dX7_seekTrial_24 : decode cX7_seekTrial 24 = .ok (.iload 5, 2) := by decide +kernel
theorem dX7_seekTrial_26 : decode cX7_seekTrial 26 = .ok (.bipush 40, 2) := by decide +kernel
theorem dX7_seekTrial_28 : decode cX7_seekTrial 28 = .ok (.if_icmp .gt 41, 3) := by decide +kernel
theorem dX7_seekTrial_31 : decode cX7_seekTrial 31 = .ok (.aload_n 1, 1) := by decide +kernel
theorem dX7_seekTrial_32 : decode cX7_seekTrial 32 = .ok (.iload 4, 2) := by decide +kernel
theorem dX7_seekTrial_34 : decode cX7_seekTrial 34 = .ok (.iload 5, 2) := by decide +kernel
theorem dX7_seekTrial_36 : decode cX7_seekTrial 36 = .ok (.iload_n 2, 1) := by decide +kernel
theorem dX7_seekTrial_37 : decode cX7_seekTrial 37 = .ok (.invokestatic 51, 3) := by decide +kernel
theorem dX7_seekTrial_40 : decode cX7_seekTrial 40 = .ok (.istore 6, 2) := by decide +kernel
theorem dX7_seekTrial_42 : decode cX7_seekTrial 42 = .ok (.iload 6, 2) := by decide +kernel
theorem dX7_seekTrial_44 : decode cX7_seekTrial 44 = .ok (.iload_n 3, 1) := by decide +kernel
theorem dX7_seekTrial_45 : decode cX7_seekTrial 45 = .ok (.if_icmp .ge 18, 3) := by decide +kernel
theorem dX7_seekTrial_48 : decode cX7_seekTrial 48 = .ok (.iload 6, 2) := by decide +kernel
theorem dX7_seekTrial_50 : decode cX7_seekTrial 50 = .ok (.istore_n 3, 1) := by decide +kernel
theorem dX7_seekTrial_51 : decode cX7_seekTrial 51 = .ok (.aload_n 0, 1) := by decide +kernel
theorem dX7_seekTrial_52 : decode cX7_seekTrial 52 = .ok (.iload 4, 2) := by decide +kernel
theorem dX7_seekTrial_54 : decode cX7_seekTrial 54 = .ok (.putfield 15, 3) := by decide +kernel
theorem dX7_seekTrial_57 : decode cX7_seekTrial 57 = .ok (.aload_n 0, 1) := by decide +kernel
theorem dX7_seekTrial_58 : decode cX7_seekTrial 58 = .ok (.iload 5, 2) := by decide +kernel
theorem dX7_seekTrial_60 : decode cX7_seekTrial 60 = .ok (.putfield 18, 3) := by decide +kernel
theorem dX7_seekTrial_63 : decode cX7_seekTrial 63 = .ok (.iinc 5 1, 3) := by decide +kernel
theorem dX7_seekTrial_66 : decode cX7_seekTrial 66 = .ok (.goto (-42), 3) := by decide +kernel
theorem dX7_seekTrial_69 : decode cX7_seekTrial 69 = .ok (.iinc 4 1, 3) := by decide +kernel
theorem dX7_seekTrial_72 : decode cX7_seekTrial 72 = .ok (.goto (-60), 3) := by decide +kernel
theorem dX7_seekTrial_75 : decode cX7_seekTrial 75 = .ok (.return_, 1) := by decide +kernel
theorem dX7_leftAtWorst_0 : decode cX7_leftAtWorst 0 = .ok (.iconst 0, 1) := by decide +kernel
theorem dX7_leftAtWorst_1 : decode cX7_leftAtWorst 1 = .ok (.istore 4, 2) := by decide +kernel
theorem dX7_leftAtWorst_3 : decode cX7_leftAtWorst 3 = .ok (.iconst 0, 1) := by decide +kernel
theorem dX7_leftAtWorst_4 : decode cX7_leftAtWorst 4 = .ok (.istore 5, 2) := by decide +kernel
theorem dX7_leftAtWorst_6 : decode cX7_leftAtWorst 6 = .ok (.iload 5, 2) := by decide +kernel
theorem dX7_leftAtWorst_8 : decode cX7_leftAtWorst 8 = .ok (.aload_n 0, 1) := by decide +kernel
theorem dX7_leftAtWorst_9 : decode cX7_leftAtWorst 9 = .ok (.getfield 31, 3) := by decide +kernel
theorem dX7_leftAtWorst_12 : decode cX7_leftAtWorst 12 = .ok (.if_icmp .ge 32, 3) := by decide +kernel
theorem dX7_leftAtWorst_15 : decode cX7_leftAtWorst 15 = .ok (.iload_n 3, 1) := by decide +kernel
theorem dX7_leftAtWorst_16 : decode cX7_leftAtWorst 16 = .ok (.iload 5, 2) := by decide +kernel
theorem dX7_leftAtWorst_18 : decode cX7_leftAtWorst 18 = .ok (.ishr, 1) := by decide +kernel
theorem dX7_leftAtWorst_19 : decode cX7_leftAtWorst 19 = .ok (.iconst 1, 1) := by decide +kernel
theorem dX7_leftAtWorst_20 : decode cX7_leftAtWorst 20 = .ok (.iand, 1) := by decide +kernel
theorem dX7_leftAtWorst_21 : decode cX7_leftAtWorst 21 = .ok (.ifCond .eq 17, 3) := by decide +kernel
theorem dX7_leftAtWorst_24 : decode cX7_leftAtWorst 24 = .ok (.aload_n 0, 1) := by decide +kernel
theorem dX7_leftAtWorst_25 : decode cX7_leftAtWorst 25 = .ok (.iload_n 1, 1) := by decide +kernel
theorem dX7_leftAtWorst_26 : decode cX7_leftAtWorst 26 = .ok (.iload_n 2, 1) := by decide +kernel
theorem dX7_leftAtWorst_27 : decode cX7_leftAtWorst 27 = .ok (.iload 5, 2) := by decide +kernel
theorem dX7_leftAtWorst_29 : decode cX7_leftAtWorst 29 = .ok (.invokestatic 40, 3) := by decide +kernel
theorem dX7_leftAtWorst_32 : decode cX7_leftAtWorst 32 = .ok (.ifCond .eq 6, 3) := by decide +kernel
theorem dX7_leftAtWorst_35 : decode cX7_leftAtWorst 35 = .ok (.iinc 4 1, 3) := by decide +kernel
theorem dX7_leftAtWorst_38 : decode cX7_leftAtWorst 38 = .ok (.iinc 5 1, 3) := by decide +kernel
theorem dX7_leftAtWorst_41 : decode cX7_leftAtWorst 41 = .ok (.goto (-35), 3) := by decide +kernel
theorem dX7_leftAtWorst_44 : decode cX7_leftAtWorst 44 = .ok (.iload 4, 2) := by decide +kernel
theorem dX7_leftAtWorst_46 : decode cX7_leftAtWorst 46 = .ok (.iload_n 3, 1) := by decide +kernel
theorem dX7_leftAtWorst_47 : decode cX7_leftAtWorst 47 = .ok (.invokestatic 55, 3) := by decide +kernel
theorem dX7_leftAtWorst_50 : decode cX7_leftAtWorst 50 = .ok (.iload 4, 2) := by decide +kernel
theorem dX7_leftAtWorst_52 : decode cX7_leftAtWorst 52 = .ok (.isub, 1) := by decide +kernel
theorem dX7_leftAtWorst_53 : decode cX7_leftAtWorst 53 = .ok (.invokestatic 61, 3) := by decide +kernel
theorem dX7_leftAtWorst_56 : decode cX7_leftAtWorst 56 = .ok (.ireturn, 1) := by decide +kernel
theorem dX8_init_0 : decode cX8_init 0 = .ok (.aload_n 0, 1) := by decide +kernel
theorem dX8_init_1 : decode cX8_init 1 = .ok (.invokespecial 5, 3) := by decide +kernel
theorem dX8_init_4 : decode cX8_init 4 = .ok (.aload_n 0, 1) := by decide +kernel
theorem dX8_init_5 : decode cX8_init 5 = .ok (.bipush 42, 2) := by decide +kernel
theorem dX8_init_7 : decode cX8_init 7 = .ok (.newarray .int, 2) := by decide +kernel
theorem dX8_init_9 : decode cX8_init 9 = .ok (.putfield 11, 3) := by decide +kernel
theorem dX8_init_12 : decode cX8_init 12 = .ok (.return_, 1) := by decide +kernel
theorem dX8_begin_0 : decode cX8_begin 0 = .ok (.iconst 0, 1) := by decide +kernel
theorem dX8_begin_1 : decode cX8_begin 1 = .ok (.istore_n 2, 1) := by decide +kernel
theorem dX8_begin_2 : decode cX8_begin 2 = .ok (.iload_n 2, 1) := by decide +kernel
theorem dX8_begin_3 : decode cX8_begin 3 = .ok (.iconst 5, 1) := by decide +kernel
theorem dX8_begin_4 : decode cX8_begin 4 = .ok (.if_icmp .ge 17, 3) := by decide +kernel
theorem dX8_begin_7 : decode cX8_begin 7 = .ok (.aload_n 0, 1) := by decide +kernel
theorem dX8_begin_8 : decode cX8_begin 8 = .ok (.getfield 11, 3) := by decide +kernel
theorem dX8_begin_11 : decode cX8_begin 11 = .ok (.iload_n 2, 1) := by decide +kernel
theorem dX8_begin_12 : decode cX8_begin 12 = .ok (.bipush (-9), 2) := by decide +kernel
theorem dX8_begin_14 : decode cX8_begin 14 = .ok (.iastore, 1) := by decide +kernel
theorem dX8_begin_15 : decode cX8_begin 15 = .ok (.iinc 2 1, 3) := by decide +kernel
theorem dX8_begin_18 : decode cX8_begin 18 = .ok (.goto (-16), 3) := by decide +kernel
theorem dX8_begin_21 : decode cX8_begin 21 = .ok (.iconst 0, 1) := by decide +kernel
theorem dX8_begin_22 : decode cX8_begin 22 = .ok (.istore_n 2, 1) := by decide +kernel
theorem dX8_begin_23 : decode cX8_begin 23 = .ok (.iload_n 2, 1) := by decide +kernel
theorem dX8_begin_24 : decode cX8_begin 24 = .ok (.bipush 12, 2) := by decide +kernel
theorem dX8_begin_26 : decode cX8_begin 26 = .ok (.if_icmp .ge 20, 3) := by decide +kernel
theorem dX8_begin_29 : decode cX8_begin 29 = .ok (.aload_n 0, 1) := by decide +kernel
theorem dX8_begin_30 : decode cX8_begin 30 = .ok (.iload_n 2, 1) := by decide +kernel
theorem dX8_begin_31 : decode cX8_begin 31 = .ok (.aload_n 1, 1) := by decide +kernel
theorem dX8_begin_32 : decode cX8_begin 32 = .ok (.getfield 15, 3) := by decide +kernel
theorem dX8_begin_35 : decode cX8_begin 35 = .ok (.iload_n 2, 1) := by decide +kernel
theorem dX8_begin_36 : decode cX8_begin 36 = .ok (.iaload, 1) := by decide +kernel
theorem dX8_begin_37 : decode cX8_begin 37 = .ok (.invokevirtual 20, 3) := by decide +kernel
theorem dX8_begin_40 : decode cX8_begin 40 = .ok (.iinc 2 1, 3) := by decide +kernel
theorem dX8_begin_43 : decode cX8_begin 43 = .ok (.goto (-20), 3) := by decide +kernel
theorem dX8_begin_46 : decode cX8_begin 46 = .ok (.aload_n 0, 1) := by decide +kernel
theorem dX8_begin_47 : decode cX8_begin 47 = .ok (.getfield 11, 3) := by decide +kernel
theorem dX8_begin_50 : decode cX8_begin 50 = .ok (.bipush 41, 2) := by decide +kernel
theorem dX8_begin_52 : decode cX8_begin 52 = .ok (.iconst 0, 1) := by decide +kernel
theorem dX8_begin_53 : decode cX8_begin 53 = .ok (.iastore, 1) := by decide +kernel
theorem dX8_begin_54 : decode cX8_begin 54 = .ok (.return_, 1) := by decide +kernel
theorem dX8_copyFrom_0 : decode cX8_copyFrom 0 = .ok (.aload_n 1, 1) := by decide +kernel
theorem dX8_copyFrom_1 : decode cX8_copyFrom 1 = .ok (.arraylength, 1) := by decide +kernel
theorem dX8_copyFrom_2 : decode cX8_copyFrom 2 = .ok (.bipush 42, 2) := by decide +kernel
theorem dX8_copyFrom_4 : decode cX8_copyFrom 4 = .ok (.if_icmp .lt 15, 3) := by decide +kernel
theorem dX8_copyFrom_7 : decode cX8_copyFrom 7 = .ok (.aload_n 1, 1) := by decide +kernel
theorem dX8_copyFrom_8 : decode cX8_copyFrom 8 = .ok (.iconst 0, 1) := by decide +kernel
theorem dX8_copyFrom_9 : decode cX8_copyFrom 9 = .ok (.aload_n 0, 1) := by decide +kernel
theorem dX8_copyFrom_10 : decode cX8_copyFrom 10 = .ok (.getfield 11, 3) := by decide +kernel
theorem dX8_copyFrom_13 : decode cX8_copyFrom 13 = .ok (.iconst 0, 1) := by decide +kernel
theorem dX8_copyFrom_14 : decode cX8_copyFrom 14 = .ok (.bipush 42, 2) := by decide +kernel
theorem dX8_copyFrom_16 : decode cX8_copyFrom 16 = .ok (.invokestatic 24, 3) := by decide +kernel
theorem dX8_copyFrom_19 : decode cX8_copyFrom 19 = .ok (.return_, 1) := by decide +kernel
theorem dX8_copyTo_0 : decode cX8_copyTo 0 = .ok (.aload_n 1, 1) := by decide +kernel
theorem dX8_copyTo_1 : decode cX8_copyTo 1 = .ok (.arraylength, 1) := by decide +kernel
theorem dX8_copyTo_2 : decode cX8_copyTo 2 = .ok (.bipush 42, 2) := by decide +kernel
theorem dX8_copyTo_4 : decode cX8_copyTo 4 = .ok (.if_icmp .lt 15, 3) := by decide +kernel
theorem dX8_copyTo_7 : decode cX8_copyTo 7 = .ok (.aload_n 0, 1) := by decide +kernel
theorem dX8_copyTo_8 : decode cX8_copyTo 8 = .ok (.getfield 11, 3) := by decide +kernel
theorem dX8_copyTo_11 : decode cX8_copyTo 11 = .ok (.iconst 0, 1) := by decide +kernel
theorem dX8_copyTo_12 : decode cX8_copyTo 12 = .ok (.aload_n 1, 1) := by decide +kernel
theorem dX8_copyTo_13 : decode cX8_copyTo 13 = .ok (.iconst 0, 1) := by decide +kernel
theorem dX8_copyTo_14 : decode cX8_copyTo 14 = .ok (.bipush 42, 2) := by decide +kernel
theorem dX8_copyTo_16 : decode cX8_copyTo 16 = .ok (.invokestatic 24, 3) := by decide +kernel
theorem dX8_copyTo_19 : decode cX8_copyTo 19 = .ok (.return_, 1) := by decide +kernel
theorem dX8_plankUnder_0 : decode cX8_plankUnder 0 = .ok (.aload_n 0, 1) := by decide +kernel
theorem dX8_plankUnder_1 : decode cX8_plankUnder 1 = .ok (.getfield 11, 3) := by decide +kernel
theorem dX8_plankUnder_4 : decode cX8_plankUnder 4 = .ok (.iload_n 1, 1) := by decide +kernel
theorem dX8_plankUnder_5 : decode cX8_plankUnder 5 = .ok (.iaload, 1) := by decide +kernel
theorem dX8_plankUnder_6 : decode cX8_plankUnder 6 = .ok (.ireturn, 1) := by decide +kernel
theorem dX8_kindOf_0 : decode cX8_kindOf 0 = .ok (.aload_n 0, 1) := by decide +kernel
theorem dX8_kindOf_1 : decode cX8_kindOf 1 = .ok (.getfield 11, 3) := by decide +kernel
theorem dX8_kindOf_4 : decode cX8_kindOf 4 = .ok (.iconst 5, 1) := by decide +kernel
theorem dX8_kindOf_5 : decode cX8_kindOf 5 = .ok (.iload_n 1, 1) := by decide +kernel
theorem dX8_kindOf_6 : decode cX8_kindOf 6 = .ok (.iadd, 1) := by decide +kernel
theorem dX8_kindOf_7 : decode cX8_kindOf 7 = .ok (.iaload, 1) := by decide +kernel
theorem dX8_kindOf_8 : decode cX8_kindOf 8 = .ok (.ireturn, 1) := by decide +kernel
theorem dX8_wearOf_0 : decode cX8_wearOf 0 = .ok (.aload_n 0, 1) := by decide +kernel
theorem dX8_wearOf_1 : decode cX8_wearOf 1 = .ok (.getfield 11, 3) := by decide +kernel
theorem dX8_wearOf_4 : decode cX8_wearOf 4 = .ok (.bipush 17, 2) := by decide +kernel
theorem dX8_wearOf_6 : decode cX8_wearOf 6 = .ok (.iload_n 1, 1) := by decide +kernel
theorem dX8_wearOf_7 : decode cX8_wearOf 7 = .ok (.iadd, 1) := by decide +kernel
theorem dX8_wearOf_8 : decode cX8_wearOf 8 = .ok (.iaload, 1) := by decide +kernel
theorem dX8_wearOf_9 : decode cX8_wearOf 9 = .ok (.ireturn, 1) := by decide +kernel
theorem dX8_isOut_0 : decode cX8_isOut 0 = .ok (.aload_n 0, 1) := by decide +kernel
theorem dX8_isOut_1 : decode cX8_isOut 1 = .ok (.getfield 11, 3) := by decide +kernel
theorem dX8_isOut_4 : decode cX8_isOut 4 = .ok (.bipush 29, 2) := by decide +kernel
theorem dX8_isOut_6 : decode cX8_isOut 6 = .ok (.iload_n 1, 1) := by decide +kernel
theorem dX8_isOut_7 : decode cX8_isOut 7 = .ok (.iadd, 1) := by decide +kernel
theorem dX8_isOut_8 : decode cX8_isOut 8 = .ok (.iaload, 1) := by decide +kernel
theorem dX8_isOut_9 : decode cX8_isOut 9 = .ok (.ifCond .eq 7, 3) := by decide +kernel
theorem dX8_isOut_12 : decode cX8_isOut 12 = .ok (.iconst 1, 1) := by decide +kernel
theorem dX8_isOut_13 : decode cX8_isOut 13 = .ok (.goto 4, 3) := by decide +kernel
theorem dX8_isOut_16 : decode cX8_isOut 16 = .ok (.iconst 0, 1) := by decide +kernel
theorem dX8_isOut_17 : decode cX8_isOut 17 = .ok (.ireturn, 1) := by decide +kernel
theorem dX8_gales_0 : decode cX8_gales 0 = .ok (.aload_n 0, 1) := by decide +kernel
theorem dX8_gales_1 : decode cX8_gales 1 = .ok (.getfield 11, 3) := by decide +kernel
theorem dX8_gales_4 : decode cX8_gales 4 = .ok (.bipush 41, 2) := by decide +kernel
theorem dX8_gales_6 : decode cX8_gales 6 = .ok (.iaload, 1) := by decide +kernel
theorem dX8_gales_7 : decode cX8_gales 7 = .ok (.ireturn, 1) := by decide +kernel
theorem dX8_put_0 : decode cX8_put 0 = .ok (.aload_n 0, 1) := by decide +kernel
theorem dX8_put_1 : decode cX8_put 1 = .ok (.getfield 11, 3) := by decide +kernel
theorem dX8_put_4 : decode cX8_put 4 = .ok (.iload_n 1, 1) := by decide +kernel
theorem dX8_put_5 : decode cX8_put 5 = .ok (.iload_n 2, 1) := by decide +kernel
theorem dX8_put_6 : decode cX8_put 6 = .ok (.iastore, 1) := by decide +kernel
theorem dX8_put_7 : decode cX8_put 7 = .ok (.return_, 1) := by decide +kernel
theorem dX8_doAnew_0 : decode cX8_doAnew 0 = .ok (.aload_n 0, 1) := by decide +kernel
theorem dX8_doAnew_1 : decode cX8_doAnew 1 = .ok (.getfield 11, 3) := by decide +kernel
theorem dX8_doAnew_4 : decode cX8_doAnew 4 = .ok (.iconst 5, 1) := by decide +kernel
theorem dX8_doAnew_5 : decode cX8_doAnew 5 = .ok (.iload_n 1, 1) := by decide +kernel
theorem dX8_doAnew_6 : decode cX8_doAnew 6 = .ok (.iadd, 1) := by decide +kernel
theorem dX8_doAnew_7 : decode cX8_doAnew 7 = .ok (.iload_n 2, 1) := by decide +kernel
theorem dX8_doAnew_8 : decode cX8_doAnew 8 = .ok (.iastore, 1) := by decide +kernel
theorem dX8_doAnew_9 : decode cX8_doAnew 9 = .ok (.aload_n 0, 1) := by decide +kernel
theorem dX8_doAnew_10 : decode cX8_doAnew 10 = .ok (.getfield 11, 3) := by decide +kernel
theorem dX8_doAnew_13 : decode cX8_doAnew 13 = .ok (.bipush 17, 2) := by decide +kernel
theorem dX8_doAnew_15 : decode cX8_doAnew 15 = .ok (.iload_n 1, 1) := by decide +kernel
theorem dX8_doAnew_16 : decode cX8_doAnew 16 = .ok (.iadd, 1) := by decide +kernel
theorem dX8_doAnew_17 : decode cX8_doAnew 17 = .ok (.iconst 0, 1) := by decide +kernel
theorem dX8_doAnew_18 : decode cX8_doAnew 18 = .ok (.iastore, 1) := by decide +kernel
theorem dX8_doAnew_19 : decode cX8_doAnew 19 = .ok (.aload_n 0, 1) := by decide +kernel
theorem dX8_doAnew_20 : decode cX8_doAnew 20 = .ok (.getfield 11, 3) := by decide +kernel
theorem dX8_doAnew_23 : decode cX8_doAnew 23 = .ok (.bipush 29, 2) := by decide +kernel
theorem dX8_doAnew_25 : decode cX8_doAnew 25 = .ok (.iload_n 1, 1) := by decide +kernel
theorem dX8_doAnew_26 : decode cX8_doAnew 26 = .ok (.iadd, 1) := by decide +kernel
theorem dX8_doAnew_27 : decode cX8_doAnew 27 = .ok (.iconst 0, 1) := by decide +kernel
theorem dX8_doAnew_28 : decode cX8_doAnew 28 = .ok (.iastore, 1) := by decide +kernel
theorem dX8_doAnew_29 : decode cX8_doAnew 29 = .ok (.return_, 1) := by decide +kernel
theorem dX8_blow_0 : decode cX8_blow 0 = .ok (.iconst 0, 1) := by decide +kernel
theorem dX8_blow_1 : decode cX8_blow 1 = .ok (.istore_n 3, 1) := by decide +kernel
theorem dX8_blow_2 : decode cX8_blow 2 = .ok (.iload_n 3, 1) := by decide +kernel
theorem dX8_blow_3 : decode cX8_blow 3 = .ok (.aload_n 1, 1) := by decide +kernel
theorem dX8_blow_4 : decode cX8_blow 4 = .ok (.invokevirtual 30, 3) := by decide +kernel
theorem dX8_blow_7 : decode cX8_blow 7 = .ok (.if_icmp .ge 30, 3) := by decide +kernel
theorem dX8_blow_10 : decode cX8_blow 10 = .ok (.aload_n 0, 1) := by decide +kernel
theorem dX8_blow_11 : decode cX8_blow 11 = .ok (.iload_n 3, 1) := by decide +kernel
theorem dX8_blow_12 : decode cX8_blow 12 = .ok (.invokevirtual 34, 3) := by decide +kernel
theorem dX8_blow_15 : decode cX8_blow 15 = .ok (.ifCond .ne 16, 3) := by decide +kernel
theorem dX8_blow_18 : decode cX8_blow 18 = .ok (.aload_n 0, 1) := by decide +kernel
theorem dX8_blow_19 : decode cX8_blow 19 = .ok (.iload_n 3, 1) := by decide +kernel
theorem dX8_blow_20 : decode cX8_blow 20 = .ok (.aload_n 1, 1) := by decide +kernel
theorem dX8_blow_21 : decode cX8_blow 21 = .ok (.iload_n 3, 1) := by decide +kernel
theorem dX8_blow_22 : decode cX8_blow 22 = .ok (.iconst 2, 1) := by decide +kernel
theorem dX8_blow_23 : decode cX8_blow 23 = .ok (.idiv, 1) := by decide +kernel
theorem dX8_blow_24 : decode cX8_blow 24 = .ok (.invokevirtual 38, 3) := by decide +kernel
theorem dX8_blow_27 : decode cX8_blow 27 = .ok (.iload_n 2, 1) := by decide +kernel
theorem dX8_blow_28 : decode cX8_blow 28 = .ok (.invokevirtual 42, 3) := by decide +kernel
theorem dX8_blow_31 : decode cX8_blow 31 = .ok (.iinc 3 1, 3) := by decide +kernel
theorem dX8_blow_34 : decode cX8_blow 34 = .ok (.goto (-32), 3) := by decide +kernel
theorem dX8_blow_37 : decode cX8_blow 37 = .ok (.aload_n 0, 1) := by decide +kernel
theorem dX8_blow_38 : decode cX8_blow 38 = .ok (.getfield 11, 3) := by decide +kernel
theorem dX8_blow_41 : decode cX8_blow 41 = .ok (.bipush 41, 2) := by decide +kernel
theorem dX8_blow_43 : decode cX8_blow 43 = .ok (.dup2, 1) := by decide +kernel
theorem dX8_blow_44 : decode cX8_blow 44 = .ok (.iaload, 1) := by decide +kernel
theorem dX8_blow_45 : decode cX8_blow 45 = .ok (.iconst 1, 1) := by decide +kernel
theorem dX8_blow_46 : decode cX8_blow 46 = .ok (.iadd, 1) := by decide +kernel
theorem dX8_blow_47 : decode cX8_blow 47 = .ok (.iastore, 1) := by decide +kernel
theorem dX8_blow_48 : decode cX8_blow 48 = .ok (.return_, 1) := by decide +kernel
theorem dX8_shake_0 : decode cX8_shake 0 = .ok (.aload_n 0, 1) := by decide +kernel
theorem dX8_shake_1 : decode cX8_shake 1 = .ok (.iload_n 1, 1) := by decide +kernel
theorem dX8_shake_2 : decode cX8_shake 2 = .ok (.invokevirtual 46, 3) := by decide +kernel
theorem dX8_shake_5 : decode cX8_shake 5 = .ok (.istore 4, 2) := by decide +kernel
theorem dX8_shake_7 : decode cX8_shake 7 = .ok (.aload_n 0, 1) := by decide +kernel
theorem dX8_shake_8 : decode cX8_shake 8 = .ok (.getfield 11, 3) := by decide +kernel
theorem dX8_shake_11 : decode cX8_shake 11 = .ok (.bipush 17, 2) := by decide +kernel
theorem dX8_shake_13 : decode cX8_shake 13 = .ok (.iload_n 1, 1) := by decide +kernel
theorem dX8_shake_14 : decode cX8_shake 14 = .ok (.iadd, 1) := by decide +kernel
theorem dX8_shake_15 : decode cX8_shake 15 = .ok (.dup2, 1) := by decide +kernel
theorem dX8_shake_16 : decode cX8_shake 16 = .ok (.iaload, 1) := by decide +kernel
theorem dX8_shake_17 : decode cX8_shake 17 = .ok (.iload 4, 2) := by decide +kernel
theorem dX8_shake_19 : decode cX8_shake 19 = .ok (.iload_n 2, 1) := by decide +kernel
theorem dX8_shake_20 : decode cX8_shake 20 = .ok (.iload_n 3, 1) := by decide +kernel
theorem dX8_shake_21 : decode cX8_shake 21 = .ok (.invokestatic 49, 3) := by decide +kernel
theorem dX8_shake_24 : decode cX8_shake 24 = .ok (.iadd, 1) := by decide +kernel
theorem dX8_shake_25 : decode cX8_shake 25 = .ok (.iastore, 1) := by decide +kernel
theorem dX8_shake_26 : decode cX8_shake 26 = .ok (.iload 4, 2) := by decide +kernel
theorem dX8_shake_28 : decode cX8_shake 28 = .ok (.ifCond .ne 13, 3) := by decide +kernel
theorem dX8_shake_31 : decode cX8_shake 31 = .ok (.iload_n 3, 1) := by decide +kernel
theorem dX8_shake_32 : decode cX8_shake 32 = .ok (.bipush 7, 2) := by decide +kernel
theorem dX8_shake_34 : decode cX8_shake 34 = .ok (.if_icmp .lt 7, 3) := by decide +kernel
theorem dX8_shake_37 : decode cX8_shake 37 = .ok (.iconst 1, 1) := by decide +kernel
theorem dX8_shake_38 : decode cX8_shake 38 = .ok (.goto 4, 3) := by decide +kernel
theorem dX8_shake_41 : decode cX8_shake 41 = .ok (.iconst 0, 1) := by decide +kernel
theorem dX8_shake_42 : decode cX8_shake 42 = .ok (.istore 5, 2) := by decide +kernel
theorem dX8_shake_44 : decode cX8_shake 44 = .ok (.iload 5, 2) := by decide +kernel
theorem dX8_shake_46 : decode cX8_shake 46 = .ok (.ifCond .ne 16, 3) := by decide +kernel
theorem dX8_shake_49 : decode cX8_shake 49 = .ok (.aload_n 0, 1) := by decide +kernel
theorem dX8_shake_50 : decode cX8_shake 50 = .ok (.iload_n 1, 1) := by decide +kernel
theorem dX8_shake_51 : decode cX8_shake 51 = .ok (.invokevirtual 53, 3) := by decide +kernel
theorem dX8_shake_54 : decode cX8_shake 54 = .ok (.iload 4, 2) := by decide +kernel
theorem dX8_shake_56 : decode cX8_shake 56 = .ok (.invokestatic 56, 3) := by decide +kernel
theorem dX8_shake_59 : decode cX8_shake 59 = .ok (.if_icmp .lt 13, 3) := by decide +kernel
theorem dX8_shake_62 : decode cX8_shake 62 = .ok (.aload_n 0, 1) := by decide +kernel
theorem dX8_shake_63 : decode cX8_shake 63 = .ok (.getfield 11, 3) := by decide +kernel
theorem dX8_shake_66 : decode cX8_shake 66 = .ok (.bipush 29, 2) := by decide +kernel
theorem dX8_shake_68 : decode cX8_shake 68 = .ok (.iload_n 1, 1) := by decide +kernel
theorem dX8_shake_69 : decode cX8_shake 69 = .ok (.iadd, 1) := by decide +kernel
theorem dX8_shake_70 : decode cX8_shake 70 = .ok (.iconst 1, 1) := by decide +kernel
theorem dX8_shake_71 : decode cX8_shake 71 = .ok (.iastore, 1) := by decide +kernel
theorem dX8_shake_72 : decode cX8_shake 72 = .ok (.return_, 1) := by decide +kernel
theorem dX8_growBark_0 : decode cX8_growBark 0 = .ok (.iconst 0, 1) := by decide +kernel
theorem dX8_growBark_1 : decode cX8_growBark 1 = .ok (.istore_n 2, 1) := by decide +kernel
theorem dX8_growBark_2 : decode cX8_growBark 2 = .ok (.iconst 0, 1) := by decide +kernel
theorem dX8_growBark_3 : decode cX8_growBark 3 = .ok (.istore_n 3, 1) := by decide +kernel
theorem dX8_growBark_4 : decode cX8_growBark 4 = .ok (.iload_n 3, 1) := by decide +kernel
theorem dX8_growBark_5 : decode cX8_growBark 5 = .ok (.aload_n 1, 1) := by decide +kernel
theorem dX8_growBark_6 : decode cX8_growBark 6 = .ok (.invokevirtual 30, 3) := by decide +kernel
theorem dX8_growBark_9 : decode cX8_growBark 9 = .ok (.if_icmp .ge 57, 3) := by decide +kernel
theorem dX8_growBark_12 : decode cX8_growBark 12 = .ok (.aload_n 0, 1) := by decide +kernel
theorem dX8_growBark_13 : decode cX8_growBark 13 = .ok (.iload_n 3, 1) := by decide +kernel
theorem dX8_growBark_14 : decode cX8_growBark 14 = .ok (.invokevirtual 46, 3) := by decide +kernel
theorem dX8_growBark_17 : decode cX8_growBark 17 = .ok (.iconst 1, 1) := by decide +kernel
theorem dX8_growBark_18 : decode cX8_growBark 18 = .ok (.if_icmp .ne 42, 3) := by decide +kernel
theorem dX8_growBark_21 : decode cX8_growBark 21 = .ok (.aload_n 0, 1) := by decide +kernel
theorem dX8_growBark_22 : decode cX8_growBark 22 = .ok (.iload_n 3, 1) := by decide +kernel
theorem dX8_growBark_23 : decode cX8_growBark 23 = .ok (.invokevirtual 34, 3) := by decide +kernel
theorem dX8_growBark_26 : decode cX8_growBark 26 = .ok (.ifCond .ne 34, 3) := by decide +kernel
theorem dX8_growBark_29 : decode cX8_growBark 29 = .ok (.aload_n 0, 1) := by decide +kernel
theorem dX8_growBark_30 : decode cX8_growBark 30 = .ok (.iload_n 3, 1) := by decide +kernel
theorem dX8_growBark_31 : decode cX8_growBark 31 = .ok (.invokevirtual 53, 3) := by decide +kernel
theorem dX8_growBark_34 : decode cX8_growBark 34 = .ok (.ifCond .le 26, 3) := by decide +kernel
theorem dX8_growBark_37 : decode cX8_growBark 37 = .ok (.aload_n 0, 1) := by decide +kernel
theorem dX8_growBark_38 : decode cX8_growBark 38 = .ok (.getfield 11, 3) := by decide +kernel
theorem dX8_growBark_41 : decode cX8_growBark 41 = .ok (.bipush 17, 2) := by decide +kernel
theorem dX8_growBark_43 : decode cX8_growBark 43 = .ok (.iload_n 3, 1) := by decide +kernel
theorem dX8_growBark_44 : decode cX8_growBark 44 = .ok (.iadd, 1) := by decide +kernel
theorem dX8_growBark_45 : decode cX8_growBark 45 = .ok (.iconst 0, 1) := by decide +kernel
theorem dX8_growBark_46 : decode cX8_growBark 46 = .ok (.aload_n 0, 1) := by decide +kernel
theorem dX8_growBark_47 : decode cX8_growBark 47 = .ok (.iload_n 3, 1) := by decide +kernel
theorem dX8_growBark_48 : decode cX8_growBark 48 = .ok (.invokevirtual 53, 3) := by decide +kernel
theorem dX8_growBark_51 : decode cX8_growBark 51 = .ok (.iconst 2, 1) := by decide +kernel
theorem dX8_growBark_52 : decode cX8_growBark 52 = .ok (.isub, 1) := by decide +kernel
theorem dX8_growBark_53 : decode cX8_growBark 53 = .ok (.invokestatic 59, 3) := by decide +kernel
theorem dX8_growBark_56 : decode cX8_growBark 56 = .ok (.iastore, 1) := by decide +kernel
theorem dX8_growBark_57 : decode cX8_growBark 57 = .ok (.iinc 2 1, 3) := by decide +kernel
theorem dX8_growBark_60 : decode cX8_growBark 60 = .ok (.iinc 3 1, 3) := by decide +kernel
theorem dX8_growBark_63 : decode cX8_growBark 63 = .ok (.goto (-59), 3) := by decide +kernel
theorem dX8_growBark_66 : decode cX8_growBark 66 = .ok (.iload_n 2, 1) := by decide +kernel
theorem dX8_growBark_67 : decode cX8_growBark 67 = .ok (.ireturn, 1) := by decide +kernel
theorem dX8_outs_0 : decode cX8_outs 0 = .ok (.aload_n 0, 1) := by decide +kernel
theorem dX8_outs_1 : decode cX8_outs 1 = .ok (.aload_n 1, 1) := by decide +kernel
theorem dX8_outs_2 : decode cX8_outs 2 = .ok (.invokevirtual 65, 3) := by decide +kernel
theorem dX8_outs_5 : decode cX8_outs 5 = .ok (.invokestatic 69, 3) := by decide +kernel
theorem dX8_outs_8 : decode cX8_outs 8 = .ok (.ireturn, 1) := by decide +kernel
theorem dX8_outBits_0 : decode cX8_outBits 0 = .ok (.iconst 0, 1) := by decide +kernel
theorem dX8_outBits_1 : decode cX8_outBits 1 = .ok (.istore_n 2, 1) := by decide +kernel
theorem dX8_outBits_2 : decode cX8_outBits 2 = .ok (.iconst 0, 1) := by decide +kernel
theorem dX8_outBits_3 : decode cX8_outBits 3 = .ok (.istore_n 3, 1) := by decide +kernel
theorem dX8_outBits_4 : decode cX8_outBits 4 = .ok (.iload_n 3, 1) := by decide +kernel
theorem dX8_outBits_5 : decode cX8_outBits 5 = .ok (.aload_n 1, 1) := by decide +kernel
theorem dX8_outBits_6 : decode cX8_outBits 6 = .ok (.invokevirtual 30, 3) := by decide +kernel
theorem dX8_outBits_9 : decode cX8_outBits 9 = .ok (.if_icmp .ge 23, 3) := by decide +kernel
theorem dX8_outBits_12 : decode cX8_outBits 12 = .ok (.aload_n 0, 1) := by decide +kernel
theorem dX8_outBits_13 : decode cX8_outBits 13 = .ok (.iload_n 3, 1) := by decide +kernel
theorem dX8_outBits_14 : decode cX8_outBits 14 = .ok (.invokevirtual 34, 3) := by decide +kernel
theorem dX8_outBits_17 : decode cX8_outBits 17 = .ok (.ifCond .eq 9, 3) := by decide +kernel
theorem dX8_outBits_20 : decode cX8_outBits 20 = .ok (.iload_n 2, 1) := by decide +kernel
theorem dX8_outBits_21 : decode cX8_outBits 21 = .ok (.iconst 1, 1) := by decide +kernel
theorem dX8_outBits_22 : decode cX8_outBits 22 = .ok (.iload_n 3, 1) := by decide +kernel
theorem dX8_outBits_23 : decode cX8_outBits 23 = .ok (.ishl, 1) := by decide +kernel
theorem dX8_outBits_24 : decode cX8_outBits 24 = .ok (.ior, 1) := by decide +kernel
theorem dX8_outBits_25 : decode cX8_outBits 25 = .ok (.istore_n 2, 1) := by decide +kernel
theorem dX8_outBits_26 : decode cX8_outBits 26 = .ok (.iinc 3 1, 3) := by decide +kernel
theorem dX8_outBits_29 : decode cX8_outBits 29 = .ok (.goto (-25), 3) := by decide +kernel
theorem dX8_outBits_32 : decode cX8_outBits 32 = .ok (.iload_n 2, 1) := by decide +kernel
theorem dX8_outBits_33 : decode cX8_outBits 33 = .ok (.ireturn, 1) := by decide +kernel
theorem dX8_hasBothEnds_0 : decode cX8_hasBothEnds 0 = .ok (.aload_n 0, 1) := by decide +kernel
theorem dX8_hasBothEnds_1 : decode cX8_hasBothEnds 1 = .ok (.iconst 2, 1) := by decide +kernel
theorem dX8_hasBothEnds_2 : decode cX8_hasBothEnds 2 = .ok (.iload_n 1, 1) := by decide +kernel
theorem dX8_hasBothEnds_3 : decode cX8_hasBothEnds 3 = .ok (.imul, 1) := by decide +kernel
theorem dX8_hasBothEnds_4 : decode cX8_hasBothEnds 4 = .ok (.invokevirtual 34, 3) := by decide +kernel
theorem dX8_hasBothEnds_7 : decode cX8_hasBothEnds 7 = .ok (.ifCond .ne 19, 3) := by decide +kernel
theorem dX8_hasBothEnds_10 : decode cX8_hasBothEnds 10 = .ok (.aload_n 0, 1) := by decide +kernel
theorem dX8_hasBothEnds_11 : decode cX8_hasBothEnds 11 = .ok (.iconst 2, 1) := by decide +kernel
theorem dX8_hasBothEnds_12 : decode cX8_hasBothEnds 12 = .ok (.iload_n 1, 1) := by decide +kernel
theorem dX8_hasBothEnds_13 : decode cX8_hasBothEnds 13 = .ok (.imul, 1) := by decide +kernel
theorem dX8_hasBothEnds_14 : decode cX8_hasBothEnds 14 = .ok (.iconst 1, 1) := by decide +kernel
theorem dX8_hasBothEnds_15 : decode cX8_hasBothEnds 15 = .ok (.iadd, 1) := by decide +kernel
theorem dX8_hasBothEnds_16 : decode cX8_hasBothEnds 16 = .ok (.invokevirtual 34, 3) := by decide +kernel
theorem dX8_hasBothEnds_19 : decode cX8_hasBothEnds 19 = .ok (.ifCond .ne 7, 3) := by decide +kernel
theorem dX8_hasBothEnds_22 : decode cX8_hasBothEnds 22 = .ok (.iconst 1, 1) := by decide +kernel
theorem dX8_hasBothEnds_23 : decode cX8_hasBothEnds 23 = .ok (.goto 4, 3) := by decide +kernel
theorem dX8_hasBothEnds_26 : decode cX8_hasBothEnds 26 = .ok (.iconst 0, 1) := by decide +kernel
theorem dX8_hasBothEnds_27 : decode cX8_hasBothEnds 27 = .ok (.ireturn, 1) := by decide +kernel
theorem dX9_init_0 : decode cX9_init 0 = .ok (.aload_n 0, 1) := by decide +kernel
theorem dX9_init_1 : decode cX9_init 1 = .ok (.invokespecial 3, 3) := by decide +kernel
theorem dX9_init_4 : decode cX9_init 4 = .ok (.aload_n 0, 1) := by decide +kernel
theorem dX9_init_5 : decode cX9_init 5 = .ok (.sipush 200, 3) := by decide +kernel
theorem dX9_init_8 : decode cX9_init 8 = .ok (.newarray .int, 2) := by decide +kernel
theorem dX9_init_10 : decode cX9_init 10 = .ok (.putfield 9, 3) := by decide +kernel
theorem dX9_init_13 : decode cX9_init 13 = .ok (.aload_n 0, 1) := by decide +kernel
theorem dX9_init_14 : decode cX9_init 14 = .ok (.iconst 0, 1) := by decide +kernel
theorem dX9_init_15 : decode cX9_init 15 = .ok (.putfield 15, 3) := by decide +kernel
theorem dX9_init_18 : decode cX9_init 18 = .ok (.aload_n 0, 1) := by decide +kernel
theorem dX9_init_19 : decode cX9_init 19 = .ok (.iconst 0, 1) := by decide +kernel
theorem dX9_init_20 : decode cX9_init 20 = .ok (.putfield 19, 3) := by decide +kernel
theorem dX9_init_23 : decode cX9_init 23 = .ok (.aload_n 0, 1) := by decide +kernel
theorem dX9_init_24 : decode cX9_init 24 = .ok (.iconst 0, 1) := by decide +kernel
theorem dX9_init_25 : decode cX9_init 25 = .ok (.putfield 22, 3) := by decide +kernel
theorem dX9_init_28 : decode cX9_init 28 = .ok (.aload_n 0, 1) := by decide +kernel
theorem dX9_init_29 : decode cX9_init 29 = .ok (.iconst 0, 1) := by decide +kernel
theorem dX9_init_30 : decode cX9_init 30 = .ok (.putfield 25, 3) := by decide +kernel
theorem dX9_init_33 : decode cX9_init 33 = .ok (.aload_n 0, 1) := by decide +kernel
theorem dX9_init_34 : decode cX9_init 34 = .ok (.iconst 0, 1) := by decide +kernel
theorem dX9_init_35 : decode cX9_init 35 = .ok (.putfield 28, 3) := by decide +kernel
theorem dX9_init_38 : decode cX9_init 38 = .ok (.aload_n 0, 1) := by decide +kernel
theorem dX9_init_39 : decode cX9_init 39 = .ok (.getstatic 31, 3) := by decide +kernel
theorem dX9_init_42 : decode cX9_init 42 = .ok (.arraylength, 1) := by decide +kernel
theorem dX9_init_43 : decode cX9_init 43 = .ok (.newarray .int, 2) := by decide +kernel
theorem dX9_init_45 : decode cX9_init 45 = .ok (.putfield 34, 3) := by decide +kernel
theorem dX9_init_48 : decode cX9_init 48 = .ok (.return_, 1) := by decide +kernel
theorem dX9_append_0 : decode cX9_append 0 = .ok (.aload_n 0, 1) := by decide +kernel
theorem dX9_append_1 : decode cX9_append 1 = .ok (.getfield 15, 3) := by decide +kernel
theorem dX9_append_4 : decode cX9_append 4 = .ok (.sipush 200, 3) := by decide +kernel
theorem dX9_append_7 : decode cX9_append 7 = .ok (.if_icmp .lt 5, 3) := by decide +kernel
theorem dX9_append_10 : decode cX9_append 10 = .ok (.iconst 0, 1) := by decide +kernel
theorem dX9_append_11 : decode cX9_append 11 = .ok (.ireturn, 1) := by decide +kernel
theorem dX9_append_12 : decode cX9_append 12 = .ok (.aload_n 0, 1) := by decide +kernel
theorem dX9_append_13 : decode cX9_append 13 = .ok (.getfield 9, 3) := by decide +kernel
theorem dX9_append_16 : decode cX9_append 16 = .ok (.aload_n 0, 1) := by decide +kernel
theorem dX9_append_17 : decode cX9_append 17 = .ok (.getfield 15, 3) := by decide +kernel
theorem dX9_append_20 : decode cX9_append 20 = .ok (.iload_n 1, 1) := by decide +kernel
theorem dX9_append_21 : decode cX9_append 21 = .ok (.iastore, 1) := by decide +kernel
theorem dX9_append_22 : decode cX9_append 22 = .ok (.aload_n 0, 1) := by decide +kernel
theorem dX9_append_23 : decode cX9_append 23 = .ok (.dup, 1) := by decide +kernel
theorem dX9_append_24 : decode cX9_append 24 = .ok (.getfield 15, 3) := by decide +kernel
theorem dX9_append_27 : decode cX9_append 27 = .ok (.iconst 1, 1) := by decide +kernel
theorem dX9_append_28 : decode cX9_append 28 = .ok (.iadd, 1) := by decide +kernel
theorem dX9_append_29 : decode cX9_append 29 = .ok (.putfield 15, 3) := by decide +kernel
theorem dX9_append_32 : decode cX9_append 32 = .ok (.iconst 1, 1) := by decide +kernel
theorem dX9_append_33 : decode cX9_append 33 = .ok (.ireturn, 1) := by decide +kernel
theorem dX9_readInto_0 : decode cX9_readInto 0 = .ok (.aload_n 1, 1) := by decide +kernel
theorem dX9_readInto_1 : decode cX9_readInto 1 = .ok (.invokevirtual 37, 3) := by decide +kernel
theorem dX9_readInto_4 : decode cX9_readInto 4 = .ok (.aload_n 0, 1) := by decide +kernel
theorem dX9_readInto_5 : decode cX9_readInto 5 = .ok (.iconst 0, 1) := by decide +kernel
theorem dX9_readInto_6 : decode cX9_readInto 6 = .ok (.putfield 19, 3) := by decide +kernel
theorem dX9_readInto_9 : decode cX9_readInto 9 = .ok (.aload_n 0, 1) := by decide +kernel
theorem dX9_readInto_10 : decode cX9_readInto 10 = .ok (.invokevirtual 42, 3) := by decide +kernel
theorem dX9_readInto_13 : decode cX9_readInto 13 = .ok (.iconst 0, 1) := by decide +kernel
theorem dX9_readInto_14 : decode cX9_readInto 14 = .ok (.istore_n 2, 1) := by decide +kernel
theorem dX9_readInto_15 : decode cX9_readInto 15 = .ok (.aload_n 0, 1) := by decide +kernel
theorem dX9_readInto_16 : decode cX9_readInto 16 = .ok (.getfield 25, 3) := by decide +kernel
theorem dX9_readInto_19 : decode cX9_readInto 19 = .ok (.ifCond .eq 36, 3) := by decide +kernel
theorem dX9_readInto_22 : decode cX9_readInto 22 = .ok (.iload_n 2, 1) := by decide +kernel
theorem dX9_readInto_23 : decode cX9_readInto 23 = .ok (.sipush 200, 3) := by decide +kernel
theorem dX9_readInto_26 : decode cX9_readInto 26 = .ok (.if_icmp .ge 29, 3) := by decide +kernel
theorem dX9_readInto_29 : decode cX9_readInto 29 = .ok (.aload_n 0, 1) := by decide +kernel
theorem dX9_readInto_30 : decode cX9_readInto 30 = .ok (.aload_n 1, 1) := by decide +kernel
theorem dX9_readInto_31 : decode cX9_readInto 31 = .ok (.invokevirtual 45, 3) := by decide +kernel
theorem dX9_readInto_34 : decode cX9_readInto 34 = .ok (.ifCond .ne 11, 3) := by decide +kernel
theorem dX9_readInto_37 : decode cX9_readInto 37 = .ok (.bipush (-10), 2) := by decide +kernel
theorem dX9_readInto_39 : decode cX9_readInto 39 = .ok (.aload_n 0, 1) := by decide +kernel
theorem dX9_readInto_40 : decode cX9_readInto 40 = .ok (.getfield 22, 3) := by decide +kernel
theorem dX9_readInto_43 : decode cX9_readInto 43 = .ok (.isub, 1) := by decide +kernel
theorem dX9_readInto_44 : decode cX9_readInto 44 = .ok (.ireturn, 1) := by decide +kernel
theorem dX9_readInto_45 : decode cX9_readInto 45 = .ok (.iinc 2 1, 3) := by decide +kernel
theorem dX9_readInto_48 : decode cX9_readInto 48 = .ok (.aload_n 0, 1) := by decide +kernel
theorem dX9_readInto_49 : decode cX9_readInto 49 = .ok (.invokevirtual 42, 3) := by decide +kernel
theorem dX9_readInto_52 : decode cX9_readInto 52 = .ok (.goto (-37), 3) := by decide +kernel
theorem dX9_readInto_55 : decode cX9_readInto 55 = .ok (.iload_n 2, 1) := by decide +kernel
theorem dX9_readInto_56 : decode cX9_readInto 56 = .ok (.ireturn, 1) := by decide +kernel
theorem dX9_readItem_0 : decode cX9_readItem 0 = .ok (.aload_n 0, 1) := by decide +kernel
theorem dX9_readItem_1 : decode cX9_readItem 1 = .ok (.getfield 25, 3) := by decide +kernel
theorem dX9_readItem_4 : decode cX9_readItem 4 = .ok (.istore_n 2, 1) := by decide +kernel
theorem dX9_readItem_5 : decode cX9_readItem 5 = .ok (.aload_n 1, 1) := by decide +kernel
theorem dX9_readItem_6 : decode cX9_readItem 6 = .ok (.iload_n 2, 1) := by decide +kernel
theorem dX9_readItem_7 : decode cX9_readItem 7 = .ok (.invokevirtual 49, 3) := by decide +kernel
theorem dX9_readItem_10 : decode cX9_readItem 10 = .ok (.ifCond .ne 5, 3) := by decide +kernel
theorem dX9_readItem_13 : decode cX9_readItem 13 = .ok (.iconst 0, 1) := by decide +kernel
theorem dX9_readItem_14 : decode cX9_readItem 14 = .ok (.ireturn, 1) := by decide +kernel
theorem dX9_readItem_15 : decode cX9_readItem 15 = .ok (.iconst 0, 1) := by decide +kernel
theorem dX9_readItem_16 : decode cX9_readItem 16 = .ok (.istore_n 3, 1) := by decide +kernel
theorem dX9_readItem_17 : decode cX9_readItem 17 = .ok (.iload_n 3, 1) := by decide +kernel
theorem dX9_readItem_18 : decode cX9_readItem 18 = .ok (.iload_n 2, 1) := by decide +kernel
theorem dX9_readItem_19 : decode cX9_readItem 19 = .ok (.invokestatic 53, 3) := by decide +kernel
theorem dX9_readItem_22 : decode cX9_readItem 22 = .ok (.if_icmp .ge 43, 3) := by decide +kernel
theorem dX9_readItem_25 : decode cX9_readItem 25 = .ok (.aload_n 0, 1) := by decide +kernel
theorem dX9_readItem_26 : decode cX9_readItem 26 = .ok (.invokevirtual 42, 3) := by decide +kernel
theorem dX9_readItem_29 : decode cX9_readItem 29 = .ok (.aload_n 0, 1) := by decide +kernel
theorem dX9_readItem_30 : decode cX9_readItem 30 = .ok (.getfield 25, 3) := by decide +kernel
theorem dX9_readItem_33 : decode cX9_readItem 33 = .ok (.iconst 1, 1) := by decide +kernel
theorem dX9_readItem_34 : decode cX9_readItem 34 = .ok (.if_icmp .ne 13, 3) := by decide +kernel
theorem dX9_readItem_37 : decode cX9_readItem 37 = .ok (.aload_n 0, 1) := by decide +kernel
theorem dX9_readItem_38 : decode cX9_readItem 38 = .ok (.aload_n 1, 1) := by decide +kernel
theorem dX9_readItem_39 : decode cX9_readItem 39 = .ok (.iload_n 2, 1) := by decide +kernel
theorem dX9_readItem_40 : decode cX9_readItem 40 = .ok (.iload_n 3, 1) := by decide +kernel
theorem dX9_readItem_41 : decode cX9_readItem 41 = .ok (.invokevirtual 57, 3) := by decide +kernel
theorem dX9_readItem_44 : decode cX9_readItem 44 = .ok (.ifCond .ne 5, 3) := by decide +kernel
theorem dX9_readItem_47 : decode cX9_readItem 47 = .ok (.iconst 0, 1) := by decide +kernel
theorem dX9_readItem_48 : decode cX9_readItem 48 = .ok (.ireturn, 1) := by decide +kernel
theorem dX9_readItem_49 : decode cX9_readItem 49 = .ok (.aload_n 0, 1) := by decide +kernel
theorem dX9_readItem_50 : decode cX9_readItem 50 = .ok (.getfield 34, 3) := by decide +kernel
theorem dX9_readItem_53 : decode cX9_readItem 53 = .ok (.iload_n 3, 1) := by decide +kernel
theorem dX9_readItem_54 : decode cX9_readItem 54 = .ok (.aload_n 0, 1) := by decide +kernel
theorem dX9_readItem_55 : decode cX9_readItem 55 = .ok (.getfield 28, 3) := by decide +kernel
theorem dX9_readItem_58 : decode cX9_readItem 58 = .ok (.iastore, 1) := by decide +kernel
end
section
theorem dX9_readItem_59 : decode cX9_readItem 59 = .ok (.iinc 3 1, 3) := by decide +kernel
theorem dX9_readItem_62 : decode cX9_readItem 62 = .ok (.goto (-45), 3) := by decide +kernel
theorem dX9_readItem_65 : decode cX9_readItem 65 = .ok (.aload_n 0, 1) := by decide +kernel
theorem dX9_readItem_66 : decode cX9_readItem 66 = .ok (.invokevirtual 42, 3) := by decide +kernel
theorem dX9_readItem_69 : decode cX9_readItem 69 = .ok (.aload_n 0, 1) := by decide +kernel
theorem dX9_readItem_70 : decode cX9_readItem 70 = .ok (.getfield 25, 3) := by decide +kernel
theorem dX9_readItem_73 : decode cX9_readItem 73 = .ok (.bipush 59, 2) := by decide +kernel
theorem dX9_readItem_75 : decode cX9_readItem 75 = .ok (.if_icmp .eq 5, 3) := by decide +kernel
theorem dX9_readItem_78 : decode cX9_readItem 78 = .ok (.iconst 0, 1) := by decide +kernel
theorem dX9_readItem_79 : decode cX9_readItem 79 = .ok (.ireturn, 1) := by decide +kernel
theorem dX9_readItem_80 : decode cX9_readItem 80 = .ok (.aload_n 1, 1) := by decide +kernel
theorem dX9_readItem_81 : decode cX9_readItem 81 = .ok (.iload_n 2, 1) := by decide +kernel
theorem dX9_readItem_82 : decode cX9_readItem 82 = .ok (.aload_n 0, 1) := by decide +kernel
theorem dX9_readItem_83 : decode cX9_readItem 83 = .ok (.getfield 34, 3) := by decide +kernel
theorem dX9_readItem_86 : decode cX9_readItem 86 = .ok (.invokevirtual 61, 3) := by decide +kernel
theorem dX9_readItem_89 : decode cX9_readItem 89 = .ok (.iconst 1, 1) := by decide +kernel
theorem dX9_readItem_90 : decode cX9_readItem 90 = .ok (.ireturn, 1) := by decide +kernel
theorem dX9_numbersOf_0 : decode cX9_numbersOf 0 = .ok (.iload_n 0, 1) := by decide +kernel
theorem dX9_numbersOf_1 : decode cX9_numbersOf 1 = .ok (.lookupswitch 50 #[(98, 35), (99, 45), (112, 40)], 35) := by decide +kernel
theorem dX9_numbersOf_36 : decode cX9_numbersOf 36 = .ok (.getstatic 65, 3) := by decide +kernel
theorem dX9_numbersOf_39 : decode cX9_numbersOf 39 = .ok (.arraylength, 1) := by decide +kernel
theorem dX9_numbersOf_40 : decode cX9_numbersOf 40 = .ok (.ireturn, 1) := by decide +kernel
theorem dX9_numbersOf_41 : decode cX9_numbersOf 41 = .ok (.getstatic 31, 3) := by decide +kernel
theorem dX9_numbersOf_44 : decode cX9_numbersOf 44 = .ok (.arraylength, 1) := by decide +kernel
theorem dX9_numbersOf_45 : decode cX9_numbersOf 45 = .ok (.ireturn, 1) := by decide +kernel
theorem dX9_numbersOf_46 : decode cX9_numbersOf 46 = .ok (.getstatic 68, 3) := by decide +kernel
theorem dX9_numbersOf_49 : decode cX9_numbersOf 49 = .ok (.arraylength, 1) := by decide +kernel
theorem dX9_numbersOf_50 : decode cX9_numbersOf 50 = .ok (.ireturn, 1) := by decide +kernel
theorem dX9_numbersOf_51 : decode cX9_numbersOf 51 = .ok (.iconst 0, 1) := by decide +kernel
theorem dX9_numbersOf_52 : decode cX9_numbersOf 52 = .ok (.ireturn, 1) := by decide +kernel
theorem dX9_mayStand_0 : decode cX9_mayStand 0 = .ok (.iload_n 2, 1) := by decide +kernel
theorem dX9_mayStand_1 : decode cX9_mayStand 1 = .ok (.lookupswitch 111 #[(98, 35), (99, 93), (112, 53)], 35) := by decide +kernel
theorem dX9_mayStand_36 : decode cX9_mayStand 36 = .ok (.aload_n 0, 1) := by decide +kernel
theorem dX9_mayStand_37 : decode cX9_mayStand 37 = .ok (.getfield 28, 3) := by decide +kernel
theorem dX9_mayStand_40 : decode cX9_mayStand 40 = .ok (.getstatic 65, 3) := by decide +kernel
theorem dX9_mayStand_43 : decode cX9_mayStand 43 = .ok (.iload_n 3, 1) := by decide +kernel
theorem dX9_mayStand_44 : decode cX9_mayStand 44 = .ok (.iaload, 1) := by decide +kernel
theorem dX9_mayStand_45 : decode cX9_mayStand 45 = .ok (.getstatic 71, 3) := by decide +kernel
theorem dX9_mayStand_48 : decode cX9_mayStand 48 = .ok (.iload_n 3, 1) := by decide +kernel
theorem dX9_mayStand_49 : decode cX9_mayStand 49 = .ok (.iaload, 1) := by decide +kernel
theorem dX9_mayStand_50 : decode cX9_mayStand 50 = .ok (.invokestatic 74, 3) := by decide +kernel
theorem dX9_mayStand_53 : decode cX9_mayStand 53 = .ok (.ireturn, 1) := by decide +kernel
theorem dX9_mayStand_54 : decode cX9_mayStand 54 = .ok (.aload_n 0, 1) := by decide +kernel
theorem dX9_mayStand_55 : decode cX9_mayStand 55 = .ok (.getfield 28, 3) := by decide +kernel
theorem dX9_mayStand_58 : decode cX9_mayStand 58 = .ok (.getstatic 31, 3) := by decide +kernel
theorem dX9_mayStand_61 : decode cX9_mayStand 61 = .ok (.iload_n 3, 1) := by decide +kernel
theorem dX9_mayStand_62 : decode cX9_mayStand 62 = .ok (.iaload, 1) := by decide +kernel
theorem dX9_mayStand_63 : decode cX9_mayStand 63 = .ok (.getstatic 78, 3) := by decide +kernel
theorem dX9_mayStand_66 : decode cX9_mayStand 66 = .ok (.iload_n 3, 1) := by decide +kernel
theorem dX9_mayStand_67 : decode cX9_mayStand 67 = .ok (.iaload, 1) := by decide +kernel
theorem dX9_mayStand_68 : decode cX9_mayStand 68 = .ok (.invokestatic 74, 3) := by decide +kernel
theorem dX9_mayStand_71 : decode cX9_mayStand 71 = .ok (.ifCond .eq 21, 3) := by decide +kernel
theorem dX9_mayStand_74 : decode cX9_mayStand 74 = .ok (.iload_n 3, 1) := by decide +kernel
theorem dX9_mayStand_75 : decode cX9_mayStand 75 = .ok (.iconst 1, 1) := by decide +kernel
theorem dX9_mayStand_76 : decode cX9_mayStand 76 = .ok (.if_icmp .gt 12, 3) := by decide +kernel
theorem dX9_mayStand_79 : decode cX9_mayStand 79 = .ok (.aload_n 0, 1) := by decide +kernel
theorem dX9_mayStand_80 : decode cX9_mayStand 80 = .ok (.aload_n 1, 1) := by decide +kernel
theorem dX9_mayStand_81 : decode cX9_mayStand 81 = .ok (.iload_n 3, 1) := by decide +kernel
theorem dX9_mayStand_82 : decode cX9_mayStand 82 = .ok (.invokevirtual 81, 3) := by decide +kernel
theorem dX9_mayStand_85 : decode cX9_mayStand 85 = .ok (.ifCond .eq 7, 3) := by decide +kernel
theorem dX9_mayStand_88 : decode cX9_mayStand 88 = .ok (.iconst 1, 1) := by decide +kernel
theorem dX9_mayStand_89 : decode cX9_mayStand 89 = .ok (.goto 4, 3) := by decide +kernel
theorem dX9_mayStand_92 : decode cX9_mayStand 92 = .ok (.iconst 0, 1) := by decide +kernel
theorem dX9_mayStand_93 : decode cX9_mayStand 93 = .ok (.ireturn, 1) := by decide +kernel
theorem dX9_mayStand_94 : decode cX9_mayStand 94 = .ok (.aload_n 0, 1) := by decide +kernel
theorem dX9_mayStand_95 : decode cX9_mayStand 95 = .ok (.getfield 28, 3) := by decide +kernel
theorem dX9_mayStand_98 : decode cX9_mayStand 98 = .ok (.getstatic 68, 3) := by decide +kernel
theorem dX9_mayStand_101 : decode cX9_mayStand 101 = .ok (.iload_n 3, 1) := by decide +kernel
theorem dX9_mayStand_102 : decode cX9_mayStand 102 = .ok (.iaload, 1) := by decide +kernel
theorem dX9_mayStand_103 : decode cX9_mayStand 103 = .ok (.getstatic 85, 3) := by decide +kernel
theorem dX9_mayStand_106 : decode cX9_mayStand 106 = .ok (.iload_n 3, 1) := by decide +kernel
theorem dX9_mayStand_107 : decode cX9_mayStand 107 = .ok (.iaload, 1) := by decide +kernel
theorem dX9_mayStand_108 : decode cX9_mayStand 108 = .ok (.invokestatic 74, 3) := by decide +kernel
theorem dX9_mayStand_111 : decode cX9_mayStand 111 = .ok (.ireturn, 1) := by decide +kernel
theorem dX9_mayStand_112 : decode cX9_mayStand 112 = .ok (.iconst 0, 1) := by decide +kernel
theorem dX9_mayStand_113 : decode cX9_mayStand 113 = .ok (.ireturn, 1) := by decide +kernel
theorem dX9_mayBeUnder_0 : decode cX9_mayBeUnder 0 = .ok (.aload_n 0, 1) := by decide +kernel
theorem dX9_mayBeUnder_1 : decode cX9_mayBeUnder 1 = .ok (.getfield 28, 3) := by decide +kernel
theorem dX9_mayBeUnder_4 : decode cX9_mayBeUnder 4 = .ok (.aload_n 1, 1) := by decide +kernel
theorem dX9_mayBeUnder_5 : decode cX9_mayBeUnder 5 = .ok (.getfield 88, 3) := by decide +kernel
theorem dX9_mayBeUnder_8 : decode cX9_mayBeUnder 8 = .ok (.if_icmp .lt 5, 3) := by decide +kernel
theorem dX9_mayBeUnder_11 : decode cX9_mayBeUnder 11 = .ok (.iconst 0, 1) := by decide +kernel
theorem dX9_mayBeUnder_12 : decode cX9_mayBeUnder 12 = .ok (.ireturn, 1) := by decide +kernel
theorem dX9_mayBeUnder_13 : decode cX9_mayBeUnder 13 = .ok (.iload_n 2, 1) := by decide +kernel
theorem dX9_mayBeUnder_14 : decode cX9_mayBeUnder 14 = .ok (.ifCond .eq 33, 3) := by decide +kernel
theorem dX9_mayBeUnder_17 : decode cX9_mayBeUnder 17 = .ok (.aload_n 0, 1) := by decide +kernel
theorem dX9_mayBeUnder_18 : decode cX9_mayBeUnder 18 = .ok (.getfield 28, 3) := by decide +kernel
theorem dX9_mayBeUnder_21 : decode cX9_mayBeUnder 21 = .ok (.aload_n 0, 1) := by decide +kernel
theorem dX9_mayBeUnder_22 : decode cX9_mayBeUnder 22 = .ok (.getfield 34, 3) := by decide +kernel
theorem dX9_mayBeUnder_25 : decode cX9_mayBeUnder 25 = .ok (.iconst 0, 1) := by decide +kernel
theorem dX9_mayBeUnder_26 : decode cX9_mayBeUnder 26 = .ok (.iaload, 1) := by decide +kernel
theorem dX9_mayBeUnder_27 : decode cX9_mayBeUnder 27 = .ok (.if_icmp .eq 24, 3) := by decide +kernel
theorem dX9_mayBeUnder_30 : decode cX9_mayBeUnder 30 = .ok (.aload_n 1, 1) := by decide +kernel
theorem dX9_mayBeUnder_31 : decode cX9_mayBeUnder 31 = .ok (.aload_n 0, 1) := by decide +kernel
theorem dX9_mayBeUnder_32 : decode cX9_mayBeUnder 32 = .ok (.getfield 34, 3) := by decide +kernel
theorem dX9_mayBeUnder_35 : decode cX9_mayBeUnder 35 = .ok (.iconst 0, 1) := by decide +kernel
theorem dX9_mayBeUnder_36 : decode cX9_mayBeUnder 36 = .ok (.iaload, 1) := by decide +kernel
theorem dX9_mayBeUnder_37 : decode cX9_mayBeUnder 37 = .ok (.aload_n 0, 1) := by decide +kernel
theorem dX9_mayBeUnder_38 : decode cX9_mayBeUnder 38 = .ok (.getfield 28, 3) := by decide +kernel
theorem dX9_mayBeUnder_41 : decode cX9_mayBeUnder 41 = .ok (.invokevirtual 91, 3) := by decide +kernel
theorem dX9_mayBeUnder_44 : decode cX9_mayBeUnder 44 = .ok (.ifCond .ne 7, 3) := by decide +kernel
theorem dX9_mayBeUnder_47 : decode cX9_mayBeUnder 47 = .ok (.iconst 1, 1) := by decide +kernel
theorem dX9_mayBeUnder_48 : decode cX9_mayBeUnder 48 = .ok (.goto 4, 3) := by decide +kernel
theorem dX9_mayBeUnder_51 : decode cX9_mayBeUnder 51 = .ok (.iconst 0, 1) := by decide +kernel
theorem dX9_mayBeUnder_52 : decode cX9_mayBeUnder 52 = .ok (.ireturn, 1) := by decide +kernel
theorem dX9_step_0 : decode cX9_step 0 = .ok (.aload_n 0, 1) := by decide +kernel
theorem dX9_step_1 : decode cX9_step 1 = .ok (.getfield 19, 3) := by decide +kernel
theorem dX9_step_4 : decode cX9_step 4 = .ok (.aload_n 0, 1) := by decide +kernel
theorem dX9_step_5 : decode cX9_step 5 = .ok (.getfield 15, 3) := by decide +kernel
theorem dX9_step_8 : decode cX9_step 8 = .ok (.if_icmp .ge 30, 3) := by decide +kernel
theorem dX9_step_11 : decode cX9_step 11 = .ok (.aload_n 0, 1) := by decide +kernel
theorem dX9_step_12 : decode cX9_step 12 = .ok (.getfield 9, 3) := by decide +kernel
theorem dX9_step_15 : decode cX9_step 15 = .ok (.aload_n 0, 1) := by decide +kernel
theorem dX9_step_16 : decode cX9_step 16 = .ok (.getfield 19, 3) := by decide +kernel
theorem dX9_step_19 : decode cX9_step 19 = .ok (.iaload, 1) := by decide +kernel
theorem dX9_step_20 : decode cX9_step 20 = .ok (.bipush 32, 2) := by decide +kernel
theorem dX9_step_22 : decode cX9_step 22 = .ok (.if_icmp .ne 16, 3) := by decide +kernel
theorem dX9_step_25 : decode cX9_step 25 = .ok (.aload_n 0, 1) := by decide +kernel
theorem dX9_step_26 : decode cX9_step 26 = .ok (.dup, 1) := by decide +kernel
theorem dX9_step_27 : decode cX9_step 27 = .ok (.getfield 19, 3) := by decide +kernel
theorem dX9_step_30 : decode cX9_step 30 = .ok (.iconst 1, 1) := by decide +kernel
theorem dX9_step_31 : decode cX9_step 31 = .ok (.iadd, 1) := by decide +kernel
theorem dX9_step_32 : decode cX9_step 32 = .ok (.putfield 19, 3) := by decide +kernel
theorem dX9_step_35 : decode cX9_step 35 = .ok (.goto (-35), 3) := by decide +kernel
theorem dX9_step_38 : decode cX9_step 38 = .ok (.aload_n 0, 1) := by decide +kernel
theorem dX9_step_39 : decode cX9_step 39 = .ok (.aload_n 0, 1) := by decide +kernel
theorem dX9_step_40 : decode cX9_step 40 = .ok (.getfield 19, 3) := by decide +kernel
theorem dX9_step_43 : decode cX9_step 43 = .ok (.putfield 22, 3) := by decide +kernel
theorem dX9_step_46 : decode cX9_step 46 = .ok (.aload_n 0, 1) := by decide +kernel
theorem dX9_step_47 : decode cX9_step 47 = .ok (.getfield 19, 3) := by decide +kernel
theorem dX9_step_50 : decode cX9_step 50 = .ok (.aload_n 0, 1) := by decide +kernel
theorem dX9_step_51 : decode cX9_step 51 = .ok (.getfield 15, 3) := by decide +kernel
theorem dX9_step_54 : decode cX9_step 54 = .ok (.if_icmp .lt 11, 3) := by decide +kernel
theorem dX9_step_57 : decode cX9_step 57 = .ok (.aload_n 0, 1) := by decide +kernel
theorem dX9_step_58 : decode cX9_step 58 = .ok (.iconst 0, 1) := by decide +kernel
theorem dX9_step_59 : decode cX9_step 59 = .ok (.putfield 25, 3) := by decide +kernel
theorem dX9_step_62 : decode cX9_step 62 = .ok (.goto 67, 3) := by decide +kernel
theorem dX9_step_65 : decode cX9_step 65 = .ok (.aload_n 0, 1) := by decide +kernel
theorem dX9_step_66 : decode cX9_step 66 = .ok (.getfield 9, 3) := by decide +kernel
theorem dX9_step_69 : decode cX9_step 69 = .ok (.aload_n 0, 1) := by decide +kernel
theorem dX9_step_70 : decode cX9_step 70 = .ok (.getfield 19, 3) := by decide +kernel
theorem dX9_step_73 : decode cX9_step 73 = .ok (.iaload, 1) := by decide +kernel
theorem dX9_step_74 : decode cX9_step 74 = .ok (.invokestatic 95, 3) := by decide +kernel
theorem dX9_step_77 : decode cX9_step 77 = .ok (.ifCond .eq 10, 3) := by decide +kernel
theorem dX9_step_80 : decode cX9_step 80 = .ok (.aload_n 0, 1) := by decide +kernel
theorem dX9_step_81 : decode cX9_step 81 = .ok (.invokevirtual 98, 3) := by decide +kernel
theorem dX9_step_84 : decode cX9_step 84 = .ok (.goto 45, 3) := by decide +kernel
theorem dX9_step_87 : decode cX9_step 87 = .ok (.aload_n 0, 1) := by decide +kernel
theorem dX9_step_88 : decode cX9_step 88 = .ok (.aload_n 0, 1) := by decide +kernel
theorem dX9_step_89 : decode cX9_step 89 = .ok (.getfield 9, 3) := by decide +kernel
theorem dX9_step_92 : decode cX9_step 92 = .ok (.aload_n 0, 1) := by decide +kernel
theorem dX9_step_93 : decode cX9_step 93 = .ok (.getfield 19, 3) := by decide +kernel
theorem dX9_step_96 : decode cX9_step 96 = .ok (.iaload, 1) := by decide +kernel
theorem dX9_step_97 : decode cX9_step 97 = .ok (.invokestatic 101, 3) := by decide +kernel
theorem dX9_step_100 : decode cX9_step 100 = .ok (.ifCond .eq 15, 3) := by decide +kernel
theorem dX9_step_103 : decode cX9_step 103 = .ok (.aload_n 0, 1) := by decide +kernel
theorem dX9_step_104 : decode cX9_step 104 = .ok (.getfield 9, 3) := by decide +kernel
theorem dX9_step_107 : decode cX9_step 107 = .ok (.aload_n 0, 1) := by decide +kernel
theorem dX9_step_108 : decode cX9_step 108 = .ok (.getfield 19, 3) := by decide +kernel
theorem dX9_step_111 : decode cX9_step 111 = .ok (.iaload, 1) := by decide +kernel
theorem dX9_step_112 : decode cX9_step 112 = .ok (.goto 4, 3) := by decide +kernel
theorem dX9_step_115 : decode cX9_step 115 = .ok (.iconst 2, 1) := by decide +kernel
theorem dX9_step_116 : decode cX9_step 116 = .ok (.putfield 25, 3) := by decide +kernel
theorem dX9_step_119 : decode cX9_step 119 = .ok (.aload_n 0, 1) := by decide +kernel
theorem dX9_step_120 : decode cX9_step 120 = .ok (.dup, 1) := by decide +kernel
theorem dX9_step_121 : decode cX9_step 121 = .ok (.getfield 19, 3) := by decide +kernel
theorem dX9_step_124 : decode cX9_step 124 = .ok (.iconst 1, 1) := by decide +kernel
theorem dX9_step_125 : decode cX9_step 125 = .ok (.iadd, 1) := by decide +kernel
theorem dX9_step_126 : decode cX9_step 126 = .ok (.putfield 19, 3) := by decide +kernel
theorem dX9_step_129 : decode cX9_step 129 = .ok (.return_, 1) := by decide +kernel
theorem dX9_stepOverNumber_0 : decode cX9_stepOverNumber 0 = .ok (.aload_n 0, 1) := by decide +kernel
theorem dX9_stepOverNumber_1 : decode cX9_stepOverNumber 1 = .ok (.iconst 0, 1) := by decide +kernel
theorem dX9_stepOverNumber_2 : decode cX9_stepOverNumber 2 = .ok (.putfield 28, 3) := by decide +kernel
theorem dX9_stepOverNumber_5 : decode cX9_stepOverNumber 5 = .ok (.aload_n 0, 1) := by decide +kernel
theorem dX9_stepOverNumber_6 : decode cX9_stepOverNumber 6 = .ok (.getfield 19, 3) := by decide +kernel
theorem dX9_stepOverNumber_9 : decode cX9_stepOverNumber 9 = .ok (.aload_n 0, 1) := by decide +kernel
theorem dX9_stepOverNumber_10 : decode cX9_stepOverNumber 10 = .ok (.getfield 15, 3) := by decide +kernel
theorem dX9_stepOverNumber_13 : decode cX9_stepOverNumber 13 = .ok (.if_icmp .ge 55, 3) := by decide +kernel
theorem dX9_stepOverNumber_16 : decode cX9_stepOverNumber 16 = .ok (.aload_n 0, 1) := by decide +kernel
theorem dX9_stepOverNumber_17 : decode cX9_stepOverNumber 17 = .ok (.getfield 9, 3) := by decide +kernel
theorem dX9_stepOverNumber_20 : decode cX9_stepOverNumber 20 = .ok (.aload_n 0, 1) := by decide +kernel
theorem dX9_stepOverNumber_21 : decode cX9_stepOverNumber 21 = .ok (.getfield 19, 3) := by decide +kernel
theorem dX9_stepOverNumber_24 : decode cX9_stepOverNumber 24 = .ok (.iaload, 1) := by decide +kernel
theorem dX9_stepOverNumber_25 : decode cX9_stepOverNumber 25 = .ok (.invokestatic 95, 3) := by decide +kernel
theorem dX9_stepOverNumber_28 : decode cX9_stepOverNumber 28 = .ok (.ifCond .eq 40, 3) := by decide +kernel
theorem dX9_stepOverNumber_31 : decode cX9_stepOverNumber 31 = .ok (.aload_n 0, 1) := by decide +kernel
theorem dX9_stepOverNumber_32 : decode cX9_stepOverNumber 32 = .ok (.aload_n 0, 1) := by decide +kernel
theorem dX9_stepOverNumber_33 : decode cX9_stepOverNumber 33 = .ok (.getfield 28, 3) := by decide +kernel
theorem dX9_stepOverNumber_36 : decode cX9_stepOverNumber 36 = .ok (.bipush 10, 2) := by decide +kernel
theorem dX9_stepOverNumber_38 : decode cX9_stepOverNumber 38 = .ok (.imul, 1) := by decide +kernel
theorem dX9_stepOverNumber_39 : decode cX9_stepOverNumber 39 = .ok (.aload_n 0, 1) := by decide +kernel
theorem dX9_stepOverNumber_40 : decode cX9_stepOverNumber 40 = .ok (.getfield 9, 3) := by decide +kernel
theorem dX9_stepOverNumber_43 : decode cX9_stepOverNumber 43 = .ok (.aload_n 0, 1) := by decide +kernel
theorem dX9_stepOverNumber_44 : decode cX9_stepOverNumber 44 = .ok (.getfield 19, 3) := by decide +kernel
theorem dX9_stepOverNumber_47 : decode cX9_stepOverNumber 47 = .ok (.iaload, 1) := by decide +kernel
theorem dX9_stepOverNumber_48 : decode cX9_stepOverNumber 48 = .ok (.iadd, 1) := by decide +kernel
theorem dX9_stepOverNumber_49 : decode cX9_stepOverNumber 49 = .ok (.bipush 48, 2) := by decide +kernel
theorem dX9_stepOverNumber_51 : decode cX9_stepOverNumber 51 = .ok (.isub, 1) := by decide +kernel
theorem dX9_stepOverNumber_52 : decode cX9_stepOverNumber 52 = .ok (.putfield 28, 3) := by decide +kernel
theorem dX9_stepOverNumber_55 : decode cX9_stepOverNumber 55 = .ok (.aload_n 0, 1) := by decide +kernel
theorem dX9_stepOverNumber_56 : decode cX9_stepOverNumber 56 = .ok (.dup, 1) := by decide +kernel
theorem dX9_stepOverNumber_57 : decode cX9_stepOverNumber 57 = .ok (.getfield 19, 3) := by decide +kernel
theorem dX9_stepOverNumber_60 : decode cX9_stepOverNumber 60 = .ok (.iconst 1, 1) := by decide +kernel
theorem dX9_stepOverNumber_61 : decode cX9_stepOverNumber 61 = .ok (.iadd, 1) := by decide +kernel
theorem dX9_stepOverNumber_62 : decode cX9_stepOverNumber 62 = .ok (.putfield 19, 3) := by decide +kernel
theorem dX9_stepOverNumber_65 : decode cX9_stepOverNumber 65 = .ok (.goto (-60), 3) := by decide +kernel
theorem dX9_stepOverNumber_68 : decode cX9_stepOverNumber 68 = .ok (.aload_n 0, 1) := by decide +kernel
theorem dX9_stepOverNumber_69 : decode cX9_stepOverNumber 69 = .ok (.getfield 19, 3) := by decide +kernel
theorem dX9_stepOverNumber_72 : decode cX9_stepOverNumber 72 = .ok (.aload_n 0, 1) := by decide +kernel
theorem dX9_stepOverNumber_73 : decode cX9_stepOverNumber 73 = .ok (.getfield 22, 3) := by decide +kernel
theorem dX9_stepOverNumber_76 : decode cX9_stepOverNumber 76 = .ok (.isub, 1) := by decide +kernel
theorem dX9_stepOverNumber_77 : decode cX9_stepOverNumber 77 = .ok (.istore_n 1, 1) := by decide +kernel
theorem dX9_stepOverNumber_78 : decode cX9_stepOverNumber 78 = .ok (.iload_n 1, 1) := by decide +kernel
theorem dX9_stepOverNumber_79 : decode cX9_stepOverNumber 79 = .ok (.iconst 1, 1) := by decide +kernel
theorem dX9_stepOverNumber_80 : decode cX9_stepOverNumber 80 = .ok (.if_icmp .eq 22, 3) := by decide +kernel
theorem dX9_stepOverNumber_83 : decode cX9_stepOverNumber 83 = .ok (.iload_n 1, 1) := by decide +kernel
theorem dX9_stepOverNumber_84 : decode cX9_stepOverNumber 84 = .ok (.iconst 2, 1) := by decide +kernel
theorem dX9_stepOverNumber_85 : decode cX9_stepOverNumber 85 = .ok (.if_icmp .ne 21, 3) := by decide +kernel
theorem dX9_stepOverNumber_88 : decode cX9_stepOverNumber 88 = .ok (.aload_n 0, 1) := by decide +kernel
theorem dX9_stepOverNumber_89 : decode cX9_stepOverNumber 89 = .ok (.getfield 9, 3) := by decide +kernel
theorem dX9_stepOverNumber_92 : decode cX9_stepOverNumber 92 = .ok (.aload_n 0, 1) := by decide +kernel
theorem dX9_stepOverNumber_93 : decode cX9_stepOverNumber 93 = .ok (.getfield 22, 3) := by decide +kernel
theorem dX9_stepOverNumber_96 : decode cX9_stepOverNumber 96 = .ok (.iaload, 1) := by decide +kernel
theorem dX9_stepOverNumber_97 : decode cX9_stepOverNumber 97 = .ok (.bipush 48, 2) := by decide +kernel
theorem dX9_stepOverNumber_99 : decode cX9_stepOverNumber 99 = .ok (.if_icmp .eq 7, 3) := by decide +kernel
theorem dX9_stepOverNumber_102 : decode cX9_stepOverNumber 102 = .ok (.iconst 1, 1) := by decide +kernel
theorem dX9_stepOverNumber_103 : decode cX9_stepOverNumber 103 = .ok (.goto 4, 3) := by decide +kernel
theorem dX9_stepOverNumber_106 : decode cX9_stepOverNumber 106 = .ok (.iconst 0, 1) := by decide +kernel
theorem dX9_stepOverNumber_107 : decode cX9_stepOverNumber 107 = .ok (.istore_n 2, 1) := by decide +kernel
theorem dX9_stepOverNumber_108 : decode cX9_stepOverNumber 108 = .ok (.aload_n 0, 1) := by decide +kernel
theorem dX9_stepOverNumber_109 : decode cX9_stepOverNumber 109 = .ok (.iload_n 2, 1) := by decide +kernel
theorem dX9_stepOverNumber_110 : decode cX9_stepOverNumber 110 = .ok (.ifCond .eq 7, 3) := by decide +kernel
theorem dX9_stepOverNumber_113 : decode cX9_stepOverNumber 113 = .ok (.iconst 1, 1) := by decide +kernel
theorem dX9_stepOverNumber_114 : decode cX9_stepOverNumber 114 = .ok (.goto 4, 3) := by decide +kernel
theorem dX9_stepOverNumber_117 : decode cX9_stepOverNumber 117 = .ok (.iconst 2, 1) := by decide +kernel
theorem dX9_stepOverNumber_118 : decode cX9_stepOverNumber 118 = .ok (.putfield 25, 3) := by decide +kernel
theorem dX9_stepOverNumber_121 : decode cX9_stepOverNumber 121 = .ok (.return_, 1) := by decide +kernel
theorem dX9_isDigit_0 : decode cX9_isDigit 0 = .ok (.iload_n 0, 1) := by decide +kernel
theorem dX9_isDigit_1 : decode cX9_isDigit 1 = .ok (.bipush 48, 2) := by decide +kernel
theorem dX9_isDigit_3 : decode cX9_isDigit 3 = .ok (.bipush 57, 2) := by decide +kernel
theorem dX9_isDigit_5 : decode cX9_isDigit 5 = .ok (.invokestatic 74, 3) := by decide +kernel
theorem dX9_isDigit_8 : decode cX9_isDigit 8 = .ok (.ireturn, 1) := by decide +kernel
theorem dX9_isMark_0 : decode cX9_isMark 0 = .ok (.iload_n 0, 1) := by decide +kernel
theorem dX9_isMark_1 : decode cX9_isMark 1 = .ok (.bipush 98, 2) := by decide +kernel
theorem dX9_isMark_3 : decode cX9_isMark 3 = .ok (.if_icmp .eq 21, 3) := by decide +kernel
theorem dX9_isMark_6 : decode cX9_isMark 6 = .ok (.iload_n 0, 1) := by decide +kernel
theorem dX9_isMark_7 : decode cX9_isMark 7 = .ok (.bipush 112, 2) := by decide +kernel
theorem dX9_isMark_9 : decode cX9_isMark 9 = .ok (.if_icmp .eq 15, 3) := by decide +kernel
theorem dX9_isMark_12 : decode cX9_isMark 12 = .ok (.iload_n 0, 1) := by decide +kernel
theorem dX9_isMark_13 : decode cX9_isMark 13 = .ok (.bipush 99, 2) := by decide +kernel
theorem dX9_isMark_15 : decode cX9_isMark 15 = .ok (.if_icmp .eq 9, 3) := by decide +kernel
theorem dX9_isMark_18 : decode cX9_isMark 18 = .ok (.iload_n 0, 1) := by decide +kernel
theorem dX9_isMark_19 : decode cX9_isMark 19 = .ok (.bipush 59, 2) := by decide +kernel
theorem dX9_isMark_21 : decode cX9_isMark 21 = .ok (.if_icmp .ne 7, 3) := by decide +kernel
theorem dX9_isMark_24 : decode cX9_isMark 24 = .ok (.iconst 1, 1) := by decide +kernel
theorem dX9_isMark_25 : decode cX9_isMark 25 = .ok (.goto 4, 3) := by decide +kernel
theorem dX9_isMark_28 : decode cX9_isMark 28 = .ok (.iconst 0, 1) := by decide +kernel
theorem dX9_isMark_29 : decode cX9_isMark 29 = .ok (.ireturn, 1) := by decide +kernel
theorem dX10_init_0 : decode cX10_init 0 = .ok (.aload_n 0, 1) := by decide +kernel
theorem dX10_init_1 : decode cX10_init 1 = .ok (.invokespecial 3, 3) := by decide +kernel
theorem dX10_init_4 : decode cX10_init 4 = .ok (.aload_n 0, 1) := by decide +kernel
theorem dX10_init_5 : decode cX10_init 5 = .ok (.iconst 0, 1) := by decide +kernel
theorem dX10_init_6 : decode cX10_init 6 = .ok (.putfield 9, 3) := by decide +kernel
theorem dX10_init_9 : decode cX10_init 9 = .ok (.aload_n 0, 1) := by decide +kernel
theorem dX10_init_10 : decode cX10_init 10 = .ok (.iconst 0, 1) := by decide +kernel
theorem dX10_init_11 : decode cX10_init 11 = .ok (.putfield 15, 3) := by decide +kernel
theorem dX10_init_14 : decode cX10_init 14 = .ok (.aload_n 0, 1) := by decide +kernel
theorem dX10_init_15 : decode cX10_init 15 = .ok (.iconst 0, 1) := by decide +kernel
theorem dX10_init_16 : decode cX10_init 16 = .ok (.putfield 18, 3) := by decide +kernel
theorem dX10_init_19 : decode cX10_init 19 = .ok (.aload_n 0, 1) := by decide +kernel
theorem dX10_init_20 : decode cX10_init 20 = .ok (.bipush 8, 2) := by decide +kernel
theorem dX10_init_22 : decode cX10_init 22 = .ok (.newarray .int, 2) := by decide +kernel
theorem dX10_init_24 : decode cX10_init 24 = .ok (.putfield 21, 3) := by decide +kernel
theorem dX10_init_27 : decode cX10_init 27 = .ok (.aload_n 0, 1) := by decide +kernel
theorem dX10_init_28 : decode cX10_init 28 = .ok (.bipush 8, 2) := by decide +kernel
theorem dX10_init_30 : decode cX10_init 30 = .ok (.newarray .int, 2) := by decide +kernel
theorem dX10_init_32 : decode cX10_init 32 = .ok (.putfield 25, 3) := by decide +kernel
theorem dX10_init_35 : decode cX10_init 35 = .ok (.aload_n 0, 1) := by decide +kernel
theorem dX10_init_36 : decode cX10_init 36 = .ok (.bipush 8, 2) := by decide +kernel
theorem dX10_init_38 : decode cX10_init 38 = .ok (.newarray .int, 2) := by decide +kernel
theorem dX10_init_40 : decode cX10_init 40 = .ok (.putfield 28, 3) := by decide +kernel
theorem dX10_init_43 : decode cX10_init 43 = .ok (.aload_n 0, 1) := by decide +kernel
theorem dX10_init_44 : decode cX10_init 44 = .ok (.bipush 6, 2) := by decide +kernel
theorem dX10_init_46 : decode cX10_init 46 = .ok (.newarray .int, 2) := by decide +kernel
theorem dX10_init_48 : decode cX10_init 48 = .ok (.putfield 31, 3) := by decide +kernel
theorem dX10_init_51 : decode cX10_init 51 = .ok (.aload_n 0, 1) := by decide +kernel
theorem dX10_init_52 : decode cX10_init 52 = .ok (.bipush 12, 2) := by decide +kernel
theorem dX10_init_54 : decode cX10_init 54 = .ok (.newarray .int, 2) := by decide +kernel
theorem dX10_init_56 : decode cX10_init 56 = .ok (.putfield 34, 3) := by decide +kernel
theorem dX10_init_59 : decode cX10_init 59 = .ok (.aload_n 0, 1) := by decide +kernel
theorem dX10_init_60 : decode cX10_init 60 = .ok (.bipush 12, 2) := by decide +kernel
theorem dX10_init_62 : decode cX10_init 62 = .ok (.newarray .int, 2) := by decide +kernel
theorem dX10_init_64 : decode cX10_init 64 = .ok (.putfield 37, 3) := by decide +kernel
theorem dX10_init_67 : decode cX10_init 67 = .ok (.aload_n 0, 1) := by decide +kernel
theorem dX10_init_68 : decode cX10_init 68 = .ok (.iconst 5, 1) := by decide +kernel
theorem dX10_init_69 : decode cX10_init 69 = .ok (.newarray .int, 2) := by decide +kernel
theorem dX10_init_71 : decode cX10_init 71 = .ok (.putfield 40, 3) := by decide +kernel
theorem dX10_init_74 : decode cX10_init 74 = .ok (.aload_n 0, 1) := by decide +kernel
theorem dX10_init_75 : decode cX10_init 75 = .ok (.iconst 5, 1) := by decide +kernel
theorem dX10_init_76 : decode cX10_init 76 = .ok (.newarray .int, 2) := by decide +kernel
theorem dX10_init_78 : decode cX10_init 78 = .ok (.putfield 43, 3) := by decide +kernel
theorem dX10_init_81 : decode cX10_init 81 = .ok (.return_, 1) := by decide +kernel
theorem dX10_strip_0 : decode cX10_strip 0 = .ok (.aload_n 0, 1) := by decide +kernel
theorem dX10_strip_1 : decode cX10_strip 1 = .ok (.iconst 0, 1) := by decide +kernel
theorem dX10_strip_2 : decode cX10_strip 2 = .ok (.putfield 9, 3) := by decide +kernel
theorem dX10_strip_5 : decode cX10_strip 5 = .ok (.aload_n 0, 1) := by decide +kernel
theorem dX10_strip_6 : decode cX10_strip 6 = .ok (.iconst 0, 1) := by decide +kernel
theorem dX10_strip_7 : decode cX10_strip 7 = .ok (.putfield 15, 3) := by decide +kernel
theorem dX10_strip_10 : decode cX10_strip 10 = .ok (.aload_n 0, 1) := by decide +kernel
theorem dX10_strip_11 : decode cX10_strip 11 = .ok (.iconst 0, 1) := by decide +kernel
theorem dX10_strip_12 : decode cX10_strip 12 = .ok (.putfield 18, 3) := by decide +kernel
theorem dX10_strip_15 : decode cX10_strip 15 = .ok (.return_, 1) := by decide +kernel
theorem dX10_hasRoomFor_0 : decode cX10_hasRoomFor 0 = .ok (.iload_n 1, 1) := by decide +kernel
theorem dX10_hasRoomFor_1 : decode cX10_hasRoomFor 1 = .ok (.lookupswitch 79 #[(98, 35), (99, 65), (112, 50)], 35) := by decide +kernel
theorem dX10_hasRoomFor_36 : decode cX10_hasRoomFor 36 = .ok (.aload_n 0, 1) := by decide +kernel
theorem dX10_hasRoomFor_37 : decode cX10_hasRoomFor 37 = .ok (.getfield 9, 3) := by decide +kernel
theorem dX10_hasRoomFor_40 : decode cX10_hasRoomFor 40 = .ok (.bipush 8, 2) := by decide +kernel
theorem dX10_hasRoomFor_42 : decode cX10_hasRoomFor 42 = .ok (.if_icmp .ge 7, 3) := by decide +kernel
theorem dX10_hasRoomFor_45 : decode cX10_hasRoomFor 45 = .ok (.iconst 1, 1) := by decide +kernel
theorem dX10_hasRoomFor_46 : decode cX10_hasRoomFor 46 = .ok (.goto 4, 3) := by decide +kernel
theorem dX10_hasRoomFor_49 : decode cX10_hasRoomFor 49 = .ok (.iconst 0, 1) := by decide +kernel
theorem dX10_hasRoomFor_50 : decode cX10_hasRoomFor 50 = .ok (.ireturn, 1) := by decide +kernel
theorem dX10_hasRoomFor_51 : decode cX10_hasRoomFor 51 = .ok (.aload_n 0, 1) := by decide +kernel
theorem dX10_hasRoomFor_52 : decode cX10_hasRoomFor 52 = .ok (.getfield 15, 3) := by decide +kernel
theorem dX10_hasRoomFor_55 : decode cX10_hasRoomFor 55 = .ok (.bipush 6, 2) := by decide +kernel
theorem dX10_hasRoomFor_57 : decode cX10_hasRoomFor 57 = .ok (.if_icmp .ge 7, 3) := by decide +kernel
theorem dX10_hasRoomFor_60 : decode cX10_hasRoomFor 60 = .ok (.iconst 1, 1) := by decide +kernel
theorem dX10_hasRoomFor_61 : decode cX10_hasRoomFor 61 = .ok (.goto 4, 3) := by decide +kernel
theorem dX10_hasRoomFor_64 : decode cX10_hasRoomFor 64 = .ok (.iconst 0, 1) := by decide +kernel
theorem dX10_hasRoomFor_65 : decode cX10_hasRoomFor 65 = .ok (.ireturn, 1) := by decide +kernel
theorem dX10_hasRoomFor_66 : decode cX10_hasRoomFor 66 = .ok (.aload_n 0, 1) := by decide +kernel
theorem dX10_hasRoomFor_67 : decode cX10_hasRoomFor 67 = .ok (.getfield 18, 3) := by decide +kernel
theorem dX10_hasRoomFor_70 : decode cX10_hasRoomFor 70 = .ok (.iconst 5, 1) := by decide +kernel
theorem dX10_hasRoomFor_71 : decode cX10_hasRoomFor 71 = .ok (.if_icmp .ge 7, 3) := by decide +kernel
theorem dX10_hasRoomFor_74 : decode cX10_hasRoomFor 74 = .ok (.iconst 1, 1) := by decide +kernel
theorem dX10_hasRoomFor_75 : decode cX10_hasRoomFor 75 = .ok (.goto 4, 3) := by decide +kernel
theorem dX10_hasRoomFor_78 : decode cX10_hasRoomFor 78 = .ok (.iconst 0, 1) := by decide +kernel
theorem dX10_hasRoomFor_79 : decode cX10_hasRoomFor 79 = .ok (.ireturn, 1) := by decide +kernel
theorem dX10_hasRoomFor_80 : decode cX10_hasRoomFor 80 = .ok (.iconst 0, 1) := by decide +kernel
theorem dX10_hasRoomFor_81 : decode cX10_hasRoomFor 81 = .ok (.ireturn, 1) := by decide +kernel
theorem dX10_take_0 : decode cX10_take 0 = .ok (.aload_n 0, 1) := by decide +kernel
theorem dX10_take_1 : decode cX10_take 1 = .ok (.iload_n 1, 1) := by decide +kernel
theorem dX10_take_2 : decode cX10_take 2 = .ok (.invokevirtual 46, 3) := by decide +kernel
theorem dX10_take_5 : decode cX10_take 5 = .ok (.ifCond .eq 9, 3) := by decide +kernel
theorem dX10_take_8 : decode cX10_take 8 = .ok (.aload_n 2, 1) := by decide +kernel
theorem dX10_take_9 : decode cX10_take 9 = .ok (.arraylength, 1) := by decide +kernel
theorem dX10_take_10 : decode cX10_take 10 = .ok (.iconst 5, 1) := by decide +kernel
theorem dX10_take_11 : decode cX10_take 11 = .ok (.if_icmp .ge 4, 3) := by decide +kernel
theorem dX10_take_14 : decode cX10_take 14 = .ok (.return_, 1) := by decide +kernel
theorem dX10_take_15 : decode cX10_take 15 = .ok (.iload_n 1, 1) := by decide +kernel
theorem dX10_take_16 : decode cX10_take 16 = .ok (.bipush 98, 2) := by decide +kernel
theorem dX10_take_18 : decode cX10_take 18 = .ok (.if_icmp .ne 52, 3) := by decide +kernel
theorem dX10_take_21 : decode cX10_take 21 = .ok (.aload_n 0, 1) := by decide +kernel
theorem dX10_take_22 : decode cX10_take 22 = .ok (.getfield 21, 3) := by decide +kernel
theorem dX10_take_25 : decode cX10_take 25 = .ok (.aload_n 0, 1) := by decide +kernel
theorem dX10_take_26 : decode cX10_take 26 = .ok (.getfield 9, 3) := by decide +kernel
theorem dX10_take_29 : decode cX10_take 29 = .ok (.aload_n 2, 1) := by decide +kernel
theorem dX10_take_30 : decode cX10_take 30 = .ok (.iconst 0, 1) := by decide +kernel
theorem dX10_take_31 : decode cX10_take 31 = .ok (.iaload, 1) := by decide +kernel
theorem dX10_take_32 : decode cX10_take 32 = .ok (.iastore, 1) := by decide +kernel
theorem dX10_take_33 : decode cX10_take 33 = .ok (.aload_n 0, 1) := by decide +kernel
theorem dX10_take_34 : decode cX10_take 34 = .ok (.getfield 25, 3) := by decide +kernel
theorem dX10_take_37 : decode cX10_take 37 = .ok (.aload_n 0, 1) := by decide +kernel
theorem dX10_take_38 : decode cX10_take 38 = .ok (.getfield 9, 3) := by decide +kernel
theorem dX10_take_41 : decode cX10_take 41 = .ok (.aload_n 2, 1) := by decide +kernel
theorem dX10_take_42 : decode cX10_take 42 = .ok (.iconst 1, 1) := by decide +kernel
theorem dX10_take_43 : decode cX10_take 43 = .ok (.iaload, 1) := by decide +kernel
theorem dX10_take_44 : decode cX10_take 44 = .ok (.iastore, 1) := by decide +kernel
theorem dX10_take_45 : decode cX10_take 45 = .ok (.aload_n 0, 1) := by decide +kernel
theorem dX10_take_46 : decode cX10_take 46 = .ok (.getfield 28, 3) := by decide +kernel
theorem dX10_take_49 : decode cX10_take 49 = .ok (.aload_n 0, 1) := by decide +kernel
theorem dX10_take_50 : decode cX10_take 50 = .ok (.getfield 9, 3) := by decide +kernel
theorem dX10_take_53 : decode cX10_take 53 = .ok (.aload_n 2, 1) := by decide +kernel
theorem dX10_take_54 : decode cX10_take 54 = .ok (.iconst 2, 1) := by decide +kernel
theorem dX10_take_55 : decode cX10_take 55 = .ok (.iaload, 1) := by decide +kernel
theorem dX10_take_56 : decode cX10_take 56 = .ok (.iastore, 1) := by decide +kernel
theorem dX10_take_57 : decode cX10_take 57 = .ok (.aload_n 0, 1) := by decide +kernel
theorem dX10_take_58 : decode cX10_take 58 = .ok (.dup, 1) := by decide +kernel
theorem dX10_take_59 : decode cX10_take 59 = .ok (.getfield 9, 3) := by decide +kernel
theorem dX10_take_62 : decode cX10_take 62 = .ok (.iconst 1, 1) := by decide +kernel
theorem dX10_take_63 : decode cX10_take 63 = .ok (.iadd, 1) := by decide +kernel
theorem dX10_take_64 : decode cX10_take 64 = .ok (.putfield 9, 3) := by decide +kernel
theorem dX10_take_67 : decode cX10_take 67 = .ok (.goto 128, 3) := by decide +kernel
theorem dX10_take_70 : decode cX10_take 70 = .ok (.iload_n 1, 1) := by decide +kernel
theorem dX10_take_71 : decode cX10_take 71 = .ok (.bipush 112, 2) := by decide +kernel
theorem dX10_take_73 : decode cX10_take 73 = .ok (.if_icmp .ne 88, 3) := by decide +kernel
theorem dX10_take_76 : decode cX10_take 76 = .ok (.aload_n 0, 1) := by decide +kernel
theorem dX10_take_77 : decode cX10_take 77 = .ok (.getfield 34, 3) := by decide +kernel
theorem dX10_take_80 : decode cX10_take 80 = .ok (.iconst 2, 1) := by decide +kernel
theorem dX10_take_81 : decode cX10_take 81 = .ok (.aload_n 0, 1) := by decide +kernel
theorem dX10_take_82 : decode cX10_take 82 = .ok (.getfield 15, 3) := by decide +kernel
theorem dX10_take_85 : decode cX10_take 85 = .ok (.imul, 1) := by decide +kernel
theorem dX10_take_86 : decode cX10_take 86 = .ok (.aload_n 2, 1) := by decide +kernel
theorem dX10_take_87 : decode cX10_take 87 = .ok (.iconst 0, 1) := by decide +kernel
theorem dX10_take_88 : decode cX10_take 88 = .ok (.iaload, 1) := by decide +kernel
theorem dX10_take_89 : decode cX10_take 89 = .ok (.iastore, 1) := by decide +kernel
theorem dX10_take_90 : decode cX10_take 90 = .ok (.aload_n 0, 1) := by decide +kernel
theorem dX10_take_91 : decode cX10_take 91 = .ok (.getfield 34, 3) := by decide +kernel
theorem dX10_take_94 : decode cX10_take 94 = .ok (.iconst 2, 1) := by decide +kernel
theorem dX10_take_95 : decode cX10_take 95 = .ok (.aload_n 0, 1) := by decide +kernel
theorem dX10_take_96 : decode cX10_take 96 = .ok (.getfield 15, 3) := by decide +kernel
theorem dX10_take_99 : decode cX10_take 99 = .ok (.imul, 1) := by decide +kernel
theorem dX10_take_100 : decode cX10_take 100 = .ok (.iconst 1, 1) := by decide +kernel
theorem dX10_take_101 : decode cX10_take 101 = .ok (.iadd, 1) := by decide +kernel
theorem dX10_take_102 : decode cX10_take 102 = .ok (.aload_n 2, 1) := by decide +kernel
theorem dX10_take_103 : decode cX10_take 103 = .ok (.iconst 1, 1) := by decide +kernel
theorem dX10_take_104 : decode cX10_take 104 = .ok (.iaload, 1) := by decide +kernel
theorem dX10_take_105 : decode cX10_take 105 = .ok (.iastore, 1) := by decide +kernel
theorem dX10_take_106 : decode cX10_take 106 = .ok (.aload_n 0, 1) := by decide +kernel
theorem dX10_take_107 : decode cX10_take 107 = .ok (.getfield 31, 3) := by decide +kernel
theorem dX10_take_110 : decode cX10_take 110 = .ok (.aload_n 0, 1) := by decide +kernel
theorem dX10_take_111 : decode cX10_take 111 = .ok (.getfield 15, 3) := by decide +kernel
theorem dX10_take_114 : decode cX10_take 114 = .ok (.aload_n 2, 1) := by decide +kernel
theorem dX10_take_115 : decode cX10_take 115 = .ok (.iconst 2, 1) := by decide +kernel
theorem dX10_take_116 : decode cX10_take 116 = .ok (.iaload, 1) := by decide +kernel
theorem dX10_take_117 : decode cX10_take 117 = .ok (.iastore, 1) := by decide +kernel
theorem dX10_take_118 : decode cX10_take 118 = .ok (.aload_n 0, 1) := by decide +kernel
theorem dX10_take_119 : decode cX10_take 119 = .ok (.getfield 37, 3) := by decide +kernel
theorem dX10_take_122 : decode cX10_take 122 = .ok (.iconst 2, 1) := by decide +kernel
theorem dX10_take_123 : decode cX10_take 123 = .ok (.aload_n 0, 1) := by decide +kernel
theorem dX10_take_124 : decode cX10_take 124 = .ok (.getfield 15, 3) := by decide +kernel
theorem dX10_take_127 : decode cX10_take 127 = .ok (.imul, 1) := by decide +kernel
theorem dX10_take_128 : decode cX10_take 128 = .ok (.aload_n 2, 1) := by decide +kernel
theorem dX10_take_129 : decode cX10_take 129 = .ok (.iconst 3, 1) := by decide +kernel
theorem dX10_take_130 : decode cX10_take 130 = .ok (.iaload, 1) := by decide +kernel
theorem dX10_take_131 : decode cX10_take 131 = .ok (.iastore, 1) := by decide +kernel
theorem dX10_take_132 : decode cX10_take 132 = .ok (.aload_n 0, 1) := by decide +kernel
theorem dX10_take_133 : decode cX10_take 133 = .ok (.getfield 37, 3) := by decide +kernel
theorem dX10_take_136 : decode cX10_take 136 = .ok (.iconst 2, 1) := by decide +kernel
theorem dX10_take_137 : decode cX10_take 137 = .ok (.aload_n 0, 1) := by decide +kernel
theorem dX10_take_138 : decode cX10_take 138 = .ok (.getfield 15, 3) := by decide +kernel
theorem dX10_take_141 : decode cX10_take 141 = .ok (.imul, 1) := by decide +kernel
theorem dX10_take_142 : decode cX10_take 142 = .ok (.iconst 1, 1) := by decide +kernel
theorem dX10_take_143 : decode cX10_take 143 = .ok (.iadd, 1) := by decide +kernel
theorem dX10_take_144 : decode cX10_take 144 = .ok (.aload_n 2, 1) := by decide +kernel
theorem dX10_take_145 : decode cX10_take 145 = .ok (.iconst 4, 1) := by decide +kernel
theorem dX10_take_146 : decode cX10_take 146 = .ok (.iaload, 1) := by decide +kernel
theorem dX10_take_147 : decode cX10_take 147 = .ok (.iastore, 1) := by decide +kernel
theorem dX10_take_148 : decode cX10_take 148 = .ok (.aload_n 0, 1) := by decide +kernel
theorem dX10_take_149 : decode cX10_take 149 = .ok (.dup, 1) := by decide +kernel
theorem dX10_take_150 : decode cX10_take 150 = .ok (.getfield 15, 3) := by decide +kernel
theorem dX10_take_153 : decode cX10_take 153 = .ok (.iconst 1, 1) := by decide +kernel
theorem dX10_take_154 : decode cX10_take 154 = .ok (.iadd, 1) := by decide +kernel
theorem dX10_take_155 : decode cX10_take 155 = .ok (.putfield 15, 3) := by decide +kernel
theorem dX10_take_158 : decode cX10_take 158 = .ok (.goto 37, 3) := by decide +kernel
theorem dX10_take_161 : decode cX10_take 161 = .ok (.aload_n 0, 1) := by decide +kernel
theorem dX10_take_162 : decode cX10_take 162 = .ok (.getfield 40, 3) := by decide +kernel
theorem dX10_take_165 : decode cX10_take 165 = .ok (.aload_n 0, 1) := by decide +kernel
theorem dX10_take_166 : decode cX10_take 166 = .ok (.getfield 18, 3) := by decide +kernel
theorem dX10_take_169 : decode cX10_take 169 = .ok (.aload_n 2, 1) := by decide +kernel
theorem dX10_take_170 : decode cX10_take 170 = .ok (.iconst 0, 1) := by decide +kernel
theorem dX10_take_171 : decode cX10_take 171 = .ok (.iaload, 1) := by decide +kernel
theorem dX10_take_172 : decode cX10_take 172 = .ok (.iastore, 1) := by decide +kernel
theorem dX10_take_173 : decode cX10_take 173 = .ok (.aload_n 0, 1) := by decide +kernel
theorem dX10_take_174 : decode cX10_take 174 = .ok (.getfield 43, 3) := by decide +kernel
theorem dX10_take_177 : decode cX10_take 177 = .ok (.aload_n 0, 1) := by decide +kernel
theorem dX10_take_178 : decode cX10_take 178 = .ok (.getfield 18, 3) := by decide +kernel
theorem dX10_take_181 : decode cX10_take 181 = .ok (.aload_n 2, 1) := by decide +kernel
theorem dX10_take_182 : decode cX10_take 182 = .ok (.iconst 1, 1) := by decide +kernel
theorem dX10_take_183 : decode cX10_take 183 = .ok (.iaload, 1) := by decide +kernel
theorem dX10_take_184 : decode cX10_take 184 = .ok (.iastore, 1) := by decide +kernel
theorem dX10_take_185 : decode cX10_take 185 = .ok (.aload_n 0, 1) := by decide +kernel
theorem dX10_take_186 : decode cX10_take 186 = .ok (.dup, 1) := by decide +kernel
theorem dX10_take_187 : decode cX10_take 187 = .ok (.getfield 18, 3) := by decide +kernel
theorem dX10_take_190 : decode cX10_take 190 = .ok (.iconst 1, 1) := by decide +kernel
theorem dX10_take_191 : decode cX10_take 191 = .ok (.iadd, 1) := by decide +kernel
theorem dX10_take_192 : decode cX10_take 192 = .ok (.putfield 18, 3) := by decide +kernel
theorem dX10_take_195 : decode cX10_take 195 = .ok (.return_, 1) := by decide +kernel
theorem dX10_ends_0 : decode cX10_ends 0 = .ok (.iconst 2, 1) := by decide +kernel
theorem dX10_ends_1 : decode cX10_ends 1 = .ok (.aload_n 0, 1) := by decide +kernel
theorem dX10_ends_2 : decode cX10_ends 2 = .ok (.getfield 15, 3) := by decide +kernel
theorem dX10_ends_5 : decode cX10_ends 5 = .ok (.imul, 1) := by decide +kernel
theorem dX10_ends_6 : decode cX10_ends 6 = .ok (.ireturn, 1) := by decide +kernel
theorem dX10_swayAcross_0 : decode cX10_swayAcross 0 = .ok (.aload_n 0, 1) := by decide +kernel
theorem dX10_swayAcross_1 : decode cX10_swayAcross 1 = .ok (.getfield 28, 3) := by decide +kernel
theorem dX10_swayAcross_4 : decode cX10_swayAcross 4 = .ok (.aload_n 0, 1) := by decide +kernel
theorem dX10_swayAcross_5 : decode cX10_swayAcross 5 = .ok (.getfield 34, 3) := by decide +kernel
theorem dX10_swayAcross_8 : decode cX10_swayAcross 8 = .ok (.iconst 2, 1) := by decide +kernel
theorem dX10_swayAcross_9 : decode cX10_swayAcross 9 = .ok (.iload_n 1, 1) := by decide +kernel
theorem dX10_swayAcross_10 : decode cX10_swayAcross 10 = .ok (.imul, 1) := by decide +kernel
theorem dX10_swayAcross_11 : decode cX10_swayAcross 11 = .ok (.iaload, 1) := by decide +kernel
theorem dX10_swayAcross_12 : decode cX10_swayAcross 12 = .ok (.iaload, 1) := by decide +kernel
theorem dX10_swayAcross_13 : decode cX10_swayAcross 13 = .ok (.aload_n 0, 1) := by decide +kernel
theorem dX10_swayAcross_14 : decode cX10_swayAcross 14 = .ok (.getfield 28, 3) := by decide +kernel
theorem dX10_swayAcross_17 : decode cX10_swayAcross 17 = .ok (.aload_n 0, 1) := by decide +kernel
theorem dX10_swayAcross_18 : decode cX10_swayAcross 18 = .ok (.getfield 34, 3) := by decide +kernel
theorem dX10_swayAcross_21 : decode cX10_swayAcross 21 = .ok (.iconst 2, 1) := by decide +kernel
theorem dX10_swayAcross_22 : decode cX10_swayAcross 22 = .ok (.iload_n 1, 1) := by decide +kernel
theorem dX10_swayAcross_23 : decode cX10_swayAcross 23 = .ok (.imul, 1) := by decide +kernel
theorem dX10_swayAcross_24 : decode cX10_swayAcross 24 = .ok (.iconst 1, 1) := by decide +kernel
theorem dX10_swayAcross_25 : decode cX10_swayAcross 25 = .ok (.iadd, 1) := by decide +kernel
theorem dX10_swayAcross_26 : decode cX10_swayAcross 26 = .ok (.iaload, 1) := by decide +kernel
theorem dX10_swayAcross_27 : decode cX10_swayAcross 27 = .ok (.iaload, 1) := by decide +kernel
theorem dX10_swayAcross_28 : decode cX10_swayAcross 28 = .ok (.isub, 1) := by decide +kernel
theorem dX10_swayAcross_29 : decode cX10_swayAcross 29 = .ok (.invokestatic 50, 3) := by decide +kernel
theorem dX10_swayAcross_32 : decode cX10_swayAcross 32 = .ok (.ireturn, 1) := by decide +kernel
theorem dX10_farApart_0 : decode cX10_farApart 0 = .ok (.aload_n 0, 1) := by decide +kernel
theorem dX10_farApart_1 : decode cX10_farApart 1 = .ok (.getfield 21, 3) := by decide +kernel
theorem dX10_farApart_4 : decode cX10_farApart 4 = .ok (.iload_n 1, 1) := by decide +kernel
theorem dX10_farApart_5 : decode cX10_farApart 5 = .ok (.iaload, 1) := by decide +kernel
theorem dX10_farApart_6 : decode cX10_farApart 6 = .ok (.aload_n 0, 1) := by decide +kernel
theorem dX10_farApart_7 : decode cX10_farApart 7 = .ok (.getfield 21, 3) := by decide +kernel
theorem dX10_farApart_10 : decode cX10_farApart 10 = .ok (.iload_n 2, 1) := by decide +kernel
theorem dX10_farApart_11 : decode cX10_farApart 11 = .ok (.iaload, 1) := by decide +kernel
theorem dX10_farApart_12 : decode cX10_farApart 12 = .ok (.isub, 1) := by decide +kernel
theorem dX10_farApart_13 : decode cX10_farApart 13 = .ok (.invokestatic 50, 3) := by decide +kernel
theorem dX10_farApart_16 : decode cX10_farApart 16 = .ok (.iconst 2, 1) := by decide +kernel
theorem dX10_farApart_17 : decode cX10_farApart 17 = .ok (.if_icmp .le 7, 3) := by decide +kernel
theorem dX10_farApart_20 : decode cX10_farApart 20 = .ok (.iconst 1, 1) := by decide +kernel
theorem dX10_farApart_21 : decode cX10_farApart 21 = .ok (.goto 4, 3) := by decide +kernel
theorem dX10_farApart_24 : decode cX10_farApart 24 = .ok (.iconst 0, 1) := by decide +kernel
theorem dX10_farApart_25 : decode cX10_farApart 25 = .ok (.ireturn, 1) := by decide +kernel
theorem dX10_weightOf_0 : decode cX10_weightOf 0 = .ok (.iconst 0, 1) := by decide +kernel
theorem dX10_weightOf_1 : decode cX10_weightOf 1 = .ok (.istore_n 2, 1) := by decide +kernel
theorem dX10_weightOf_2 : decode cX10_weightOf 2 = .ok (.iconst 0, 1) := by decide +kernel
theorem dX10_weightOf_3 : decode cX10_weightOf 3 = .ok (.istore_n 3, 1) := by decide +kernel
theorem dX10_weightOf_4 : decode cX10_weightOf 4 = .ok (.iload_n 3, 1) := by decide +kernel
theorem dX10_weightOf_5 : decode cX10_weightOf 5 = .ok (.aload_n 0, 1) := by decide +kernel
theorem dX10_weightOf_6 : decode cX10_weightOf 6 = .ok (.getfield 18, 3) := by decide +kernel
theorem dX10_weightOf_9 : decode cX10_weightOf 9 = .ok (.if_icmp .ge 26, 3) := by decide +kernel
theorem dX10_weightOf_12 : decode cX10_weightOf 12 = .ok (.iload_n 1, 1) := by decide +kernel
theorem dX10_weightOf_13 : decode cX10_weightOf 13 = .ok (.iload_n 3, 1) := by decide +kernel
theorem dX10_weightOf_14 : decode cX10_weightOf 14 = .ok (.ishr, 1) := by decide +kernel
theorem dX10_weightOf_15 : decode cX10_weightOf 15 = .ok (.iconst 1, 1) := by decide +kernel
theorem dX10_weightOf_16 : decode cX10_weightOf 16 = .ok (.iand, 1) := by decide +kernel
theorem dX10_weightOf_17 : decode cX10_weightOf 17 = .ok (.ifCond .eq 12, 3) := by decide +kernel
theorem dX10_weightOf_20 : decode cX10_weightOf 20 = .ok (.iload_n 2, 1) := by decide +kernel
theorem dX10_weightOf_21 : decode cX10_weightOf 21 = .ok (.aload_n 0, 1) := by decide +kernel
theorem dX10_weightOf_22 : decode cX10_weightOf 22 = .ok (.getfield 40, 3) := by decide +kernel
theorem dX10_weightOf_25 : decode cX10_weightOf 25 = .ok (.iload_n 3, 1) := by decide +kernel
theorem dX10_weightOf_26 : decode cX10_weightOf 26 = .ok (.iaload, 1) := by decide +kernel
theorem dX10_weightOf_27 : decode cX10_weightOf 27 = .ok (.iadd, 1) := by decide +kernel
theorem dX10_weightOf_28 : decode cX10_weightOf 28 = .ok (.istore_n 2, 1) := by decide +kernel
theorem dX10_weightOf_29 : decode cX10_weightOf 29 = .ok (.iinc 3 1, 3) := by decide +kernel
theorem dX10_weightOf_32 : decode cX10_weightOf 32 = .ok (.goto (-28), 3) := by decide +kernel
theorem dX10_weightOf_35 : decode cX10_weightOf 35 = .ok (.iload_n 2, 1) := by decide +kernel
theorem dX10_weightOf_36 : decode cX10_weightOf 36 = .ok (.ireturn, 1) := by decide +kernel
theorem dX10_boughsOf_0 : decode cX10_boughsOf 0 = .ok (.iconst 1, 1) := by decide +kernel
theorem dX10_boughsOf_1 : decode cX10_boughsOf 1 = .ok (.aload_n 0, 1) := by decide +kernel
theorem dX10_boughsOf_2 : decode cX10_boughsOf 2 = .ok (.getfield 34, 3) := by decide +kernel
theorem dX10_boughsOf_5 : decode cX10_boughsOf 5 = .ok (.iconst 2, 1) := by decide +kernel
theorem dX10_boughsOf_6 : decode cX10_boughsOf 6 = .ok (.iload_n 1, 1) := by decide +kernel
theorem dX10_boughsOf_7 : decode cX10_boughsOf 7 = .ok (.imul, 1) := by decide +kernel
theorem dX10_boughsOf_8 : decode cX10_boughsOf 8 = .ok (.iaload, 1) := by decide +kernel
theorem dX10_boughsOf_9 : decode cX10_boughsOf 9 = .ok (.ishl, 1) := by decide +kernel
theorem dX10_boughsOf_10 : decode cX10_boughsOf 10 = .ok (.iconst 1, 1) := by decide +kernel
theorem dX10_boughsOf_11 : decode cX10_boughsOf 11 = .ok (.aload_n 0, 1) := by decide +kernel
theorem dX10_boughsOf_12 : decode cX10_boughsOf 12 = .ok (.getfield 34, 3) := by decide +kernel
theorem dX10_boughsOf_15 : decode cX10_boughsOf 15 = .ok (.iconst 2, 1) := by decide +kernel
theorem dX10_boughsOf_16 : decode cX10_boughsOf 16 = .ok (.iload_n 1, 1) := by decide +kernel
theorem dX10_boughsOf_17 : decode cX10_boughsOf 17 = .ok (.imul, 1) := by decide +kernel
theorem dX10_boughsOf_18 : decode cX10_boughsOf 18 = .ok (.iconst 1, 1) := by decide +kernel
theorem dX10_boughsOf_19 : decode cX10_boughsOf 19 = .ok (.iadd, 1) := by decide +kernel
theorem dX10_boughsOf_20 : decode cX10_boughsOf 20 = .ok (.iaload, 1) := by decide +kernel
theorem dX10_boughsOf_21 : decode cX10_boughsOf 21 = .ok (.ishl, 1) := by decide +kernel
theorem dX10_boughsOf_22 : decode cX10_boughsOf 22 = .ok (.ior, 1) := by decide +kernel
theorem dX10_boughsOf_23 : decode cX10_boughsOf 23 = .ok (.ireturn, 1) := by decide +kernel
theorem dX11_init_0 : decode cX11_init 0 = .ok (.aload_n 0, 1) := by decide +kernel
theorem dX11_init_1 : decode cX11_init 1 = .ok (.invokespecial 1, 3) := by decide +kernel
theorem dX11_init_4 : decode cX11_init 4 = .ok (.aload_n 0, 1) := by decide +kernel
theorem dX11_init_5 : decode cX11_init 5 = .ok (.new 7, 3) := by decide +kernel
theorem dX11_init_8 : decode cX11_init 8 = .ok (.dup, 1) := by decide +kernel
theorem dX11_init_9 : decode cX11_init 9 = .ok (.invokespecial 9, 3) := by decide +kernel
theorem dX11_init_12 : decode cX11_init 12 = .ok (.putfield 10, 3) := by decide +kernel
theorem dX11_init_15 : decode cX11_init 15 = .ok (.aload_n 0, 1) := by decide +kernel
theorem dX11_init_16 : decode cX11_init 16 = .ok (.new 16, 3) := by decide +kernel
theorem dX11_init_19 : decode cX11_init 19 = .ok (.dup, 1) := by decide +kernel
theorem dX11_init_20 : decode cX11_init 20 = .ok (.invokespecial 18, 3) := by decide +kernel
theorem dX11_init_23 : decode cX11_init 23 = .ok (.putfield 19, 3) := by decide +kernel
theorem dX11_init_26 : decode cX11_init 26 = .ok (.aload_n 0, 1) := by decide +kernel
theorem dX11_init_27 : decode cX11_init 27 = .ok (.new 23, 3) := by decide +kernel
theorem dX11_init_30 : decode cX11_init 30 = .ok (.dup, 1) := by decide +kernel
theorem dX11_init_31 : decode cX11_init 31 = .ok (.invokespecial 25, 3) := by decide +kernel
theorem dX11_init_34 : decode cX11_init 34 = .ok (.putfield 26, 3) := by decide +kernel
theorem dX11_init_37 : decode cX11_init 37 = .ok (.aload_n 0, 1) := by decide +kernel
theorem dX11_init_38 : decode cX11_init 38 = .ok (.new 30, 3) := by decide +kernel
theorem dX11_init_41 : decode cX11_init 41 = .ok (.dup, 1) := by decide +kernel
theorem dX11_init_42 : decode cX11_init 42 = .ok (.invokespecial 32, 3) := by decide +kernel
theorem dX11_init_45 : decode cX11_init 45 = .ok (.putfield 33, 3) := by decide +kernel
theorem dX11_init_48 : decode cX11_init 48 = .ok (.aload_n 0, 1) := by decide +kernel
theorem dX11_init_49 : decode cX11_init 49 = .ok (.new 37, 3) := by decide +kernel
theorem dX11_init_52 : decode cX11_init 52 = .ok (.dup, 1) := by decide +kernel
theorem dX11_init_53 : decode cX11_init 53 = .ok (.invokespecial 39, 3) := by decide +kernel
theorem dX11_init_56 : decode cX11_init 56 = .ok (.putfield 40, 3) := by decide +kernel
theorem dX11_init_59 : decode cX11_init 59 = .ok (.aload_n 0, 1) := by decide +kernel
theorem dX11_init_60 : decode cX11_init 60 = .ok (.new 44, 3) := by decide +kernel
theorem dX11_init_63 : decode cX11_init 63 = .ok (.dup, 1) := by decide +kernel
theorem dX11_init_64 : decode cX11_init 64 = .ok (.invokespecial 46, 3) := by decide +kernel
theorem dX11_init_67 : decode cX11_init 67 = .ok (.putfield 47, 3) := by decide +kernel
theorem dX11_init_70 : decode cX11_init 70 = .ok (.aload_n 0, 1) := by decide +kernel
theorem dX11_init_71 : decode cX11_init 71 = .ok (.new 51, 3) := by decide +kernel
theorem dX11_init_74 : decode cX11_init 74 = .ok (.dup, 1) := by decide +kernel
theorem dX11_init_75 : decode cX11_init 75 = .ok (.invokespecial 53, 3) := by decide +kernel
theorem dX11_init_78 : decode cX11_init 78 = .ok (.putfield 54, 3) := by decide +kernel
theorem dX11_init_81 : decode cX11_init 81 = .ok (.aload_n 0, 1) := by decide +kernel
theorem dX11_init_82 : decode cX11_init 82 = .ok (.new 58, 3) := by decide +kernel
theorem dX11_init_85 : decode cX11_init 85 = .ok (.dup, 1) := by decide +kernel
theorem dX11_init_86 : decode cX11_init 86 = .ok (.invokespecial 60, 3) := by decide +kernel
theorem dX11_init_89 : decode cX11_init 89 = .ok (.putfield 61, 3) := by decide +kernel
theorem dX11_init_92 : decode cX11_init 92 = .ok (.aload_n 0, 1) := by decide +kernel
theorem dX11_init_93 : decode cX11_init 93 = .ok (.new 65, 3) := by decide +kernel
theorem dX11_init_96 : decode cX11_init 96 = .ok (.dup, 1) := by decide +kernel
theorem dX11_init_97 : decode cX11_init 97 = .ok (.invokespecial 67, 3) := by decide +kernel
theorem dX11_init_100 : decode cX11_init 100 = .ok (.putfield 68, 3) := by decide +kernel
theorem dX11_init_103 : decode cX11_init 103 = .ok (.aload_n 0, 1) := by decide +kernel
theorem dX11_init_104 : decode cX11_init 104 = .ok (.new 72, 3) := by decide +kernel
theorem dX11_init_107 : decode cX11_init 107 = .ok (.dup, 1) := by decide +kernel
theorem dX11_init_108 : decode cX11_init 108 = .ok (.invokespecial 74, 3) := by decide +kernel
theorem dX11_init_111 : decode cX11_init 111 = .ok (.putfield 75, 3) := by decide +kernel
theorem dX11_init_114 : decode cX11_init 114 = .ok (.aload_n 0, 1) := by decide +kernel
theorem dX11_init_115 : decode cX11_init 115 = .ok (.new 79, 3) := by decide +kernel
theorem dX11_init_118 : decode cX11_init 118 = .ok (.dup, 1) := by decide +kernel
theorem dX11_init_119 : decode cX11_init 119 = .ok (.invokespecial 81, 3) := by decide +kernel
theorem dX11_init_122 : decode cX11_init 122 = .ok (.putfield 82, 3) := by decide +kernel
theorem dX11_init_125 : decode cX11_init 125 = .ok (.aload_n 0, 1) := by decide +kernel
theorem dX11_init_126 : decode cX11_init 126 = .ok (.new 79, 3) := by decide +kernel
theorem dX11_init_129 : decode cX11_init 129 = .ok (.dup, 1) := by decide +kernel
theorem dX11_init_130 : decode cX11_init 130 = .ok (.invokespecial 81, 3) := by decide +kernel
theorem dX11_init_133 : decode cX11_init 133 = .ok (.putfield 86, 3) := by decide +kernel
theorem dX11_init_136 : decode cX11_init 136 = .ok (.aload_n 0, 1) := by decide +kernel
theorem dX11_init_137 : decode cX11_init 137 = .ok (.lconst 0, 1) := by decide +kernel
theorem dX11_init_138 : decode cX11_init 138 = .ok (.putfield 89, 3) := by decide +kernel
theorem dX11_init_141 : decode cX11_init 141 = .ok (.return_, 1) := by decide +kernel
theorem dX11_type_0 : decode cX11_type 0 = .ok (.iload_n 1, 1) := by decide +kernel
theorem dX11_type_1 : decode cX11_type 1 = .ok (.iconst 0, 1) := by decide +kernel
theorem dX11_type_2 : decode cX11_type 2 = .ok (.sipush 255, 3) := by decide +kernel
theorem dX11_type_5 : decode cX11_type 5 = .ok (.invokestatic 93, 3) := by decide +kernel
theorem dX11_type_8 : decode cX11_type 8 = .ok (.ifCond .ne 5, 3) := by decide +kernel
theorem dX11_type_11 : decode cX11_type 11 = .ok (.iconst (-1), 1) := by decide +kernel
theorem dX11_type_12 : decode cX11_type 12 = .ok (.ireturn, 1) := by decide +kernel
theorem dX11_type_13 : decode cX11_type 13 = .ok (.aload_n 0, 1) := by decide +kernel
theorem dX11_type_14 : decode cX11_type 14 = .ok (.getfield 10, 3) := by decide +kernel
theorem dX11_type_17 : decode cX11_type 17 = .ok (.iload_n 1, 1) := by decide +kernel
theorem dX11_type_18 : decode cX11_type 18 = .ok (.invokevirtual 97, 3) := by decide +kernel
theorem dX11_type_21 : decode cX11_type 21 = .ok (.ifCond .eq 13, 3) := by decide +kernel
theorem dX11_type_24 : decode cX11_type 24 = .ok (.aload_n 0, 1) := by decide +kernel
theorem dX11_type_25 : decode cX11_type 25 = .ok (.getfield 10, 3) := by decide +kernel
theorem dX11_type_28 : decode cX11_type 28 = .ok (.getfield 101, 3) := by decide +kernel
theorem dX11_type_31 : decode cX11_type 31 = .ok (.goto 5, 3) := by decide +kernel
theorem dX11_type_34 : decode cX11_type 34 = .ok (.bipush (-3), 2) := by decide +kernel
theorem dX11_type_36 : decode cX11_type 36 = .ok (.ireturn, 1) := by decide +kernel
theorem dX11_clear_0 : decode cX11_clear 0 = .ok (.aload_n 0, 1) := by decide +kernel
theorem dX11_clear_1 : decode cX11_clear 1 = .ok (.getfield 10, 3) := by decide +kernel
theorem dX11_clear_4 : decode cX11_clear 4 = .ok (.getfield 101, 3) := by decide +kernel
theorem dX11_clear_7 : decode cX11_clear 7 = .ok (.istore_n 1, 1) := by decide +kernel
theorem dX11_clear_8 : decode cX11_clear 8 = .ok (.aload_n 0, 1) := by decide +kernel
theorem dX11_clear_9 : decode cX11_clear 9 = .ok (.getfield 10, 3) := by decide +kernel
theorem dX11_clear_12 : decode cX11_clear 12 = .ok (.iconst 0, 1) := by decide +kernel
theorem dX11_clear_13 : decode cX11_clear 13 = .ok (.putfield 101, 3) := by decide +kernel
theorem dX11_clear_16 : decode cX11_clear 16 = .ok (.iload_n 1, 1) := by decide +kernel
theorem dX11_clear_17 : decode cX11_clear 17 = .ok (.ireturn, 1) := by decide +kernel
theorem dX11_tree_0 : decode cX11_tree 0 = .ok (.aload_n 0, 1) := by decide +kernel
theorem dX11_tree_1 : decode cX11_tree 1 = .ok (.getfield 10, 3) := by decide +kernel
theorem dX11_tree_4 : decode cX11_tree 4 = .ok (.aload_n 0, 1) := by decide +kernel
theorem dX11_tree_5 : decode cX11_tree 5 = .ok (.getfield 86, 3) := by decide +kernel
theorem dX11_tree_8 : decode cX11_tree 8 = .ok (.invokevirtual 105, 3) := by decide +kernel
theorem dX11_tree_11 : decode cX11_tree 11 = .ok (.istore_n 1, 1) := by decide +kernel
theorem dX11_tree_12 : decode cX11_tree 12 = .ok (.iload_n 1, 1) := by decide +kernel
theorem dX11_tree_13 : decode cX11_tree 13 = .ok (.ifCond .ge 5, 3) := by decide +kernel
theorem dX11_tree_16 : decode cX11_tree 16 = .ok (.iload_n 1, 1) := by decide +kernel
theorem dX11_tree_17 : decode cX11_tree 17 = .ok (.ireturn, 1) := by decide +kernel
theorem dX11_tree_18 : decode cX11_tree 18 = .ok (.aload_n 0, 1) := by decide +kernel
theorem dX11_tree_19 : decode cX11_tree 19 = .ok (.getfield 82, 3) := by decide +kernel
theorem dX11_tree_22 : decode cX11_tree 22 = .ok (.astore_n 2, 1) := by decide +kernel
theorem dX11_tree_23 : decode cX11_tree 23 = .ok (.aload_n 0, 1) := by decide +kernel
theorem dX11_tree_24 : decode cX11_tree 24 = .ok (.aload_n 0, 1) := by decide +kernel
theorem dX11_tree_25 : decode cX11_tree 25 = .ok (.getfield 86, 3) := by decide +kernel
theorem dX11_tree_28 : decode cX11_tree 28 = .ok (.putfield 82, 3) := by decide +kernel
theorem dX11_tree_31 : decode cX11_tree 31 = .ok (.aload_n 0, 1) := by decide +kernel
theorem dX11_tree_32 : decode cX11_tree 32 = .ok (.aload_n 2, 1) := by decide +kernel
theorem dX11_tree_33 : decode cX11_tree 33 = .ok (.putfield 86, 3) := by decide +kernel
theorem dX11_tree_36 : decode cX11_tree 36 = .ok (.aload_n 0, 1) := by decide +kernel
theorem dX11_tree_37 : decode cX11_tree 37 = .ok (.getfield 10, 3) := by decide +kernel
theorem dX11_tree_40 : decode cX11_tree 40 = .ok (.iconst 0, 1) := by decide +kernel
theorem dX11_tree_41 : decode cX11_tree 41 = .ok (.putfield 101, 3) := by decide +kernel
theorem dX11_tree_44 : decode cX11_tree 44 = .ok (.aload_n 0, 1) := by decide +kernel
theorem dX11_tree_45 : decode cX11_tree 45 = .ok (.getfield 19, 3) := by decide +kernel
theorem dX11_tree_48 : decode cX11_tree 48 = .ok (.aload_n 0, 1) := by decide +kernel
theorem dX11_tree_49 : decode cX11_tree 49 = .ok (.getfield 82, 3) := by decide +kernel
theorem dX11_tree_52 : decode cX11_tree 52 = .ok (.invokevirtual 109, 3) := by decide +kernel
theorem dX11_tree_55 : decode cX11_tree 55 = .ok (.aload_n 0, 1) := by decide +kernel
theorem dX11_tree_56 : decode cX11_tree 56 = .ok (.getfield 33, 3) := by decide +kernel
theorem dX11_tree_59 : decode cX11_tree 59 = .ok (.invokevirtual 113, 3) := by decide +kernel
theorem dX11_tree_62 : decode cX11_tree 62 = .ok (.aload_n 0, 1) := by decide +kernel
theorem dX11_tree_63 : decode cX11_tree 63 = .ok (.getfield 40, 3) := by decide +kernel
theorem dX11_tree_66 : decode cX11_tree 66 = .ok (.invokevirtual 116, 3) := by decide +kernel
theorem dX11_tree_69 : decode cX11_tree 69 = .ok (.aload_n 0, 1) := by decide +kernel
theorem dX11_tree_70 : decode cX11_tree 70 = .ok (.getfield 47, 3) := by decide +kernel
theorem dX11_tree_73 : decode cX11_tree 73 = .ok (.iconst 0, 1) := by decide +kernel
theorem dX11_tree_74 : decode cX11_tree 74 = .ok (.putfield 117, 3) := by decide +kernel
theorem dX11_tree_77 : decode cX11_tree 77 = .ok (.iload_n 1, 1) := by decide +kernel
theorem dX11_tree_78 : decode cX11_tree 78 = .ok (.ireturn, 1) := by decide +kernel
theorem dX11_bough_0 : decode cX11_bough 0 = .ok (.iload_n 1, 1) := by decide +kernel
theorem dX11_bough_1 : decode cX11_bough 1 = .ok (.iconst 0, 1) := by decide +kernel
theorem dX11_bough_2 : decode cX11_bough 2 = .ok (.aload_n 0, 1) := by decide +kernel
theorem dX11_bough_3 : decode cX11_bough 3 = .ok (.getfield 82, 3) := by decide +kernel
theorem dX11_bough_6 : decode cX11_bough 6 = .ok (.getfield 120, 3) := by decide +kernel
theorem dX11_bough_9 : decode cX11_bough 9 = .ok (.iconst 1, 1) := by decide +kernel
theorem dX11_bough_10 : decode cX11_bough 10 = .ok (.isub, 1) := by decide +kernel
theorem dX11_bough_11 : decode cX11_bough 11 = .ok (.invokestatic 93, 3) := by decide +kernel
theorem dX11_bough_14 : decode cX11_bough 14 = .ok (.ifCond .ne 5, 3) := by decide +kernel
theorem dX11_bough_17 : decode cX11_bough 17 = .ok (.iconst (-1), 1) := by decide +kernel
theorem dX11_bough_18 : decode cX11_bough 18 = .ok (.ireturn, 1) := by decide +kernel
theorem dX11_bough_19 : decode cX11_bough 19 = .ok (.iload_n 2, 1) := by decide +kernel
theorem dX11_bough_20 : decode cX11_bough 20 = .ok (.tableswitch 87 0 3 #[32, 42, 52, 62], 32) := by decide +kernel
theorem dX11_bough_52 : decode cX11_bough 52 = .ok (.aload_n 0, 1) := by decide +kernel
theorem dX11_bough_53 : decode cX11_bough 53 = .ok (.getfield 82, 3) := by decide +kernel
theorem dX11_bough_56 : decode cX11_bough 56 = .ok (.getfield 123, 3) := by decide +kernel
theorem dX11_bough_59 : decode cX11_bough 59 = .ok (.iload_n 1, 1) := by decide +kernel
theorem dX11_bough_60 : decode cX11_bough 60 = .ok (.iaload, 1) := by decide +kernel
theorem dX11_bough_61 : decode cX11_bough 61 = .ok (.ireturn, 1) := by decide +kernel
theorem dX11_bough_62 : decode cX11_bough 62 = .ok (.aload_n 0, 1) := by decide +kernel
theorem dX11_bough_63 : decode cX11_bough 63 = .ok (.getfield 82, 3) := by decide +kernel
theorem dX11_bough_66 : decode cX11_bough 66 = .ok (.getfield 127, 3) := by decide +kernel
theorem dX11_bough_69 : decode cX11_bough 69 = .ok (.iload_n 1, 1) := by decide +kernel
theorem dX11_bough_70 : decode cX11_bough 70 = .ok (.iaload, 1) := by decide +kernel
theorem dX11_bough_71 : decode cX11_bough 71 = .ok (.ireturn, 1) := by decide +kernel
theorem dX11_bough_72 : decode cX11_bough 72 = .ok (.aload_n 0, 1) := by decide +kernel
theorem dX11_bough_73 : decode cX11_bough 73 = .ok (.getfield 82, 3) := by decide +kernel
theorem dX11_bough_76 : decode cX11_bough 76 = .ok (.getfield 130, 3) := by decide +kernel
theorem dX11_bough_79 : decode cX11_bough 79 = .ok (.iload_n 1, 1) := by decide +kernel
theorem dX11_bough_80 : decode cX11_bough 80 = .ok (.iaload, 1) := by decide +kernel
theorem dX11_bough_81 : decode cX11_bough 81 = .ok (.ireturn, 1) := by decide +kernel
theorem dX11_bough_82 : decode cX11_bough 82 = .ok (.aload_n 0, 1) := by decide +kernel
theorem dX11_bough_83 : decode cX11_bough 83 = .ok (.getfield 26, 3) := by decide +kernel
theorem dX11_bough_86 : decode cX11_bough 86 = .ok (.aload_n 0, 1) := by decide +kernel
theorem dX11_bough_87 : decode cX11_bough 87 = .ok (.getfield 82, 3) := by decide +kernel
theorem dX11_bough_90 : decode cX11_bough 90 = .ok (.aload_n 0, 1) := by decide +kernel
theorem dX11_bough_91 : decode cX11_bough 91 = .ok (.getfield 19, 3) := by decide +kernel
theorem dX11_bough_94 : decode cX11_bough 94 = .ok (.invokevirtual 133, 3) := by decide +kernel
theorem dX11_bough_97 : decode cX11_bough 97 = .ok (.aload_n 0, 1) := by decide +kernel
theorem dX11_bough_98 : decode cX11_bough 98 = .ok (.getfield 26, 3) := by decide +kernel
theorem dX11_bough_101 : decode cX11_bough 101 = .ok (.getfield 137, 3) := by decide +kernel
theorem dX11_bough_104 : decode cX11_bough 104 = .ok (.iload_n 1, 1) := by decide +kernel
theorem dX11_bough_105 : decode cX11_bough 105 = .ok (.iaload, 1) := by decide +kernel
theorem dX11_bough_106 : decode cX11_bough 106 = .ok (.ireturn, 1) := by decide +kernel
theorem dX11_bough_107 : decode cX11_bough 107 = .ok (.iconst (-1), 1) := by decide +kernel
theorem dX11_bough_108 : decode cX11_bough 108 = .ok (.ireturn, 1) := by decide +kernel
theorem dX11_plank_0 : decode cX11_plank 0 = .ok (.aload_n 0, 1) := by decide +kernel
theorem dX11_plank_1 : decode cX11_plank 1 = .ok (.iload_n 1, 1) := by decide +kernel
theorem dX11_plank_2 : decode cX11_plank 2 = .ok (.invokevirtual 140, 3) := by decide +kernel
theorem dX11_plank_5 : decode cX11_plank 5 = .ok (.ifCond .ne 5, 3) := by decide +kernel
theorem dX11_plank_8 : decode cX11_plank 8 = .ok (.iconst (-1), 1) := by decide +kernel
theorem dX11_plank_9 : decode cX11_plank 9 = .ok (.ireturn, 1) := by decide +kernel
theorem dX11_plank_10 : decode cX11_plank 10 = .ok (.iload_n 2, 1) := by decide +kernel
theorem dX11_plank_11 : decode cX11_plank 11 = .ok (.tableswitch 90 0 3 #[29, 41, 55, 65], 29) := by decide +kernel
theorem dX11_plank_40 : decode cX11_plank 40 = .ok (.aload_n 0, 1) := by decide +kernel
theorem dX11_plank_41 : decode cX11_plank 41 = .ok (.getfield 82, 3) := by decide +kernel
theorem dX11_plank_44 : decode cX11_plank 44 = .ok (.getfield 143, 3) := by decide +kernel
theorem dX11_plank_47 : decode cX11_plank 47 = .ok (.iconst 2, 1) := by decide +kernel
theorem dX11_plank_48 : decode cX11_plank 48 = .ok (.iload_n 1, 1) := by decide +kernel
theorem dX11_plank_49 : decode cX11_plank 49 = .ok (.imul, 1) := by decide +kernel
theorem dX11_plank_50 : decode cX11_plank 50 = .ok (.iaload, 1) := by decide +kernel
theorem dX11_plank_51 : decode cX11_plank 51 = .ok (.ireturn, 1) := by decide +kernel
theorem dX11_plank_52 : decode cX11_plank 52 = .ok (.aload_n 0, 1) := by decide +kernel
theorem dX11_plank_53 : decode cX11_plank 53 = .ok (.getfield 82, 3) := by decide +kernel
theorem dX11_plank_56 : decode cX11_plank 56 = .ok (.getfield 143, 3) := by decide +kernel
theorem dX11_plank_59 : decode cX11_plank 59 = .ok (.iconst 2, 1) := by decide +kernel
theorem dX11_plank_60 : decode cX11_plank 60 = .ok (.iload_n 1, 1) := by decide +kernel
theorem dX11_plank_61 : decode cX11_plank 61 = .ok (.imul, 1) := by decide +kernel
theorem dX11_plank_62 : decode cX11_plank 62 = .ok (.iconst 1, 1) := by decide +kernel
theorem dX11_plank_63 : decode cX11_plank 63 = .ok (.iadd, 1) := by decide +kernel
theorem dX11_plank_64 : decode cX11_plank 64 = .ok (.iaload, 1) := by decide +kernel
theorem dX11_plank_65 : decode cX11_plank 65 = .ok (.ireturn, 1) := by decide +kernel
theorem dX11_plank_66 : decode cX11_plank 66 = .ok (.aload_n 0, 1) := by decide +kernel
theorem dX11_plank_67 : decode cX11_plank 67 = .ok (.getfield 82, 3) := by decide +kernel
theorem dX11_plank_70 : decode cX11_plank 70 = .ok (.getfield 146, 3) := by decide +kernel
theorem dX11_plank_73 : decode cX11_plank 73 = .ok (.iload_n 1, 1) := by decide +kernel
theorem dX11_plank_74 : decode cX11_plank 74 = .ok (.iaload, 1) := by decide +kernel
theorem dX11_plank_75 : decode cX11_plank 75 = .ok (.ireturn, 1) := by decide +kernel
theorem dX11_plank_76 : decode cX11_plank 76 = .ok (.aload_n 0, 1) := by decide +kernel
theorem dX11_plank_77 : decode cX11_plank 77 = .ok (.getfield 26, 3) := by decide +kernel
theorem dX11_plank_80 : decode cX11_plank 80 = .ok (.aload_n 0, 1) := by decide +kernel
theorem dX11_plank_81 : decode cX11_plank 81 = .ok (.getfield 82, 3) := by decide +kernel
theorem dX11_plank_84 : decode cX11_plank 84 = .ok (.aload_n 0, 1) := by decide +kernel
theorem dX11_plank_85 : decode cX11_plank 85 = .ok (.getfield 19, 3) := by decide +kernel
theorem dX11_plank_88 : decode cX11_plank 88 = .ok (.invokevirtual 133, 3) := by decide +kernel
theorem dX11_plank_91 : decode cX11_plank 91 = .ok (.aload_n 0, 1) := by decide +kernel
theorem dX11_plank_92 : decode cX11_plank 92 = .ok (.getfield 26, 3) := by decide +kernel
theorem dX11_plank_95 : decode cX11_plank 95 = .ok (.getfield 149, 3) := by decide +kernel
theorem dX11_plank_98 : decode cX11_plank 98 = .ok (.iload_n 1, 1) := by decide +kernel
theorem dX11_plank_99 : decode cX11_plank 99 = .ok (.iaload, 1) := by decide +kernel
theorem dX11_plank_100 : decode cX11_plank 100 = .ok (.ireturn, 1) := by decide +kernel
theorem dX11_plank_101 : decode cX11_plank 101 = .ok (.iconst (-1), 1) := by decide +kernel
theorem dX11_plank_102 : decode cX11_plank 102 = .ok (.ireturn, 1) := by decide +kernel
theorem dX11_end_0 : decode cX11_end 0 = .ok (.aload_n 0, 1) := by decide +kernel
theorem dX11_end_1 : decode cX11_end 1 = .ok (.iload_n 1, 1) := by decide +kernel
theorem dX11_end_2 : decode cX11_end 2 = .ok (.iload_n 2, 1) := by decide +kernel
theorem dX11_end_3 : decode cX11_end 3 = .ok (.invokevirtual 152, 3) := by decide +kernel
theorem dX11_end_6 : decode cX11_end 6 = .ok (.ifCond .ne 5, 3) := by decide +kernel
theorem dX11_end_9 : decode cX11_end 9 = .ok (.iconst (-1), 1) := by decide +kernel
theorem dX11_end_10 : decode cX11_end 10 = .ok (.ireturn, 1) := by decide +kernel
theorem dX11_end_11 : decode cX11_end 11 = .ok (.iconst 2, 1) := by decide +kernel
theorem dX11_end_12 : decode cX11_end 12 = .ok (.iload_n 1, 1) := by decide +kernel
theorem dX11_end_13 : decode cX11_end 13 = .ok (.imul, 1) := by decide +kernel
theorem dX11_end_14 : decode cX11_end 14 = .ok (.iload_n 2, 1) := by decide +kernel
theorem dX11_end_15 : decode cX11_end 15 = .ok (.iadd, 1) := by decide +kernel
theorem dX11_end_16 : decode cX11_end 16 = .ok (.istore 4, 2) := by decide +kernel
theorem dX11_end_18 : decode cX11_end 18 = .ok (.iload_n 3, 1) := by decide +kernel
theorem dX11_end_19 : decode cX11_end 19 = .ok (.tableswitch 63 0 2 #[25, 35, 45], 25) := by decide +kernel
theorem dX11_end_44 : decode cX11_end 44 = .ok (.aload_n 0, 1) := by decide +kernel
theorem dX11_end_45 : decode cX11_end 45 = .ok (.getfield 19, 3) := by decide +kernel
theorem dX11_end_48 : decode cX11_end 48 = .ok (.iload 4, 2) := by decide +kernel
theorem dX11_end_50 : decode cX11_end 50 = .ok (.invokevirtual 156, 3) := by decide +kernel
theorem dX11_end_53 : decode cX11_end 53 = .ok (.ireturn, 1) := by decide +kernel
theorem dX11_end_54 : decode cX11_end 54 = .ok (.aload_n 0, 1) := by decide +kernel
theorem dX11_end_55 : decode cX11_end 55 = .ok (.getfield 19, 3) := by decide +kernel
theorem dX11_end_58 : decode cX11_end 58 = .ok (.iload 4, 2) := by decide +kernel
theorem dX11_end_60 : decode cX11_end 60 = .ok (.invokevirtual 160, 3) := by decide +kernel
theorem dX11_end_63 : decode cX11_end 63 = .ok (.ireturn, 1) := by decide +kernel
theorem dX11_end_64 : decode cX11_end 64 = .ok (.aload_n 0, 1) := by decide +kernel
theorem dX11_end_65 : decode cX11_end 65 = .ok (.getfield 19, 3) := by decide +kernel
theorem dX11_end_68 : decode cX11_end 68 = .ok (.iload 4, 2) := by decide +kernel
theorem dX11_end_70 : decode cX11_end 70 = .ok (.invokevirtual 163, 3) := by decide +kernel
theorem dX11_end_73 : decode cX11_end 73 = .ok (.ifCond .eq 7, 3) := by decide +kernel
theorem dX11_end_76 : decode cX11_end 76 = .ok (.iconst 1, 1) := by decide +kernel
theorem dX11_end_77 : decode cX11_end 77 = .ok (.goto 4, 3) := by decide +kernel
theorem dX11_end_80 : decode cX11_end 80 = .ok (.iconst 0, 1) := by decide +kernel
theorem dX11_end_81 : decode cX11_end 81 = .ok (.ireturn, 1) := by decide +kernel
theorem dX11_end_82 : decode cX11_end 82 = .ok (.iconst (-1), 1) := by decide +kernel
theorem dX11_end_83 : decode cX11_end 83 = .ok (.ireturn, 1) := by decide +kernel
theorem dX11_child_0 : decode cX11_child 0 = .ok (.aload_n 0, 1) := by decide +kernel
theorem dX11_child_1 : decode cX11_child 1 = .ok (.iload_n 1, 1) := by decide +kernel
theorem dX11_child_2 : decode cX11_child 2 = .ok (.invokevirtual 166, 3) := by decide +kernel
theorem dX11_child_5 : decode cX11_child 5 = .ok (.ifCond .ne 5, 3) := by decide +kernel
theorem dX11_child_8 : decode cX11_child 8 = .ok (.iconst (-1), 1) := by decide +kernel
theorem dX11_child_9 : decode cX11_child 9 = .ok (.ireturn, 1) := by decide +kernel
theorem dX11_child_10 : decode cX11_child 10 = .ok (.iload_n 2, 1) := by decide +kernel
theorem dX11_child_11 : decode cX11_child 11 = .ok (.tableswitch 54 0 2 #[25, 35, 45], 25) := by decide +kernel
theorem dX11_child_36 : decode cX11_child 36 = .ok (.aload_n 0, 1) := by decide +kernel
theorem dX11_child_37 : decode cX11_child 37 = .ok (.getfield 82, 3) := by decide +kernel
theorem dX11_child_40 : decode cX11_child 40 = .ok (.getfield 169, 3) := by decide +kernel
theorem dX11_child_43 : decode cX11_child 43 = .ok (.iload_n 1, 1) := by decide +kernel
theorem dX11_child_44 : decode cX11_child 44 = .ok (.iaload, 1) := by decide +kernel
theorem dX11_child_45 : decode cX11_child 45 = .ok (.ireturn, 1) := by decide +kernel
theorem dX11_child_46 : decode cX11_child 46 = .ok (.aload_n 0, 1) := by decide +kernel
theorem dX11_child_47 : decode cX11_child 47 = .ok (.getfield 82, 3) := by decide +kernel
theorem dX11_child_50 : decode cX11_child 50 = .ok (.getfield 172, 3) := by decide +kernel
theorem dX11_child_53 : decode cX11_child 53 = .ok (.iload_n 1, 1) := by decide +kernel
theorem dX11_child_54 : decode cX11_child 54 = .ok (.iaload, 1) := by decide +kernel
theorem dX11_child_55 : decode cX11_child 55 = .ok (.ireturn, 1) := by decide +kernel
theorem dX11_child_56 : decode cX11_child 56 = .ok (.aload_n 0, 1) := by decide +kernel
theorem dX11_child_57 : decode cX11_child 57 = .ok (.getfield 19, 3) := by decide +kernel
theorem dX11_child_60 : decode cX11_child 60 = .ok (.iload_n 1, 1) := by decide +kernel
theorem dX11_child_61 : decode cX11_child 61 = .ok (.invokevirtual 175, 3) := by decide +kernel
theorem dX11_child_64 : decode cX11_child 64 = .ok (.ireturn, 1) := by decide +kernel
theorem dX11_child_65 : decode cX11_child 65 = .ok (.iconst (-1), 1) := by decide +kernel
theorem dX11_child_66 : decode cX11_child 66 = .ok (.ireturn, 1) := by decide +kernel
theorem dX11_now_0 : decode cX11_now 0 = .ok (.iload_n 1, 1) := by decide +kernel
theorem dX11_now_1 : decode cX11_now 1 = .ok (.iconst 0, 1) := by decide +kernel
theorem dX11_now_2 : decode cX11_now 2 = .ok (.iconst 5, 1) := by decide +kernel
theorem dX11_now_3 : decode cX11_now 3 = .ok (.invokestatic 93, 3) := by decide +kernel
theorem dX11_now_6 : decode cX11_now 6 = .ok (.ifCond .ne 5, 3) := by decide +kernel
theorem dX11_now_9 : decode cX11_now 9 = .ok (.iconst (-1), 1) := by decide +kernel
theorem dX11_now_10 : decode cX11_now 10 = .ok (.ireturn, 1) := by decide +kernel
theorem dX11_now_11 : decode cX11_now 11 = .ok (.aload_n 0, 1) := by decide +kernel
theorem dX11_now_12 : decode cX11_now 12 = .ok (.getfield 26, 3) := by decide +kernel
theorem dX11_now_15 : decode cX11_now 15 = .ok (.aload_n 0, 1) := by decide +kernel
theorem dX11_now_16 : decode cX11_now 16 = .ok (.getfield 82, 3) := by decide +kernel
theorem dX11_now_19 : decode cX11_now 19 = .ok (.aload_n 0, 1) := by decide +kernel
theorem dX11_now_20 : decode cX11_now 20 = .ok (.getfield 19, 3) := by decide +kernel
theorem dX11_now_23 : decode cX11_now 23 = .ok (.invokevirtual 133, 3) := by decide +kernel
theorem dX11_now_26 : decode cX11_now 26 = .ok (.iload_n 1, 1) := by decide +kernel
theorem dX11_now_27 : decode cX11_now 27 = .ok (.tableswitch 105 0 4 #[33, 57, 69, 81, 97], 33) := by decide +kernel
theorem dX11_now_60 : decode cX11_now 60 = .ok (.aload_n 0, 1) := by decide +kernel
theorem dX11_now_61 : decode cX11_now 61 = .ok (.getfield 26, 3) := by decide +kernel
theorem dX11_now_64 : decode cX11_now 64 = .ok (.aload_n 0, 1) := by decide +kernel
theorem dX11_now_65 : decode cX11_now 65 = .ok (.getfield 82, 3) := by decide +kernel
theorem dX11_now_68 : decode cX11_now 68 = .ok (.aload_n 0, 1) := by decide +kernel
theorem dX11_now_69 : decode cX11_now 69 = .ok (.getfield 19, 3) := by decide +kernel
theorem dX11_now_72 : decode cX11_now 72 = .ok (.invokevirtual 178, 3) := by decide +kernel
theorem dX11_now_75 : decode cX11_now 75 = .ok (.ifCond .eq 7, 3) := by decide +kernel
theorem dX11_now_78 : decode cX11_now 78 = .ok (.iconst 1, 1) := by decide +kernel
theorem dX11_now_79 : decode cX11_now 79 = .ok (.goto 4, 3) := by decide +kernel
theorem dX11_now_82 : decode cX11_now 82 = .ok (.iconst 0, 1) := by decide +kernel
theorem dX11_now_83 : decode cX11_now 83 = .ok (.ireturn, 1) := by decide +kernel
theorem dX11_now_84 : decode cX11_now 84 = .ok (.aload_n 0, 1) := by decide +kernel
theorem dX11_now_85 : decode cX11_now 85 = .ok (.getfield 26, 3) := by decide +kernel
theorem dX11_now_88 : decode cX11_now 88 = .ok (.aload_n 0, 1) := by decide +kernel
theorem dX11_now_89 : decode cX11_now 89 = .ok (.getfield 82, 3) := by decide +kernel
theorem dX11_now_92 : decode cX11_now 92 = .ok (.invokevirtual 182, 3) := by decide +kernel
theorem dX11_now_95 : decode cX11_now 95 = .ok (.ireturn, 1) := by decide +kernel
theorem dX11_now_96 : decode cX11_now 96 = .ok (.aload_n 0, 1) := by decide +kernel
theorem dX11_now_97 : decode cX11_now 97 = .ok (.getfield 26, 3) := by decide +kernel
theorem dX11_now_100 : decode cX11_now 100 = .ok (.aload_n 0, 1) := by decide +kernel
theorem dX11_now_101 : decode cX11_now 101 = .ok (.getfield 82, 3) := by decide +kernel
theorem dX11_now_104 : decode cX11_now 104 = .ok (.invokevirtual 185, 3) := by decide +kernel
theorem dX11_now_107 : decode cX11_now 107 = .ok (.ireturn, 1) := by decide +kernel
theorem dX11_now_108 : decode cX11_now 108 = .ok (.aload_n 0, 1) := by decide +kernel
theorem dX11_now_109 : decode cX11_now 109 = .ok (.getfield 26, 3) := by decide +kernel
theorem dX11_now_112 : decode cX11_now 112 = .ok (.aload_n 0, 1) := by decide +kernel
theorem dX11_now_113 : decode cX11_now 113 = .ok (.getfield 82, 3) := by decide +kernel
theorem dX11_now_116 : decode cX11_now 116 = .ok (.aload_n 0, 1) := by decide +kernel
theorem dX11_now_117 : decode cX11_now 117 = .ok (.getfield 19, 3) := by decide +kernel
theorem dX11_now_120 : decode cX11_now 120 = .ok (.invokevirtual 188, 3) := by decide +kernel
theorem dX11_now_123 : decode cX11_now 123 = .ok (.ireturn, 1) := by decide +kernel
theorem dX11_now_124 : decode cX11_now 124 = .ok (.aload_n 0, 1) := by decide +kernel
theorem dX11_now_125 : decode cX11_now 125 = .ok (.getfield 19, 3) := by decide +kernel
theorem dX11_now_128 : decode cX11_now 128 = .ok (.invokevirtual 192, 3) := by decide +kernel
theorem dX11_now_131 : decode cX11_now 131 = .ok (.ireturn, 1) := by decide +kernel
theorem dX11_now_132 : decode cX11_now 132 = .ok (.aload_n 0, 1) := by decide +kernel
theorem dX11_now_133 : decode cX11_now 133 = .ok (.getfield 33, 3) := by decide +kernel
theorem dX11_now_136 : decode cX11_now 136 = .ok (.getfield 196, 3) := by decide +kernel
theorem dX11_now_139 : decode cX11_now 139 = .ok (.ireturn, 1) := by decide +kernel
theorem dX11_stands_0 : decode cX11_stands 0 = .ok (.aload_n 0, 1) := by decide +kernel
theorem dX11_stands_1 : decode cX11_stands 1 = .ok (.iload_n 1, 1) := by decide +kernel
theorem dX11_stands_2 : decode cX11_stands 2 = .ok (.invokevirtual 166, 3) := by decide +kernel
theorem dX11_stands_5 : decode cX11_stands 5 = .ok (.ifCond .eq 17, 3) := by decide +kernel
theorem dX11_stands_8 : decode cX11_stands 8 = .ok (.iload_n 2, 1) := by decide +kernel
theorem dX11_stands_9 : decode cX11_stands 9 = .ok (.bipush (-9), 2) := by decide +kernel
theorem dX11_stands_11 : decode cX11_stands 11 = .ok (.if_icmp .eq 13, 3) := by decide +kernel
theorem dX11_stands_14 : decode cX11_stands 14 = .ok (.aload_n 0, 1) := by decide +kernel
theorem dX11_stands_15 : decode cX11_stands 15 = .ok (.iload_n 2, 1) := by decide +kernel
theorem dX11_stands_16 : decode cX11_stands 16 = .ok (.invokevirtual 140, 3) := by decide +kernel
theorem dX11_stands_19 : decode cX11_stands 19 = .ok (.ifCond .ne 5, 3) := by decide +kernel
theorem dX11_stands_22 : decode cX11_stands 22 = .ok (.iconst (-1), 1) := by decide +kernel
theorem dX11_stands_23 : decode cX11_stands 23 = .ok (.ireturn, 1) := by decide +kernel
theorem dX11_stands_24 : decode cX11_stands 24 = .ok (.aload_n 0, 1) := by decide +kernel
theorem dX11_stands_25 : decode cX11_stands 25 = .ok (.getfield 33, 3) := by decide +kernel
theorem dX11_stands_28 : decode cX11_stands 28 = .ok (.aload_n 0, 1) := by decide +kernel
theorem dX11_stands_29 : decode cX11_stands 29 = .ok (.getfield 19, 3) := by decide +kernel
theorem dX11_stands_32 : decode cX11_stands 32 = .ok (.invokevirtual 199, 3) := by decide +kernel
theorem dX11_stands_35 : decode cX11_stands 35 = .ok (.aload_n 0, 1) := by decide +kernel
theorem dX11_stands_36 : decode cX11_stands 36 = .ok (.getfield 19, 3) := by decide +kernel
theorem dX11_stands_39 : decode cX11_stands 39 = .ok (.iload_n 1, 1) := by decide +kernel
theorem dX11_stands_40 : decode cX11_stands 40 = .ok (.invokevirtual 175, 3) := by decide +kernel
theorem dX11_stands_43 : decode cX11_stands 43 = .ok (.istore_n 3, 1) := by decide +kernel
theorem dX11_stands_44 : decode cX11_stands 44 = .ok (.aload_n 0, 1) := by decide +kernel
theorem dX11_stands_45 : decode cX11_stands 45 = .ok (.getfield 19, 3) := by decide +kernel
theorem dX11_stands_48 : decode cX11_stands 48 = .ok (.iload_n 1, 1) := by decide +kernel
theorem dX11_stands_49 : decode cX11_stands 49 = .ok (.iload_n 2, 1) := by decide +kernel
theorem dX11_stands_50 : decode cX11_stands 50 = .ok (.invokevirtual 203, 3) := by decide +kernel
theorem dX11_stands_53 : decode cX11_stands 53 = .ok (.iload_n 3, 1) := by decide +kernel
theorem dX11_stands_54 : decode cX11_stands 54 = .ok (.ireturn, 1) := by decide +kernel
theorem dX11_gale_0 : decode cX11_gale 0 = .ok (.iload_n 1, 1) := by decide +kernel
theorem dX11_gale_1 : decode cX11_gale 1 = .ok (.invokestatic 207, 3) := by decide +kernel
theorem dX11_gale_4 : decode cX11_gale 4 = .ok (.ifCond .ne 5, 3) := by decide +kernel
theorem dX11_gale_7 : decode cX11_gale 7 = .ok (.iconst (-1), 1) := by decide +kernel
theorem dX11_gale_8 : decode cX11_gale 8 = .ok (.ireturn, 1) := by decide +kernel
theorem dX11_gale_9 : decode cX11_gale 9 = .ok (.aload_n 0, 1) := by decide +kernel
theorem dX11_gale_10 : decode cX11_gale 10 = .ok (.getfield 19, 3) := by decide +kernel
theorem dX11_gale_13 : decode cX11_gale 13 = .ok (.invokevirtual 192, 3) := by decide +kernel
theorem dX11_gale_16 : decode cX11_gale 16 = .ok (.sipush 999, 3) := by decide +kernel
theorem dX11_gale_19 : decode cX11_gale 19 = .ok (.if_icmp .lt 6, 3) := by decide +kernel
theorem dX11_gale_22 : decode cX11_gale 22 = .ok (.bipush (-2), 2) := by decide +kernel
theorem dX11_gale_24 : decode cX11_gale 24 = .ok (.ireturn, 1) := by decide +kernel
theorem dX11_gale_25 : decode cX11_gale 25 = .ok (.aload_n 0, 1) := by decide +kernel
theorem dX11_gale_26 : decode cX11_gale 26 = .ok (.getfield 33, 3) := by decide +kernel
theorem dX11_gale_29 : decode cX11_gale 29 = .ok (.aload_n 0, 1) := by decide +kernel
theorem dX11_gale_30 : decode cX11_gale 30 = .ok (.getfield 19, 3) := by decide +kernel
theorem dX11_gale_33 : decode cX11_gale 33 = .ok (.invokevirtual 199, 3) := by decide +kernel
theorem dX11_gale_36 : decode cX11_gale 36 = .ok (.aload_n 0, 1) := by decide +kernel
theorem dX11_gale_37 : decode cX11_gale 37 = .ok (.getfield 19, 3) := by decide +kernel
theorem dX11_gale_40 : decode cX11_gale 40 = .ok (.aload_n 0, 1) := by decide +kernel
theorem dX11_gale_41 : decode cX11_gale 41 = .ok (.getfield 82, 3) := by decide +kernel
theorem dX11_gale_44 : decode cX11_gale 44 = .ok (.iload_n 1, 1) := by decide +kernel
theorem dX11_gale_45 : decode cX11_gale 45 = .ok (.invokevirtual 210, 3) := by decide +kernel
theorem dX11_gale_48 : decode cX11_gale 48 = .ok (.aload_n 0, 1) := by decide +kernel
theorem dX11_gale_49 : decode cX11_gale 49 = .ok (.getfield 19, 3) := by decide +kernel
theorem dX11_gale_52 : decode cX11_gale 52 = .ok (.aload_n 0, 1) := by decide +kernel
theorem dX11_gale_53 : decode cX11_gale 53 = .ok (.getfield 82, 3) := by decide +kernel
theorem dX11_gale_56 : decode cX11_gale 56 = .ok (.invokevirtual 214, 3) := by decide +kernel
theorem dX11_gale_59 : decode cX11_gale 59 = .ok (.ireturn, 1) := by decide +kernel
theorem dX11_join_0 : decode cX11_join 0 = .ok (.aload_n 0, 1) := by decide +kernel
theorem dX11_join_1 : decode cX11_join 1 = .ok (.iload_n 1, 1) := by decide +kernel
theorem dX11_join_2 : decode cX11_join 2 = .ok (.iload_n 2, 1) := by decide +kernel
theorem dX11_join_3 : decode cX11_join 3 = .ok (.invokevirtual 152, 3) := by decide +kernel
theorem dX11_join_6 : decode cX11_join 6 = .ok (.ifCond .eq 12, 3) := by decide +kernel
theorem dX11_join_9 : decode cX11_join 9 = .ok (.iload_n 3, 1) := by decide +kernel
theorem dX11_join_10 : decode cX11_join 10 = .ok (.iconst 0, 1) := by decide +kernel
theorem dX11_join_11 : decode cX11_join 11 = .ok (.iconst 3, 1) := by decide +kernel
theorem dX11_join_12 : decode cX11_join 12 = .ok (.invokestatic 93, 3) := by decide +kernel
theorem dX11_join_15 : decode cX11_join 15 = .ok (.ifCond .ne 5, 3) := by decide +kernel
theorem dX11_join_18 : decode cX11_join 18 = .ok (.iconst (-1), 1) := by decide +kernel
theorem dX11_join_19 : decode cX11_join 19 = .ok (.ireturn, 1) := by decide +kernel
theorem dX11_join_20 : decode cX11_join 20 = .ok (.aload_n 0, 1) := by decide +kernel
theorem dX11_join_21 : decode cX11_join 21 = .ok (.getfield 33, 3) := by decide +kernel
theorem dX11_join_24 : decode cX11_join 24 = .ok (.aload_n 0, 1) := by decide +kernel
theorem dX11_join_25 : decode cX11_join 25 = .ok (.getfield 19, 3) := by decide +kernel
theorem dX11_join_28 : decode cX11_join 28 = .ok (.invokevirtual 199, 3) := by decide +kernel
theorem dX11_join_31 : decode cX11_join 31 = .ok (.aload_n 0, 1) := by decide +kernel
theorem dX11_join_32 : decode cX11_join 32 = .ok (.getfield 19, 3) := by decide +kernel
theorem dX11_join_35 : decode cX11_join 35 = .ok (.iconst 2, 1) := by decide +kernel
theorem dX11_join_36 : decode cX11_join 36 = .ok (.iload_n 1, 1) := by decide +kernel
theorem dX11_join_37 : decode cX11_join 37 = .ok (.imul, 1) := by decide +kernel
theorem dX11_join_38 : decode cX11_join 38 = .ok (.iload_n 2, 1) := by decide +kernel
theorem dX11_join_39 : decode cX11_join 39 = .ok (.iadd, 1) := by decide +kernel
theorem dX11_join_40 : decode cX11_join 40 = .ok (.invokevirtual 156, 3) := by decide +kernel
theorem dX11_join_43 : decode cX11_join 43 = .ok (.istore 4, 2) := by decide +kernel
theorem dX11_join_45 : decode cX11_join 45 = .ok (.aload_n 0, 1) := by decide +kernel
theorem dX11_join_46 : decode cX11_join 46 = .ok (.getfield 19, 3) := by decide +kernel
theorem dX11_join_49 : decode cX11_join 49 = .ok (.iconst 2, 1) := by decide +kernel
theorem dX11_join_50 : decode cX11_join 50 = .ok (.iload_n 1, 1) := by decide +kernel
theorem dX11_join_51 : decode cX11_join 51 = .ok (.imul, 1) := by decide +kernel
theorem dX11_join_52 : decode cX11_join 52 = .ok (.iload_n 2, 1) := by decide +kernel
theorem dX11_join_53 : decode cX11_join 53 = .ok (.iadd, 1) := by decide +kernel
theorem dX11_join_54 : decode cX11_join 54 = .ok (.iload_n 3, 1) := by decide +kernel
theorem dX11_join_55 : decode cX11_join 55 = .ok (.invokevirtual 217, 3) := by decide +kernel
theorem dX11_join_58 : decode cX11_join 58 = .ok (.iload 4, 2) := by decide +kernel
theorem dX11_join_60 : decode cX11_join 60 = .ok (.ireturn, 1) := by decide +kernel
theorem dX11_spring_0 : decode cX11_spring 0 = .ok (.aload_n 0, 1) := by decide +kernel
theorem dX11_spring_1 : decode cX11_spring 1 = .ok (.getfield 33, 3) := by decide +kernel
theorem dX11_spring_4 : decode cX11_spring 4 = .ok (.aload_n 0, 1) := by decide +kernel
theorem dX11_spring_5 : decode cX11_spring 5 = .ok (.getfield 19, 3) := by decide +kernel
theorem dX11_spring_8 : decode cX11_spring 8 = .ok (.invokevirtual 199, 3) := by decide +kernel
theorem dX11_spring_11 : decode cX11_spring 11 = .ok (.aload_n 0, 1) := by decide +kernel
theorem dX11_spring_12 : decode cX11_spring 12 = .ok (.getfield 19, 3) := by decide +kernel
theorem dX11_spring_15 : decode cX11_spring 15 = .ok (.aload_n 0, 1) := by decide +kernel
theorem dX11_spring_16 : decode cX11_spring 16 = .ok (.getfield 82, 3) := by decide +kernel
theorem dX11_spring_19 : decode cX11_spring 19 = .ok (.invokevirtual 220, 3) := by decide +kernel
theorem dX11_spring_22 : decode cX11_spring 22 = .ok (.ireturn, 1) := by decide +kernel
theorem dX11_undo_0 : decode cX11_undo 0 = .ok (.aload_n 0, 1) := by decide +kernel
theorem dX11_undo_1 : decode cX11_undo 1 = .ok (.getfield 33, 3) := by decide +kernel
theorem dX11_undo_4 : decode cX11_undo 4 = .ok (.aload_n 0, 1) := by decide +kernel
theorem dX11_undo_5 : decode cX11_undo 5 = .ok (.getfield 19, 3) := by decide +kernel
theorem dX11_undo_8 : decode cX11_undo 8 = .ok (.invokevirtual 223, 3) := by decide +kernel
theorem dX11_undo_11 : decode cX11_undo 11 = .ok (.ifCond .eq 13, 3) := by decide +kernel
theorem dX11_undo_14 : decode cX11_undo 14 = .ok (.aload_n 0, 1) := by decide +kernel
theorem dX11_undo_15 : decode cX11_undo 15 = .ok (.getfield 33, 3) := by decide +kernel
theorem dX11_undo_18 : decode cX11_undo 18 = .ok (.getfield 196, 3) := by decide +kernel
theorem dX11_undo_21 : decode cX11_undo 21 = .ok (.goto 5, 3) := by decide +kernel
theorem dX11_undo_24 : decode cX11_undo 24 = .ok (.bipush (-2), 2) := by decide +kernel
theorem dX11_undo_26 : decode cX11_undo 26 = .ok (.ireturn, 1) := by decide +kernel
theorem dX11_most_0 : decode cX11_most 0 = .ok (.iload_n 1, 1) := by decide +kernel
theorem dX11_most_1 : decode cX11_most 1 = .ok (.bipush (-9), 2) := by decide +kernel
theorem dX11_most_3 : decode cX11_most 3 = .ok (.if_icmp .eq 13, 3) := by decide +kernel
theorem dX11_most_6 : decode cX11_most 6 = .ok (.aload_n 0, 1) := by decide +kernel
theorem dX11_most_7 : decode cX11_most 7 = .ok (.iload_n 1, 1) := by decide +kernel
theorem dX11_most_8 : decode cX11_most 8 = .ok (.invokevirtual 166, 3) := by decide +kernel
theorem dX11_most_11 : decode cX11_most 11 = .ok (.ifCond .ne 5, 3) := by decide +kernel
theorem dX11_most_14 : decode cX11_most 14 = .ok (.iconst (-1), 1) := by decide +kernel
theorem dX11_most_15 : decode cX11_most 15 = .ok (.ireturn, 1) := by decide +kernel
theorem dX11_most_16 : decode cX11_most 16 = .ok (.aload_n 0, 1) := by decide +kernel
theorem dX11_most_17 : decode cX11_most 17 = .ok (.getfield 54, 3) := by decide +kernel
theorem dX11_most_20 : decode cX11_most 20 = .ok (.aload_n 0, 1) := by decide +kernel
theorem dX11_most_21 : decode cX11_most 21 = .ok (.getfield 82, 3) := by decide +kernel
theorem dX11_most_24 : decode cX11_most 24 = .ok (.aload_n 0, 1) := by decide +kernel
theorem dX11_most_25 : decode cX11_most 25 = .ok (.getfield 19, 3) := by decide +kernel
theorem dX11_most_28 : decode cX11_most 28 = .ok (.invokevirtual 227, 3) := by decide +kernel
theorem dX11_most_31 : decode cX11_most 31 = .ok (.iload_n 1, 1) := by decide +kernel
theorem dX11_most_32 : decode cX11_most 32 = .ok (.bipush (-9), 2) := by decide +kernel
theorem dX11_most_34 : decode cX11_most 34 = .ok (.if_icmp .ne 17, 3) := by decide +kernel
theorem dX11_most_37 : decode cX11_most 37 = .ok (.aload_n 0, 1) := by decide +kernel
theorem dX11_most_38 : decode cX11_most 38 = .ok (.getfield 54, 3) := by decide +kernel
theorem dX11_most_41 : decode cX11_most 41 = .ok (.aload_n 0, 1) := by decide +kernel
theorem dX11_most_42 : decode cX11_most 42 = .ok (.getfield 82, 3) := by decide +kernel
theorem dX11_most_45 : decode cX11_most 45 = .ok (.invokevirtual 230, 3) := by decide +kernel
theorem dX11_most_48 : decode cX11_most 48 = .ok (.goto 11, 3) := by decide +kernel
theorem dX11_most_51 : decode cX11_most 51 = .ok (.aload_n 0, 1) := by decide +kernel
theorem dX11_most_52 : decode cX11_most 52 = .ok (.getfield 54, 3) := by decide +kernel
theorem dX11_most_55 : decode cX11_most 55 = .ok (.iload_n 1, 1) := by decide +kernel
theorem dX11_most_56 : decode cX11_most 56 = .ok (.invokevirtual 233, 3) := by decide +kernel
theorem dX11_most_59 : decode cX11_most 59 = .ok (.ireturn, 1) := by decide +kernel
theorem dX11_richest_0 : decode cX11_richest 0 = .ok (.iload_n 1, 1) := by decide +kernel
theorem dX11_richest_1 : decode cX11_richest 1 = .ok (.bipush (-9), 2) := by decide +kernel
theorem dX11_richest_3 : decode cX11_richest 3 = .ok (.if_icmp .eq 13, 3) := by decide +kernel
theorem dX11_richest_6 : decode cX11_richest 6 = .ok (.aload_n 0, 1) := by decide +kernel
theorem dX11_richest_7 : decode cX11_richest 7 = .ok (.iload_n 1, 1) := by decide +kernel
theorem dX11_richest_8 : decode cX11_richest 8 = .ok (.invokevirtual 166, 3) := by decide +kernel
theorem dX11_richest_11 : decode cX11_richest 11 = .ok (.ifCond .ne 5, 3) := by decide +kernel
theorem dX11_richest_14 : decode cX11_richest 14 = .ok (.iconst (-1), 1) := by decide +kernel
theorem dX11_richest_15 : decode cX11_richest 15 = .ok (.ireturn, 1) := by decide +kernel
theorem dX11_richest_16 : decode cX11_richest 16 = .ok (.aload_n 0, 1) := by decide +kernel
theorem dX11_richest_17 : decode cX11_richest 17 = .ok (.getfield 54, 3) := by decide +kernel
theorem dX11_richest_20 : decode cX11_richest 20 = .ok (.aload_n 0, 1) := by decide +kernel
theorem dX11_richest_21 : decode cX11_richest 21 = .ok (.getfield 82, 3) := by decide +kernel
theorem dX11_richest_24 : decode cX11_richest 24 = .ok (.aload_n 0, 1) := by decide +kernel
theorem dX11_richest_25 : decode cX11_richest 25 = .ok (.getfield 19, 3) := by decide +kernel
theorem dX11_richest_28 : decode cX11_richest 28 = .ok (.invokevirtual 236, 3) := by decide +kernel
theorem dX11_richest_31 : decode cX11_richest 31 = .ok (.iload_n 1, 1) := by decide +kernel
theorem dX11_richest_32 : decode cX11_richest 32 = .ok (.bipush (-9), 2) := by decide +kernel
theorem dX11_richest_34 : decode cX11_richest 34 = .ok (.if_icmp .ne 17, 3) := by decide +kernel
theorem dX11_richest_37 : decode cX11_richest 37 = .ok (.aload_n 0, 1) := by decide +kernel
theorem dX11_richest_38 : decode cX11_richest 38 = .ok (.getfield 54, 3) := by decide +kernel
theorem dX11_richest_41 : decode cX11_richest 41 = .ok (.aload_n 0, 1) := by decide +kernel
theorem dX11_richest_42 : decode cX11_richest 42 = .ok (.getfield 82, 3) := by decide +kernel
theorem dX11_richest_45 : decode cX11_richest 45 = .ok (.invokevirtual 239, 3) := by decide +kernel
theorem dX11_richest_48 : decode cX11_richest 48 = .ok (.goto 11, 3) := by decide +kernel
theorem dX11_richest_51 : decode cX11_richest 51 = .ok (.aload_n 0, 1) := by decide +kernel
theorem dX11_richest_52 : decode cX11_richest 52 = .ok (.getfield 54, 3) := by decide +kernel
theorem dX11_richest_55 : decode cX11_richest 55 = .ok (.iload_n 1, 1) := by decide +kernel
theorem dX11_richest_56 : decode cX11_richest 56 = .ok (.invokevirtual 233, 3) := by decide +kernel
theorem dX11_richest_59 : decode cX11_richest 59 = .ok (.ireturn, 1) := by decide +kernel
theorem dX11_firstOut_0 : decode cX11_firstOut 0 = .ok (.iload_n 1, 1) := by decide +kernel
theorem dX11_firstOut_1 : decode cX11_firstOut 1 = .ok (.invokestatic 207, 3) := by decide +kernel
theorem dX11_firstOut_4 : decode cX11_firstOut 4 = .ok (.ifCond .eq 12, 3) := by decide +kernel
theorem dX11_firstOut_7 : decode cX11_firstOut 7 = .ok (.iload_n 2, 1) := by decide +kernel
theorem dX11_firstOut_8 : decode cX11_firstOut 8 = .ok (.iconst 0, 1) := by decide +kernel
theorem dX11_firstOut_9 : decode cX11_firstOut 9 = .ok (.iconst 1, 1) := by decide +kernel
theorem dX11_firstOut_10 : decode cX11_firstOut 10 = .ok (.invokestatic 93, 3) := by decide +kernel
theorem dX11_firstOut_13 : decode cX11_firstOut 13 = .ok (.ifCond .ne 5, 3) := by decide +kernel
theorem dX11_firstOut_16 : decode cX11_firstOut 16 = .ok (.iconst (-1), 1) := by decide +kernel
theorem dX11_firstOut_17 : decode cX11_firstOut 17 = .ok (.ireturn, 1) := by decide +kernel
theorem dX11_firstOut_18 : decode cX11_firstOut 18 = .ok (.iload_n 2, 1) := by decide +kernel
theorem dX11_firstOut_19 : decode cX11_firstOut 19 = .ok (.ifCond .ne 22, 3) := by decide +kernel
theorem dX11_firstOut_22 : decode cX11_firstOut 22 = .ok (.aload_n 0, 1) := by decide +kernel
theorem dX11_firstOut_23 : decode cX11_firstOut 23 = .ok (.getfield 61, 3) := by decide +kernel
theorem dX11_firstOut_26 : decode cX11_firstOut 26 = .ok (.aload_n 0, 1) := by decide +kernel
theorem dX11_firstOut_27 : decode cX11_firstOut 27 = .ok (.getfield 82, 3) := by decide +kernel
theorem dX11_firstOut_30 : decode cX11_firstOut 30 = .ok (.aload_n 0, 1) := by decide +kernel
theorem dX11_firstOut_31 : decode cX11_firstOut 31 = .ok (.getfield 19, 3) := by decide +kernel
theorem dX11_firstOut_34 : decode cX11_firstOut 34 = .ok (.iload_n 1, 1) := by decide +kernel
theorem dX11_firstOut_35 : decode cX11_firstOut 35 = .ok (.invokevirtual 242, 3) := by decide +kernel
theorem dX11_firstOut_38 : decode cX11_firstOut 38 = .ok (.goto 19, 3) := by decide +kernel
theorem dX11_firstOut_41 : decode cX11_firstOut 41 = .ok (.aload_n 0, 1) := by decide +kernel
theorem dX11_firstOut_42 : decode cX11_firstOut 42 = .ok (.getfield 61, 3) := by decide +kernel
theorem dX11_firstOut_45 : decode cX11_firstOut 45 = .ok (.aload_n 0, 1) := by decide +kernel
theorem dX11_firstOut_46 : decode cX11_firstOut 46 = .ok (.getfield 82, 3) := by decide +kernel
theorem dX11_firstOut_49 : decode cX11_firstOut 49 = .ok (.aload_n 0, 1) := by decide +kernel
theorem dX11_firstOut_50 : decode cX11_firstOut 50 = .ok (.getfield 19, 3) := by decide +kernel
theorem dX11_firstOut_53 : decode cX11_firstOut 53 = .ok (.iload_n 1, 1) := by decide +kernel
theorem dX11_firstOut_54 : decode cX11_firstOut 54 = .ok (.invokevirtual 246, 3) := by decide +kernel
theorem dX11_firstOut_57 : decode cX11_firstOut 57 = .ok (.ireturn, 1) := by decide +kernel
theorem dX11_holdsFor_0 : decode cX11_holdsFor 0 = .ok (.iload_n 1, 1) := by decide +kernel
theorem dX11_holdsFor_1 : decode cX11_holdsFor 1 = .ok (.invokestatic 207, 3) := by decide +kernel
theorem dX11_holdsFor_4 : decode cX11_holdsFor 4 = .ok (.ifCond .ne 5, 3) := by decide +kernel
theorem dX11_holdsFor_7 : decode cX11_holdsFor 7 = .ok (.iconst (-1), 1) := by decide +kernel
theorem dX11_holdsFor_8 : decode cX11_holdsFor 8 = .ok (.ireturn, 1) := by decide +kernel
theorem dX11_holdsFor_9 : decode cX11_holdsFor 9 = .ok (.aload_n 0, 1) := by decide +kernel
theorem dX11_holdsFor_10 : decode cX11_holdsFor 10 = .ok (.getfield 26, 3) := by decide +kernel
theorem dX11_holdsFor_13 : decode cX11_holdsFor 13 = .ok (.aload_n 0, 1) := by decide +kernel
theorem dX11_holdsFor_14 : decode cX11_holdsFor 14 = .ok (.getfield 82, 3) := by decide +kernel
theorem dX11_holdsFor_17 : decode cX11_holdsFor 17 = .ok (.aload_n 0, 1) := by decide +kernel
theorem dX11_holdsFor_18 : decode cX11_holdsFor 18 = .ok (.getfield 19, 3) := by decide +kernel
theorem dX11_holdsFor_21 : decode cX11_holdsFor 21 = .ok (.invokevirtual 133, 3) := by decide +kernel
theorem dX11_holdsFor_24 : decode cX11_holdsFor 24 = .ok (.aload_n 0, 1) := by decide +kernel
theorem dX11_holdsFor_25 : decode cX11_holdsFor 25 = .ok (.getfield 61, 3) := by decide +kernel
theorem dX11_holdsFor_28 : decode cX11_holdsFor 28 = .ok (.aload_n 0, 1) := by decide +kernel
theorem dX11_holdsFor_29 : decode cX11_holdsFor 29 = .ok (.getfield 82, 3) := by decide +kernel
theorem dX11_holdsFor_32 : decode cX11_holdsFor 32 = .ok (.aload_n 0, 1) := by decide +kernel
theorem dX11_holdsFor_33 : decode cX11_holdsFor 33 = .ok (.getfield 19, 3) := by decide +kernel
theorem dX11_holdsFor_36 : decode cX11_holdsFor 36 = .ok (.aload_n 0, 1) := by decide +kernel
theorem dX11_holdsFor_37 : decode cX11_holdsFor 37 = .ok (.getfield 26, 3) := by decide +kernel
theorem dX11_holdsFor_40 : decode cX11_holdsFor 40 = .ok (.iload_n 1, 1) := by decide +kernel
theorem dX11_holdsFor_41 : decode cX11_holdsFor 41 = .ok (.invokevirtual 249, 3) := by decide +kernel
theorem dX11_holdsFor_44 : decode cX11_holdsFor 44 = .ok (.ireturn, 1) := by decide +kernel
theorem dX11_bolts_0 : decode cX11_bolts 0 = .ok (.iload_n 1, 1) := by decide +kernel
theorem dX11_bolts_1 : decode cX11_bolts 1 = .ok (.invokestatic 207, 3) := by decide +kernel
theorem dX11_bolts_4 : decode cX11_bolts 4 = .ok (.ifCond .eq 22, 3) := by decide +kernel
theorem dX11_bolts_7 : decode cX11_bolts 7 = .ok (.iload_n 2, 1) := by decide +kernel
theorem dX11_bolts_8 : decode cX11_bolts 8 = .ok (.iconst 1, 1) := by decide +kernel
theorem dX11_bolts_9 : decode cX11_bolts 9 = .ok (.bipush 30, 2) := by decide +kernel
theorem dX11_bolts_11 : decode cX11_bolts 11 = .ok (.invokestatic 93, 3) := by decide +kernel
theorem dX11_bolts_14 : decode cX11_bolts 14 = .ok (.ifCond .eq 12, 3) := by decide +kernel
theorem dX11_bolts_17 : decode cX11_bolts 17 = .ok (.iload_n 3, 1) := by decide +kernel
theorem dX11_bolts_18 : decode cX11_bolts 18 = .ok (.iconst 0, 1) := by decide +kernel
theorem dX11_bolts_19 : decode cX11_bolts 19 = .ok (.iconst 1, 1) := by decide +kernel
theorem dX11_bolts_20 : decode cX11_bolts 20 = .ok (.invokestatic 93, 3) := by decide +kernel
theorem dX11_bolts_23 : decode cX11_bolts 23 = .ok (.ifCond .ne 5, 3) := by decide +kernel
theorem dX11_bolts_26 : decode cX11_bolts 26 = .ok (.iconst (-1), 1) := by decide +kernel
theorem dX11_bolts_27 : decode cX11_bolts 27 = .ok (.ireturn, 1) := by decide +kernel
theorem dX11_bolts_28 : decode cX11_bolts 28 = .ok (.aload_n 0, 1) := by decide +kernel
theorem dX11_bolts_29 : decode cX11_bolts 29 = .ok (.getfield 61, 3) := by decide +kernel
theorem dX11_bolts_32 : decode cX11_bolts 32 = .ok (.aload_n 0, 1) := by decide +kernel
theorem dX11_bolts_33 : decode cX11_bolts 33 = .ok (.getfield 82, 3) := by decide +kernel
theorem dX11_bolts_36 : decode cX11_bolts 36 = .ok (.aload_n 0, 1) := by decide +kernel
theorem dX11_bolts_37 : decode cX11_bolts 37 = .ok (.getfield 19, 3) := by decide +kernel
theorem dX11_bolts_40 : decode cX11_bolts 40 = .ok (.iload_n 1, 1) := by decide +kernel
theorem dX11_bolts_41 : decode cX11_bolts 41 = .ok (.iload_n 2, 1) := by decide +kernel
theorem dX11_bolts_42 : decode cX11_bolts 42 = .ok (.invokevirtual 253, 3) := by decide +kernel
theorem dX11_bolts_45 : decode cX11_bolts 45 = .ok (.istore 4, 2) := by decide +kernel
theorem dX11_bolts_47 : decode cX11_bolts 47 = .ok (.iload_n 3, 1) := by decide +kernel
theorem dX11_bolts_48 : decode cX11_bolts 48 = .ok (.ifCond .ne 8, 3) := by decide +kernel
theorem dX11_bolts_51 : decode cX11_bolts 51 = .ok (.iload 4, 2) := by decide +kernel
theorem dX11_bolts_53 : decode cX11_bolts 53 = .ok (.goto 25, 3) := by decide +kernel
theorem dX11_bolts_56 : decode cX11_bolts 56 = .ok (.iload 4, 2) := by decide +kernel
theorem dX11_bolts_58 : decode cX11_bolts 58 = .ok (.aload_n 0, 1) := by decide +kernel
theorem dX11_bolts_59 : decode cX11_bolts 59 = .ok (.getfield 61, 3) := by decide +kernel
theorem dX11_bolts_62 : decode cX11_bolts 62 = .ok (.aload_n 0, 1) := by decide +kernel
theorem dX11_bolts_63 : decode cX11_bolts 63 = .ok (.getfield 82, 3) := by decide +kernel
theorem dX11_bolts_66 : decode cX11_bolts 66 = .ok (.aload_n 0, 1) := by decide +kernel
theorem dX11_bolts_67 : decode cX11_bolts 67 = .ok (.getfield 19, 3) := by decide +kernel
theorem dX11_bolts_70 : decode cX11_bolts 70 = .ok (.iload_n 1, 1) := by decide +kernel
theorem dX11_bolts_71 : decode cX11_bolts 71 = .ok (.iload_n 2, 1) := by decide +kernel
theorem dX11_bolts_72 : decode cX11_bolts 72 = .ok (.invokevirtual 257, 3) := by decide +kernel
theorem dX11_bolts_75 : decode cX11_bolts 75 = .ok (.iconst (-1), 1) := by decide +kernel
theorem dX11_bolts_76 : decode cX11_bolts 76 = .ok (.ixor, 1) := by decide +kernel
theorem dX11_bolts_77 : decode cX11_bolts 77 = .ok (.iand, 1) := by decide +kernel
theorem dX11_bolts_78 : decode cX11_bolts 78 = .ok (.ireturn, 1) := by decide +kernel
theorem dX11_odds_0 : decode cX11_odds 0 = .ok (.aload_n 0, 1) := by decide +kernel
theorem dX11_odds_1 : decode cX11_odds 1 = .ok (.iload_n 1, 1) := by decide +kernel
theorem dX11_odds_2 : decode cX11_odds 2 = .ok (.iload_n 2, 1) := by decide +kernel
theorem dX11_odds_3 : decode cX11_odds 3 = .ok (.invokevirtual 152, 3) := by decide +kernel
theorem dX11_odds_6 : decode cX11_odds 6 = .ok (.ifCond .eq 23, 3) := by decide +kernel
theorem dX11_odds_9 : decode cX11_odds 9 = .ok (.iload_n 3, 1) := by decide +kernel
theorem dX11_odds_10 : decode cX11_odds 10 = .ok (.iconst 0, 1) := by decide +kernel
theorem dX11_odds_11 : decode cX11_odds 11 = .ok (.bipush 6, 2) := by decide +kernel
theorem dX11_odds_13 : decode cX11_odds 13 = .ok (.invokestatic 93, 3) := by decide +kernel
theorem dX11_odds_16 : decode cX11_odds 16 = .ok (.ifCond .eq 13, 3) := by decide +kernel
theorem dX11_odds_19 : decode cX11_odds 19 = .ok (.iload 4, 2) := by decide +kernel
theorem dX11_odds_21 : decode cX11_odds 21 = .ok (.iconst 0, 1) := by decide +kernel
theorem dX11_odds_22 : decode cX11_odds 22 = .ok (.iconst 1, 1) := by decide +kernel
theorem dX11_odds_23 : decode cX11_odds 23 = .ok (.invokestatic 93, 3) := by decide +kernel
theorem dX11_odds_26 : decode cX11_odds 26 = .ok (.ifCond .ne 7, 3) := by decide +kernel
theorem dX11_odds_29 : decode cX11_odds 29 = .ok (.ldc2_w 260, 3) := by decide +kernel
theorem dX11_odds_32 : decode cX11_odds 32 = .ok (.lreturn, 1) := by decide +kernel
theorem dX11_odds_33 : decode cX11_odds 33 = .ok (.iconst 2, 1) := by decide +kernel
theorem dX11_odds_34 : decode cX11_odds 34 = .ok (.iload_n 1, 1) := by decide +kernel
theorem dX11_odds_35 : decode cX11_odds 35 = .ok (.imul, 1) := by decide +kernel
theorem dX11_odds_36 : decode cX11_odds 36 = .ok (.iload_n 2, 1) := by decide +kernel
theorem dX11_odds_37 : decode cX11_odds 37 = .ok (.iadd, 1) := by decide +kernel
theorem dX11_odds_38 : decode cX11_odds 38 = .ok (.istore 5, 2) := by decide +kernel
theorem dX11_odds_40 : decode cX11_odds 40 = .ok (.aload_n 0, 1) := by decide +kernel
theorem dX11_odds_41 : decode cX11_odds 41 = .ok (.getfield 19, 3) := by decide +kernel
theorem dX11_odds_44 : decode cX11_odds 44 = .ok (.iload 5, 2) := by decide +kernel
theorem dX11_odds_46 : decode cX11_odds 46 = .ok (.invokevirtual 163, 3) := by decide +kernel
theorem dX11_odds_49 : decode cX11_odds 49 = .ok (.ifCond .eq 7, 3) := by decide +kernel
theorem dX11_odds_52 : decode cX11_odds 52 = .ok (.ldc2_w 262, 3) := by decide +kernel
theorem dX11_odds_55 : decode cX11_odds 55 = .ok (.lreturn, 1) := by decide +kernel
theorem dX11_odds_56 : decode cX11_odds 56 = .ok (.iload_n 3, 1) := by decide +kernel
theorem dX11_odds_57 : decode cX11_odds 57 = .ok (.invokestatic 264, 3) := by decide +kernel
theorem dX11_odds_60 : decode cX11_odds 60 = .ok (.lstore 6, 2) := by decide +kernel
theorem dX11_odds_62 : decode cX11_odds 62 = .ok (.aload_n 0, 1) := by decide +kernel
theorem dX11_odds_63 : decode cX11_odds 63 = .ok (.getfield 68, 3) := by decide +kernel
theorem dX11_odds_66 : decode cX11_odds 66 = .ok (.aload_n 0, 1) := by decide +kernel
theorem dX11_odds_67 : decode cX11_odds 67 = .ok (.getfield 19, 3) := by decide +kernel
theorem dX11_odds_70 : decode cX11_odds 70 = .ok (.iload 5, 2) := by decide +kernel
theorem dX11_odds_72 : decode cX11_odds 72 = .ok (.invokevirtual 156, 3) := by decide +kernel
theorem dX11_odds_75 : decode cX11_odds 75 = .ok (.aload_n 0, 1) := by decide +kernel
theorem dX11_odds_76 : decode cX11_odds 76 = .ok (.getfield 19, 3) := by decide +kernel
theorem dX11_odds_79 : decode cX11_odds 79 = .ok (.iload 5, 2) := by decide +kernel
theorem dX11_odds_81 : decode cX11_odds 81 = .ok (.invokevirtual 160, 3) := by decide +kernel
theorem dX11_odds_84 : decode cX11_odds 84 = .ok (.aload_n 0, 1) := by decide +kernel
theorem dX11_odds_85 : decode cX11_odds 85 = .ok (.getfield 82, 3) := by decide +kernel
theorem dX11_odds_88 : decode cX11_odds 88 = .ok (.iload_n 1, 1) := by decide +kernel
theorem dX11_odds_89 : decode cX11_odds 89 = .ok (.invokevirtual 268, 3) := by decide +kernel
theorem dX11_odds_92 : decode cX11_odds 92 = .ok (.iload_n 3, 1) := by decide +kernel
theorem dX11_odds_93 : decode cX11_odds 93 = .ok (.invokevirtual 271, 3) := by decide +kernel
theorem dX11_odds_96 : decode cX11_odds 96 = .ok (.lstore 8, 2) := by decide +kernel
theorem dX11_odds_98 : decode cX11_odds 98 = .ok (.lload 6, 2) := by decide +kernel
theorem dX11_odds_100 : decode cX11_odds 100 = .ok (.lload 8, 2) := by decide +kernel
theorem dX11_odds_102 : decode cX11_odds 102 = .ok (.invokestatic 275, 3) := by decide +kernel
theorem dX11_odds_105 : decode cX11_odds 105 = .ok (.lstore 10, 2) := by decide +kernel
theorem dX11_odds_107 : decode cX11_odds 107 = .ok (.iload 4, 2) := by decide +kernel
theorem dX11_odds_109 : decode cX11_odds 109 = .ok (.ifCond .ne 8, 3) := by decide +kernel
theorem dX11_odds_112 : decode cX11_odds 112 = .ok (.lload 8, 2) := by decide +kernel
theorem dX11_odds_114 : decode cX11_odds 114 = .ok (.goto 5, 3) := by decide +kernel
theorem dX11_odds_117 : decode cX11_odds 117 = .ok (.lload 6, 2) := by decide +kernel
theorem dX11_odds_119 : decode cX11_odds 119 = .ok (.lload 10, 2) := by decide +kernel
theorem dX11_odds_121 : decode cX11_odds 121 = .ok (.lconst 0, 1) := by decide +kernel
theorem dX11_odds_122 : decode cX11_odds 122 = .ok (.lcmp, 1) := by decide +kernel
theorem dX11_odds_123 : decode cX11_odds 123 = .ok (.ifCond .le 8, 3) := by decide +kernel
theorem dX11_odds_126 : decode cX11_odds 126 = .ok (.lload 10, 2) := by decide +kernel
theorem dX11_odds_128 : decode cX11_odds 128 = .ok (.goto 4, 3) := by decide +kernel
theorem dX11_odds_131 : decode cX11_odds 131 = .ok (.lconst 1, 1) := by decide +kernel
theorem dX11_odds_132 : decode cX11_odds 132 = .ok (.ldiv, 1) := by decide +kernel
theorem dX11_odds_133 : decode cX11_odds 133 = .ok (.lreturn, 1) := by decide +kernel
theorem dX11_orders_0 : decode cX11_orders 0 = .ok (.iload_n 1, 1) := by decide +kernel
theorem dX11_orders_1 : decode cX11_orders 1 = .ok (.iconst (-1), 1) := by decide +kernel
theorem dX11_orders_2 : decode cX11_orders 2 = .ok (.if_icmp .ge 5, 3) := by decide +kernel
theorem dX11_orders_5 : decode cX11_orders 5 = .ok (.iconst (-1), 1) := by decide +kernel
theorem dX11_orders_6 : decode cX11_orders 6 = .ok (.ireturn, 1) := by decide +kernel
theorem dX11_orders_7 : decode cX11_orders 7 = .ok (.iload_n 1, 1) := by decide +kernel
theorem dX11_orders_8 : decode cX11_orders 8 = .ok (.iconst (-1), 1) := by decide +kernel
theorem dX11_orders_9 : decode cX11_orders 9 = .ok (.if_icmp .ne 15, 3) := by decide +kernel
theorem dX11_orders_12 : decode cX11_orders 12 = .ok (.aload_n 0, 1) := by decide +kernel
theorem dX11_orders_13 : decode cX11_orders 13 = .ok (.getfield 75, 3) := by decide +kernel
theorem dX11_orders_16 : decode cX11_orders 16 = .ok (.aload_n 0, 1) := by decide +kernel
theorem dX11_orders_17 : decode cX11_orders 17 = .ok (.getfield 82, 3) := by decide +kernel
theorem dX11_orders_20 : decode cX11_orders 20 = .ok (.invokevirtual 279, 3) := by decide +kernel
theorem dX11_orders_23 : decode cX11_orders 23 = .ok (.ireturn, 1) := by decide +kernel
theorem dX11_orders_24 : decode cX11_orders 24 = .ok (.aload_n 0, 1) := by decide +kernel
theorem dX11_orders_25 : decode cX11_orders 25 = .ok (.getfield 75, 3) := by decide +kernel
theorem dX11_orders_28 : decode cX11_orders 28 = .ok (.aload_n 0, 1) := by decide +kernel
theorem dX11_orders_29 : decode cX11_orders 29 = .ok (.getfield 82, 3) := by decide +kernel
theorem dX11_orders_32 : decode cX11_orders 32 = .ok (.invokevirtual 280, 3) := by decide +kernel
theorem dX11_orders_35 : decode cX11_orders 35 = .ok (.ifCond .eq 6, 3) := by decide +kernel
theorem dX11_orders_38 : decode cX11_orders 38 = .ok (.bipush (-9), 2) := by decide +kernel
theorem dX11_orders_40 : decode cX11_orders 40 = .ok (.ireturn, 1) := by decide +kernel
theorem dX11_orders_41 : decode cX11_orders 41 = .ok (.iload_n 1, 1) := by decide +kernel
theorem dX11_orders_42 : decode cX11_orders 42 = .ok (.aload_n 0, 1) := by decide +kernel
theorem dX11_orders_43 : decode cX11_orders 43 = .ok (.getfield 82, 3) := by decide +kernel
theorem dX11_orders_46 : decode cX11_orders 46 = .ok (.getfield 283, 3) := by decide +kernel
theorem dX11_orders_49 : decode cX11_orders 49 = .ok (.if_icmp .ge 18, 3) := by decide +kernel
theorem dX11_orders_52 : decode cX11_orders 52 = .ok (.aload_n 0, 1) := by decide +kernel
theorem dX11_orders_53 : decode cX11_orders 53 = .ok (.getfield 75, 3) := by decide +kernel
theorem dX11_orders_56 : decode cX11_orders 56 = .ok (.aload_n 0, 1) := by decide +kernel
theorem dX11_orders_57 : decode cX11_orders 57 = .ok (.getfield 82, 3) := by decide +kernel
theorem dX11_orders_60 : decode cX11_orders 60 = .ok (.iload_n 1, 1) := by decide +kernel
theorem dX11_orders_61 : decode cX11_orders 61 = .ok (.invokevirtual 286, 3) := by decide +kernel
theorem dX11_orders_64 : decode cX11_orders 64 = .ok (.goto 5, 3) := by decide +kernel
theorem dX11_orders_67 : decode cX11_orders 67 = .ok (.bipush (-5), 2) := by decide +kernel
theorem dX11_orders_69 : decode cX11_orders 69 = .ok (.ireturn, 1) := by decide +kernel
theorem dX11_barred_0 : decode cX11_barred 0 = .ok (.aload_n 0, 1) := by decide +kernel
theorem dX11_barred_1 : decode cX11_barred 1 = .ok (.getfield 75, 3) := by decide +kernel
theorem dX11_barred_4 : decode cX11_barred 4 = .ok (.aload_n 0, 1) := by decide +kernel
theorem dX11_barred_5 : decode cX11_barred 5 = .ok (.getfield 82, 3) := by decide +kernel
theorem dX11_barred_8 : decode cX11_barred 8 = .ok (.invokevirtual 280, 3) := by decide +kernel
theorem dX11_barred_11 : decode cX11_barred 11 = .ok (.ireturn, 1) := by decide +kernel
theorem dX11_hoist_0 : decode cX11_hoist 0 = .ok (.iload_n 1, 1) := by decide +kernel
theorem dX11_hoist_1 : decode cX11_hoist 1 = .ok (.iconst 0, 1) := by decide +kernel
theorem dX11_hoist_2 : decode cX11_hoist 2 = .ok (.aload_n 0, 1) := by decide +kernel
theorem dX11_hoist_3 : decode cX11_hoist 3 = .ok (.getfield 82, 3) := by decide +kernel
theorem dX11_hoist_6 : decode cX11_hoist 6 = .ok (.getfield 120, 3) := by decide +kernel
theorem dX11_hoist_9 : decode cX11_hoist 9 = .ok (.iconst 1, 1) := by decide +kernel
theorem dX11_hoist_10 : decode cX11_hoist 10 = .ok (.isub, 1) := by decide +kernel
theorem dX11_hoist_11 : decode cX11_hoist 11 = .ok (.invokestatic 93, 3) := by decide +kernel
theorem dX11_hoist_14 : decode cX11_hoist 14 = .ok (.ifCond .eq 13, 3) := by decide +kernel
theorem dX11_hoist_17 : decode cX11_hoist 17 = .ok (.iload_n 2, 1) := by decide +kernel
theorem dX11_hoist_18 : decode cX11_hoist 18 = .ok (.iconst 1, 1) := by decide +kernel
theorem dX11_hoist_19 : decode cX11_hoist 19 = .ok (.bipush 60, 2) := by decide +kernel
theorem dX11_hoist_21 : decode cX11_hoist 21 = .ok (.invokestatic 93, 3) := by decide +kernel
theorem dX11_hoist_24 : decode cX11_hoist 24 = .ok (.ifCond .ne 5, 3) := by decide +kernel
theorem dX11_hoist_27 : decode cX11_hoist 27 = .ok (.iconst (-1), 1) := by decide +kernel
theorem dX11_hoist_28 : decode cX11_hoist 28 = .ok (.ireturn, 1) := by decide +kernel
theorem dX11_hoist_29 : decode cX11_hoist 29 = .ok (.aload_n 0, 1) := by decide +kernel
theorem dX11_hoist_30 : decode cX11_hoist 30 = .ok (.getfield 26, 3) := by decide +kernel
theorem dX11_hoist_33 : decode cX11_hoist 33 = .ok (.aload_n 0, 1) := by decide +kernel
theorem dX11_hoist_34 : decode cX11_hoist 34 = .ok (.getfield 82, 3) := by decide +kernel
theorem dX11_hoist_37 : decode cX11_hoist 37 = .ok (.aload_n 0, 1) := by decide +kernel
theorem dX11_hoist_38 : decode cX11_hoist 38 = .ok (.getfield 19, 3) := by decide +kernel
theorem dX11_hoist_41 : decode cX11_hoist 41 = .ok (.invokevirtual 133, 3) := by decide +kernel
theorem dX11_hoist_44 : decode cX11_hoist 44 = .ok (.iload_n 2, 1) := by decide +kernel
theorem dX11_hoist_45 : decode cX11_hoist 45 = .ok (.aload_n 0, 1) := by decide +kernel
theorem dX11_hoist_46 : decode cX11_hoist 46 = .ok (.getfield 82, 3) := by decide +kernel
theorem dX11_hoist_49 : decode cX11_hoist 49 = .ok (.getfield 123, 3) := by decide +kernel
theorem dX11_hoist_52 : decode cX11_hoist 52 = .ok (.iload_n 1, 1) := by decide +kernel
theorem dX11_hoist_53 : decode cX11_hoist 53 = .ok (.iaload, 1) := by decide +kernel
theorem dX11_hoist_54 : decode cX11_hoist 54 = .ok (.iconst 4, 1) := by decide +kernel
theorem dX11_hoist_55 : decode cX11_hoist 55 = .ok (.idiv, 1) := by decide +kernel
theorem dX11_hoist_56 : decode cX11_hoist 56 = .ok (.iadd, 1) := by decide +kernel
theorem dX11_hoist_57 : decode cX11_hoist 57 = .ok (.istore_n 3, 1) := by decide +kernel
theorem dX11_hoist_58 : decode cX11_hoist 58 = .ok (.aload_n 0, 1) := by decide +kernel
theorem dX11_hoist_59 : decode cX11_hoist 59 = .ok (.getfield 82, 3) := by decide +kernel
theorem dX11_hoist_62 : decode cX11_hoist 62 = .ok (.getfield 127, 3) := by decide +kernel
theorem dX11_hoist_65 : decode cX11_hoist 65 = .ok (.iload_n 1, 1) := by decide +kernel
theorem dX11_hoist_66 : decode cX11_hoist 66 = .ok (.iaload, 1) := by decide +kernel
theorem dX11_hoist_67 : decode cX11_hoist 67 = .ok (.aload_n 0, 1) := by decide +kernel
theorem dX11_hoist_68 : decode cX11_hoist 68 = .ok (.getfield 26, 3) := by decide +kernel
theorem dX11_hoist_71 : decode cX11_hoist 71 = .ok (.getfield 137, 3) := by decide +kernel
theorem dX11_hoist_74 : decode cX11_hoist 74 = .ok (.iload_n 1, 1) := by decide +kernel
theorem dX11_hoist_75 : decode cX11_hoist 75 = .ok (.iaload, 1) := by decide +kernel
theorem dX11_hoist_76 : decode cX11_hoist 76 = .ok (.isub, 1) := by decide +kernel
theorem dX11_hoist_77 : decode cX11_hoist 77 = .ok (.iload_n 2, 1) := by decide +kernel
theorem dX11_hoist_78 : decode cX11_hoist 78 = .ok (.isub, 1) := by decide +kernel
theorem dX11_hoist_79 : decode cX11_hoist 79 = .ok (.istore 4, 2) := by decide +kernel
theorem dX11_hoist_81 : decode cX11_hoist 81 = .ok (.aload_n 0, 1) := by decide +kernel
theorem dX11_hoist_82 : decode cX11_hoist 82 = .ok (.iload_n 3, 1) := by decide +kernel
theorem dX11_hoist_83 : decode cX11_hoist 83 = .ok (.iload 4, 2) := by decide +kernel
theorem dX11_hoist_85 : decode cX11_hoist 85 = .ok (.invokevirtual 290, 3) := by decide +kernel
theorem dX11_hoist_88 : decode cX11_hoist 88 = .ok (.ireturn, 1) := by decide +kernel
theorem dX11_test_0 : decode cX11_test 0 = .ok (.aload_n 0, 1) := by decide +kernel
theorem dX11_test_1 : decode cX11_test 1 = .ok (.iload_n 1, 1) := by decide +kernel
theorem dX11_test_2 : decode cX11_test 2 = .ok (.invokevirtual 140, 3) := by decide +kernel
theorem dX11_test_5 : decode cX11_test 5 = .ok (.ifCond .eq 22, 3) := by decide +kernel
theorem dX11_test_8 : decode cX11_test 8 = .ok (.iload_n 2, 1) := by decide +kernel
theorem dX11_test_9 : decode cX11_test 9 = .ok (.iconst 1, 1) := by decide +kernel
theorem dX11_test_10 : decode cX11_test 10 = .ok (.bipush 60, 2) := by decide +kernel
theorem dX11_test_12 : decode cX11_test 12 = .ok (.invokestatic 93, 3) := by decide +kernel
theorem dX11_test_15 : decode cX11_test 15 = .ok (.ifCond .eq 12, 3) := by decide +kernel
theorem dX11_test_18 : decode cX11_test 18 = .ok (.iload_n 3, 1) := by decide +kernel
theorem dX11_test_19 : decode cX11_test 19 = .ok (.iconst 0, 1) := by decide +kernel
theorem dX11_test_20 : decode cX11_test 20 = .ok (.iconst 1, 1) := by decide +kernel
theorem dX11_test_21 : decode cX11_test 21 = .ok (.invokestatic 93, 3) := by decide +kernel
theorem dX11_test_24 : decode cX11_test 24 = .ok (.ifCond .ne 5, 3) := by decide +kernel
theorem dX11_test_27 : decode cX11_test 27 = .ok (.iconst (-1), 1) := by decide +kernel
theorem dX11_test_28 : decode cX11_test 28 = .ok (.ireturn, 1) := by decide +kernel
theorem dX11_test_29 : decode cX11_test 29 = .ok (.aload_n 0, 1) := by decide +kernel
theorem dX11_test_30 : decode cX11_test 30 = .ok (.getfield 47, 3) := by decide +kernel
theorem dX11_test_33 : decode cX11_test 33 = .ok (.iload_n 1, 1) := by decide +kernel
theorem dX11_test_34 : decode cX11_test 34 = .ok (.iload_n 2, 1) := by decide +kernel
theorem dX11_test_35 : decode cX11_test 35 = .ok (.iload_n 3, 1) := by decide +kernel
theorem dX11_test_36 : decode cX11_test 36 = .ok (.invokevirtual 294, 3) := by decide +kernel
theorem dX11_test_39 : decode cX11_test 39 = .ok (.ifCond .eq 13, 3) := by decide +kernel
theorem dX11_test_42 : decode cX11_test 42 = .ok (.aload_n 0, 1) := by decide +kernel
theorem dX11_test_43 : decode cX11_test 43 = .ok (.getfield 47, 3) := by decide +kernel
theorem dX11_test_46 : decode cX11_test 46 = .ok (.getfield 117, 3) := by decide +kernel
theorem dX11_test_49 : decode cX11_test 49 = .ok (.goto 5, 3) := by decide +kernel
theorem dX11_test_52 : decode cX11_test 52 = .ok (.bipush (-3), 2) := by decide +kernel
theorem dX11_test_54 : decode cX11_test 54 = .ok (.ireturn, 1) := by decide +kernel
theorem dX11_forget_0 : decode cX11_forget 0 = .ok (.aload_n 0, 1) := by decide +kernel
theorem dX11_forget_1 : decode cX11_forget 1 = .ok (.getfield 47, 3) := by decide +kernel
theorem dX11_forget_4 : decode cX11_forget 4 = .ok (.getfield 117, 3) := by decide +kernel
theorem dX11_forget_7 : decode cX11_forget 7 = .ok (.istore_n 1, 1) := by decide +kernel
theorem dX11_forget_8 : decode cX11_forget 8 = .ok (.aload_n 0, 1) := by decide +kernel
theorem dX11_forget_9 : decode cX11_forget 9 = .ok (.getfield 47, 3) := by decide +kernel
theorem dX11_forget_12 : decode cX11_forget 12 = .ok (.iconst 0, 1) := by decide +kernel
theorem dX11_forget_13 : decode cX11_forget 13 = .ok (.putfield 117, 3) := by decide +kernel
theorem dX11_forget_16 : decode cX11_forget 16 = .ok (.iload_n 1, 1) := by decide +kernel
theorem dX11_forget_17 : decode cX11_forget 17 = .ok (.ireturn, 1) := by decide +kernel
theorem dX11_mayBe_0 : decode cX11_mayBe 0 = .ok (.aload_n 0, 1) := by decide +kernel
theorem dX11_mayBe_1 : decode cX11_mayBe 1 = .ok (.getfield 47, 3) := by decide +kernel
theorem dX11_mayBe_4 : decode cX11_mayBe 4 = .ok (.aload_n 0, 1) := by decide +kernel
theorem dX11_mayBe_5 : decode cX11_mayBe 5 = .ok (.getfield 82, 3) := by decide +kernel
theorem dX11_mayBe_8 : decode cX11_mayBe 8 = .ok (.invokevirtual 297, 3) := by decide +kernel
theorem dX11_mayBe_11 : decode cX11_mayBe 11 = .ok (.ireturn, 1) := by decide +kernel
theorem dX11_ask_0 : decode cX11_ask 0 = .ok (.iload_n 1, 1) := by decide +kernel
theorem dX11_ask_1 : decode cX11_ask 1 = .ok (.iconst 0, 1) := by decide +kernel
theorem dX11_ask_2 : decode cX11_ask 2 = .ok (.iconst 1, 1) := by decide +kernel
theorem dX11_ask_3 : decode cX11_ask 3 = .ok (.invokestatic 93, 3) := by decide +kernel
theorem dX11_ask_6 : decode cX11_ask 6 = .ok (.ifCond .ne 5, 3) := by decide +kernel
theorem dX11_ask_9 : decode cX11_ask 9 = .ok (.iconst (-1), 1) := by decide +kernel
theorem dX11_ask_10 : decode cX11_ask 10 = .ok (.ireturn, 1) := by decide +kernel
theorem dX11_ask_11 : decode cX11_ask 11 = .ok (.aload_n 0, 1) := by decide +kernel
theorem dX11_ask_12 : decode cX11_ask 12 = .ok (.getfield 82, 3) := by decide +kernel
theorem dX11_ask_15 : decode cX11_ask 15 = .ok (.getfield 283, 3) := by decide +kernel
theorem dX11_ask_18 : decode cX11_ask 18 = .ok (.ifCond .ne 6, 3) := by decide +kernel
theorem dX11_ask_21 : decode cX11_ask 21 = .ok (.bipush (-9), 2) := by decide +kernel
theorem dX11_ask_23 : decode cX11_ask 23 = .ok (.ireturn, 1) := by decide +kernel
theorem dX11_ask_24 : decode cX11_ask 24 = .ok (.aload_n 0, 1) := by decide +kernel
theorem dX11_ask_25 : decode cX11_ask 25 = .ok (.getfield 47, 3) := by decide +kernel
theorem dX11_ask_28 : decode cX11_ask 28 = .ok (.aload_n 0, 1) := by decide +kernel
theorem dX11_ask_29 : decode cX11_ask 29 = .ok (.getfield 82, 3) := by decide +kernel
theorem dX11_ask_32 : decode cX11_ask 32 = .ok (.invokevirtual 300, 3) := by decide +kernel
theorem dX11_ask_35 : decode cX11_ask 35 = .ok (.iload_n 1, 1) := by decide +kernel
theorem dX11_ask_36 : decode cX11_ask 36 = .ok (.ifCond .ne 13, 3) := by decide +kernel
theorem dX11_ask_39 : decode cX11_ask 39 = .ok (.aload_n 0, 1) := by decide +kernel
theorem dX11_ask_40 : decode cX11_ask 40 = .ok (.getfield 47, 3) := by decide +kernel
theorem dX11_ask_43 : decode cX11_ask 43 = .ok (.getfield 303, 3) := by decide +kernel
theorem dX11_ask_46 : decode cX11_ask 46 = .ok (.goto 10, 3) := by decide +kernel
theorem dX11_ask_49 : decode cX11_ask 49 = .ok (.aload_n 0, 1) := by decide +kernel
theorem dX11_ask_50 : decode cX11_ask 50 = .ok (.getfield 47, 3) := by decide +kernel
theorem dX11_ask_53 : decode cX11_ask 53 = .ok (.getfield 306, 3) := by decide +kernel
theorem dX11_ask_56 : decode cX11_ask 56 = .ok (.ireturn, 1) := by decide +kernel
theorem dX11_rate_0 : decode cX11_rate 0 = .ok (.aload_n 0, 1) := by decide +kernel
theorem dX11_rate_1 : decode cX11_rate 1 = .ok (.iload_n 2, 1) := by decide +kernel
theorem dX11_rate_2 : decode cX11_rate 2 = .ok (.invokevirtual 166, 3) := by decide +kernel
theorem dX11_rate_5 : decode cX11_rate 5 = .ok (.ifCond .ne 7, 3) := by decide +kernel
theorem dX11_rate_8 : decode cX11_rate 8 = .ok (.ldc_w 309, 3) := by decide +kernel
theorem dX11_rate_11 : decode cX11_rate 11 = .ok (.ireturn, 1) := by decide +kernel
theorem dX11_rate_12 : decode cX11_rate 12 = .ok (.iload_n 1, 1) := by decide +kernel
theorem dX11_rate_13 : decode cX11_rate 13 = .ok (.tableswitch 75 0 5 #[39, 45, 51, 57, 63, 69], 39) := by decide +kernel
theorem dX11_rate_52 : decode cX11_rate 52 = .ok (.aload_n 0, 1) := by decide +kernel
theorem dX11_rate_53 : decode cX11_rate 53 = .ok (.iload_n 2, 1) := by decide +kernel
theorem dX11_rate_54 : decode cX11_rate 54 = .ok (.invokevirtual 310, 3) := by decide +kernel
theorem dX11_rate_57 : decode cX11_rate 57 = .ok (.ireturn, 1) := by decide +kernel
theorem dX11_rate_58 : decode cX11_rate 58 = .ok (.aload_n 0, 1) := by decide +kernel
theorem dX11_rate_59 : decode cX11_rate 59 = .ok (.iload_n 2, 1) := by decide +kernel
theorem dX11_rate_60 : decode cX11_rate 60 = .ok (.invokevirtual 313, 3) := by decide +kernel
theorem dX11_rate_63 : decode cX11_rate 63 = .ok (.ireturn, 1) := by decide +kernel
theorem dX11_rate_64 : decode cX11_rate 64 = .ok (.aload_n 0, 1) := by decide +kernel
theorem dX11_rate_65 : decode cX11_rate 65 = .ok (.iload_n 2, 1) := by decide +kernel
theorem dX11_rate_66 : decode cX11_rate 66 = .ok (.invokevirtual 316, 3) := by decide +kernel
theorem dX11_rate_69 : decode cX11_rate 69 = .ok (.ireturn, 1) := by decide +kernel
theorem dX11_rate_70 : decode cX11_rate 70 = .ok (.aload_n 0, 1) := by decide +kernel
theorem dX11_rate_71 : decode cX11_rate 71 = .ok (.iload_n 2, 1) := by decide +kernel
theorem dX11_rate_72 : decode cX11_rate 72 = .ok (.invokevirtual 319, 3) := by decide +kernel
theorem dX11_rate_75 : decode cX11_rate 75 = .ok (.ireturn, 1) := by decide +kernel
theorem dX11_rate_76 : decode cX11_rate 76 = .ok (.aload_n 0, 1) := by decide +kernel
theorem dX11_rate_77 : decode cX11_rate 77 = .ok (.iload_n 2, 1) := by decide +kernel
theorem dX11_rate_78 : decode cX11_rate 78 = .ok (.invokevirtual 322, 3) := by decide +kernel
theorem dX11_rate_81 : decode cX11_rate 81 = .ok (.ireturn, 1) := by decide +kernel
theorem dX11_rate_82 : decode cX11_rate 82 = .ok (.aload_n 0, 1) := by decide +kernel
theorem dX11_rate_83 : decode cX11_rate 83 = .ok (.iload_n 2, 1) := by decide +kernel
theorem dX11_rate_84 : decode cX11_rate 84 = .ok (.invokevirtual 325, 3) := by decide +kernel
theorem dX11_rate_87 : decode cX11_rate 87 = .ok (.ireturn, 1) := by decide +kernel
theorem dX11_rate_88 : decode cX11_rate 88 = .ok (.ldc_w 309, 3) := by decide +kernel
theorem dX11_rate_91 : decode cX11_rate 91 = .ok (.ireturn, 1) := by decide +kernel
theorem dX11_keep_0 : decode cX11_keep 0 = .ok (.iload_n 1, 1) := by decide +kernel
theorem dX11_keep_1 : decode cX11_keep 1 = .ok (.iconst 0, 1) := by decide +kernel
theorem dX11_keep_2 : decode cX11_keep 2 = .ok (.iconst 1, 1) := by decide +kernel
theorem dX11_keep_3 : decode cX11_keep 3 = .ok (.invokestatic 93, 3) := by decide +kernel
theorem dX11_keep_6 : decode cX11_keep 6 = .ok (.ifCond .ne 5, 3) := by decide +kernel
theorem dX11_keep_9 : decode cX11_keep 9 = .ok (.iconst (-1), 1) := by decide +kernel
theorem dX11_keep_10 : decode cX11_keep 10 = .ok (.ireturn, 1) := by decide +kernel
theorem dX11_keep_11 : decode cX11_keep 11 = .ok (.aload_n 0, 1) := by decide +kernel
theorem dX11_keep_12 : decode cX11_keep 12 = .ok (.getfield 40, 3) := by decide +kernel
theorem dX11_keep_15 : decode cX11_keep 15 = .ok (.iload_n 1, 1) := by decide +kernel
theorem dX11_keep_16 : decode cX11_keep 16 = .ok (.aload_n 0, 1) := by decide +kernel
theorem dX11_keep_17 : decode cX11_keep 17 = .ok (.getfield 19, 3) := by decide +kernel
theorem dX11_keep_20 : decode cX11_keep 20 = .ok (.invokevirtual 328, 3) := by decide +kernel
theorem dX11_keep_23 : decode cX11_keep 23 = .ok (.aload_n 0, 1) := by decide +kernel
theorem dX11_keep_24 : decode cX11_keep 24 = .ok (.getfield 19, 3) := by decide +kernel
theorem dX11_keep_27 : decode cX11_keep 27 = .ok (.invokevirtual 192, 3) := by decide +kernel
theorem dX11_keep_30 : decode cX11_keep 30 = .ok (.ireturn, 1) := by decide +kernel
theorem dX11_back_0 : decode cX11_back 0 = .ok (.iload_n 1, 1) := by decide +kernel
theorem dX11_back_1 : decode cX11_back 1 = .ok (.iconst 0, 1) := by decide +kernel
theorem dX11_back_2 : decode cX11_back 2 = .ok (.iconst 1, 1) := by decide +kernel
theorem dX11_back_3 : decode cX11_back 3 = .ok (.invokestatic 93, 3) := by decide +kernel
theorem dX11_back_6 : decode cX11_back 6 = .ok (.ifCond .ne 5, 3) := by decide +kernel
theorem dX11_back_9 : decode cX11_back 9 = .ok (.iconst (-1), 1) := by decide +kernel
theorem dX11_back_10 : decode cX11_back 10 = .ok (.ireturn, 1) := by decide +kernel
theorem dX11_back_11 : decode cX11_back 11 = .ok (.aload_n 0, 1) := by decide +kernel
theorem dX11_back_12 : decode cX11_back 12 = .ok (.getfield 40, 3) := by decide +kernel
theorem dX11_back_15 : decode cX11_back 15 = .ok (.iload_n 1, 1) := by decide +kernel
theorem dX11_back_16 : decode cX11_back 16 = .ok (.aload_n 0, 1) := by decide +kernel
theorem dX11_back_17 : decode cX11_back 17 = .ok (.getfield 19, 3) := by decide +kernel
theorem dX11_back_20 : decode cX11_back 20 = .ok (.invokevirtual 332, 3) := by decide +kernel
theorem dX11_back_23 : decode cX11_back 23 = .ok (.ifCond .ne 6, 3) := by decide +kernel
theorem dX11_back_26 : decode cX11_back 26 = .ok (.bipush (-2), 2) := by decide +kernel
theorem dX11_back_28 : decode cX11_back 28 = .ok (.ireturn, 1) := by decide +kernel
theorem dX11_back_29 : decode cX11_back 29 = .ok (.aload_n 0, 1) := by decide +kernel
theorem dX11_back_30 : decode cX11_back 30 = .ok (.getfield 33, 3) := by decide +kernel
theorem dX11_back_33 : decode cX11_back 33 = .ok (.invokevirtual 113, 3) := by decide +kernel
theorem dX11_back_36 : decode cX11_back 36 = .ok (.aload_n 0, 1) := by decide +kernel
theorem dX11_back_37 : decode cX11_back 37 = .ok (.getfield 19, 3) := by decide +kernel
theorem dX11_back_40 : decode cX11_back 40 = .ok (.invokevirtual 192, 3) := by decide +kernel
theorem dX11_back_43 : decode cX11_back 43 = .ok (.ireturn, 1) := by decide +kernel
theorem dX11_count_0 : decode cX11_count 0 = .ok (.iload_n 1, 1) := by decide +kernel
theorem dX11_count_1 : decode cX11_count 1 = .ok (.tableswitch 91 0 5 #[39, 47, 55, 63, 71, 83], 39) := by decide +kernel
theorem dX11_count_40 : decode cX11_count 40 = .ok (.aload_n 0, 1) := by decide +kernel
theorem dX11_count_41 : decode cX11_count 41 = .ok (.getfield 82, 3) := by decide +kernel
theorem dX11_count_44 : decode cX11_count 44 = .ok (.getfield 120, 3) := by decide +kernel
theorem dX11_count_47 : decode cX11_count 47 = .ok (.ireturn, 1) := by decide +kernel
theorem dX11_count_48 : decode cX11_count 48 = .ok (.aload_n 0, 1) := by decide +kernel
theorem dX11_count_49 : decode cX11_count 49 = .ok (.getfield 82, 3) := by decide +kernel
theorem dX11_count_52 : decode cX11_count 52 = .ok (.getfield 283, 3) := by decide +kernel
theorem dX11_count_55 : decode cX11_count 55 = .ok (.ireturn, 1) := by decide +kernel
theorem dX11_count_56 : decode cX11_count 56 = .ok (.aload_n 0, 1) := by decide +kernel
theorem dX11_count_57 : decode cX11_count 57 = .ok (.getfield 82, 3) := by decide +kernel
theorem dX11_count_60 : decode cX11_count 60 = .ok (.getfield 336, 3) := by decide +kernel
theorem dX11_count_63 : decode cX11_count 63 = .ok (.ireturn, 1) := by decide +kernel
theorem dX11_count_64 : decode cX11_count 64 = .ok (.aload_n 0, 1) := by decide +kernel
theorem dX11_count_65 : decode cX11_count 65 = .ok (.getfield 47, 3) := by decide +kernel
theorem dX11_count_68 : decode cX11_count 68 = .ok (.getfield 117, 3) := by decide +kernel
theorem dX11_count_71 : decode cX11_count 71 = .ok (.ireturn, 1) := by decide +kernel
theorem dX11_count_72 : decode cX11_count 72 = .ok (.aload_n 0, 1) := by decide +kernel
theorem dX11_count_73 : decode cX11_count 73 = .ok (.getfield 19, 3) := by decide +kernel
theorem dX11_count_76 : decode cX11_count 76 = .ok (.aload_n 0, 1) := by decide +kernel
theorem dX11_count_77 : decode cX11_count 77 = .ok (.getfield 82, 3) := by decide +kernel
theorem dX11_count_80 : decode cX11_count 80 = .ok (.invokevirtual 214, 3) := by decide +kernel
theorem dX11_count_83 : decode cX11_count 83 = .ok (.ireturn, 1) := by decide +kernel
theorem dX11_count_84 : decode cX11_count 84 = .ok (.aload_n 0, 1) := by decide +kernel
theorem dX11_count_85 : decode cX11_count 85 = .ok (.getfield 10, 3) := by decide +kernel
theorem dX11_count_88 : decode cX11_count 88 = .ok (.getfield 101, 3) := by decide +kernel
theorem dX11_count_91 : decode cX11_count 91 = .ok (.ireturn, 1) := by decide +kernel
theorem dX11_count_92 : decode cX11_count 92 = .ok (.iconst (-1), 1) := by decide +kernel
theorem dX11_count_93 : decode cX11_count 93 = .ok (.ireturn, 1) := by decide +kernel
theorem dX11_trace_0 : decode cX11_trace 0 = .ok (.aload_n 0, 1) := by decide +kernel
theorem dX11_trace_1 : decode cX11_trace 1 = .ok (.getfield 89, 3) := by decide +kernel
theorem dX11_trace_4 : decode cX11_trace 4 = .ok (.lreturn, 1) := by decide +kernel
theorem dX11_within_0 : decode cX11_within 0 = .ok (.iload_n 0, 1) := by decide +kernel
theorem dX11_within_1 : decode cX11_within 1 = .ok (.iload_n 1, 1) := by decide +kernel
theorem dX11_within_2 : decode cX11_within 2 = .ok (.if_icmp .lt 12, 3) := by decide +kernel
theorem dX11_within_5 : decode cX11_within 5 = .ok (.iload_n 0, 1) := by decide +kernel
theorem dX11_within_6 : decode cX11_within 6 = .ok (.iload_n 2, 1) := by decide +kernel
theorem dX11_within_7 : decode cX11_within 7 = .ok (.if_icmp .gt 7, 3) := by decide +kernel
theorem dX11_within_10 : decode cX11_within 10 = .ok (.iconst 1, 1) := by decide +kernel
theorem dX11_within_11 : decode cX11_within 11 = .ok (.goto 4, 3) := by decide +kernel
theorem dX11_within_14 : decode cX11_within 14 = .ok (.iconst 0, 1) := by decide +kernel
theorem dX11_within_15 : decode cX11_within 15 = .ok (.ireturn, 1) := by decide +kernel
theorem dX11_isForce_0 : decode cX11_isForce 0 = .ok (.iload_n 0, 1) := by decide +kernel
theorem dX11_isForce_1 : decode cX11_isForce 1 = .ok (.iconst 1, 1) := by decide +kernel
theorem dX11_isForce_2 : decode cX11_isForce 2 = .ok (.bipush 9, 2) := by decide +kernel
theorem dX11_isForce_4 : decode cX11_isForce 4 = .ok (.invokestatic 93, 3) := by decide +kernel
theorem dX11_isForce_7 : decode cX11_isForce 7 = .ok (.ireturn, 1) := by decide +kernel
theorem dX11_isPlank_0 : decode cX11_isPlank 0 = .ok (.iload_n 1, 1) := by decide +kernel
theorem dX11_isPlank_1 : decode cX11_isPlank 1 = .ok (.iconst 0, 1) := by decide +kernel
theorem dX11_isPlank_2 : decode cX11_isPlank 2 = .ok (.aload_n 0, 1) := by decide +kernel
theorem dX11_isPlank_3 : decode cX11_isPlank 3 = .ok (.getfield 82, 3) := by decide +kernel
theorem dX11_isPlank_6 : decode cX11_isPlank 6 = .ok (.getfield 283, 3) := by decide +kernel
theorem dX11_isPlank_9 : decode cX11_isPlank 9 = .ok (.iconst 1, 1) := by decide +kernel
theorem dX11_isPlank_10 : decode cX11_isPlank 10 = .ok (.isub, 1) := by decide +kernel
theorem dX11_isPlank_11 : decode cX11_isPlank 11 = .ok (.invokestatic 93, 3) := by decide +kernel
theorem dX11_isPlank_14 : decode cX11_isPlank 14 = .ok (.ireturn, 1) := by decide +kernel
theorem dX11_isEnd_0 : decode cX11_isEnd 0 = .ok (.aload_n 0, 1) := by decide +kernel
theorem dX11_isEnd_1 : decode cX11_isEnd 1 = .ok (.iload_n 1, 1) := by decide +kernel
theorem dX11_isEnd_2 : decode cX11_isEnd 2 = .ok (.invokevirtual 140, 3) := by decide +kernel
theorem dX11_isEnd_5 : decode cX11_isEnd 5 = .ok (.ifCond .eq 16, 3) := by decide +kernel
theorem dX11_isEnd_8 : decode cX11_isEnd 8 = .ok (.iload_n 2, 1) := by decide +kernel
theorem dX11_isEnd_9 : decode cX11_isEnd 9 = .ok (.iconst 0, 1) := by decide +kernel
theorem dX11_isEnd_10 : decode cX11_isEnd 10 = .ok (.iconst 1, 1) := by decide +kernel
theorem dX11_isEnd_11 : decode cX11_isEnd 11 = .ok (.invokestatic 93, 3) := by decide +kernel
theorem dX11_isEnd_14 : decode cX11_isEnd 14 = .ok (.ifCond .eq 7, 3) := by decide +kernel
theorem dX11_isEnd_17 : decode cX11_isEnd 17 = .ok (.iconst 1, 1) := by decide +kernel
theorem dX11_isEnd_18 : decode cX11_isEnd 18 = .ok (.goto 4, 3) := by decide +kernel
theorem dX11_isEnd_21 : decode cX11_isEnd 21 = .ok (.iconst 0, 1) := by decide +kernel
theorem dX11_isEnd_22 : decode cX11_isEnd 22 = .ok (.ireturn, 1) := by decide +kernel
theorem dX11_isChild_0 : decode cX11_isChild 0 = .ok (.iload_n 1, 1) := by decide +kernel
theorem dX11_isChild_1 : decode cX11_isChild 1 = .ok (.iconst 0, 1) := by decide +kernel
theorem dX11_isChild_2 : decode cX11_isChild 2 = .ok (.aload_n 0, 1) := by decide +kernel
theorem dX11_isChild_3 : decode cX11_isChild 3 = .ok (.getfield 82, 3) := by decide +kernel
theorem dX11_isChild_6 : decode cX11_isChild 6 = .ok (.getfield 336, 3) := by decide +kernel
theorem dX11_isChild_9 : decode cX11_isChild 9 = .ok (.iconst 1, 1) := by decide +kernel
theorem dX11_isChild_10 : decode cX11_isChild 10 = .ok (.isub, 1) := by decide +kernel
theorem dX11_isChild_11 : decode cX11_isChild 11 = .ok (.invokestatic 93, 3) := by decide +kernel
theorem dX11_isChild_14 : decode cX11_isChild 14 = .ok (.ireturn, 1) := by decide +kernel
theorem dX11_fewestPulling_0 : decode cX11_fewestPulling 0 = .ok (.bipush (-9), 2) := by decide +kernel
theorem dX11_fewestPulling_2 : decode cX11_fewestPulling 2 = .ok (.istore_n 3, 1) := by decide +kernel
theorem dX11_fewestPulling_3 : decode cX11_fewestPulling 3 = .ok (.bipush 6, 2) := by decide +kernel
theorem dX11_fewestPulling_5 : decode cX11_fewestPulling 5 = .ok (.istore 4, 2) := by decide +kernel
theorem dX11_fewestPulling_7 : decode cX11_fewestPulling 7 = .ok (.iconst 1, 1) := by decide +kernel
theorem dX11_fewestPulling_8 : decode cX11_fewestPulling 8 = .ok (.istore 5, 2) := by decide +kernel
theorem dX11_fewestPulling_10 : decode cX11_fewestPulling 10 = .ok (.iload 5, 2) := by decide +kernel
theorem dX11_fewestPulling_12 : decode cX11_fewestPulling 12 = .ok (.iconst 1, 1) := by decide +kernel
theorem dX11_fewestPulling_13 : decode cX11_fewestPulling 13 = .ok (.aload_n 0, 1) := by decide +kernel
theorem dX11_fewestPulling_14 : decode cX11_fewestPulling 14 = .ok (.getfield 82, 3) := by decide +kernel
theorem dX11_fewestPulling_17 : decode cX11_fewestPulling 17 = .ok (.getfield 336, 3) := by decide +kernel
theorem dX11_fewestPulling_20 : decode cX11_fewestPulling 20 = .ok (.ishl, 1) := by decide +kernel
theorem dX11_fewestPulling_21 : decode cX11_fewestPulling 21 = .ok (.if_icmp .ge 50, 3) := by decide +kernel
theorem dX11_fewestPulling_24 : decode cX11_fewestPulling 24 = .ok (.aload_n 0, 1) := by decide +kernel
theorem dX11_fewestPulling_25 : decode cX11_fewestPulling 25 = .ok (.getfield 82, 3) := by decide +kernel
theorem dX11_fewestPulling_28 : decode cX11_fewestPulling 28 = .ok (.iload 5, 2) := by decide +kernel
theorem dX11_fewestPulling_30 : decode cX11_fewestPulling 30 = .ok (.invokevirtual 339, 3) := by decide +kernel
theorem dX11_fewestPulling_33 : decode cX11_fewestPulling 33 = .ok (.istore 6, 2) := by decide +kernel
theorem dX11_fewestPulling_35 : decode cX11_fewestPulling 35 = .ok (.iload 6, 2) := by decide +kernel
theorem dX11_fewestPulling_37 : decode cX11_fewestPulling 37 = .ok (.iload_n 1, 1) := by decide +kernel
theorem dX11_fewestPulling_38 : decode cX11_fewestPulling 38 = .ok (.iload_n 2, 1) := by decide +kernel
theorem dX11_fewestPulling_39 : decode cX11_fewestPulling 39 = .ok (.invokestatic 93, 3) := by decide +kernel
theorem dX11_fewestPulling_42 : decode cX11_fewestPulling 42 = .ok (.ifCond .eq 23, 3) := by decide +kernel
theorem dX11_fewestPulling_45 : decode cX11_fewestPulling 45 = .ok (.iload 5, 2) := by decide +kernel
theorem dX11_fewestPulling_47 : decode cX11_fewestPulling 47 = .ok (.invokestatic 342, 3) := by decide +kernel
theorem dX11_fewestPulling_50 : decode cX11_fewestPulling 50 = .ok (.iload 4, 2) := by decide +kernel
theorem dX11_fewestPulling_52 : decode cX11_fewestPulling 52 = .ok (.if_icmp .ge 13, 3) := by decide +kernel
theorem dX11_fewestPulling_55 : decode cX11_fewestPulling 55 = .ok (.iload 5, 2) := by decide +kernel
theorem dX11_fewestPulling_57 : decode cX11_fewestPulling 57 = .ok (.invokestatic 342, 3) := by decide +kernel
theorem dX11_fewestPulling_60 : decode cX11_fewestPulling 60 = .ok (.istore 4, 2) := by decide +kernel
theorem dX11_fewestPulling_62 : decode cX11_fewestPulling 62 = .ok (.iload 5, 2) := by decide +kernel
theorem dX11_fewestPulling_64 : decode cX11_fewestPulling 64 = .ok (.istore_n 3, 1) := by decide +kernel
theorem dX11_fewestPulling_65 : decode cX11_fewestPulling 65 = .ok (.iinc 5 1, 3) := by decide +kernel
theorem dX11_fewestPulling_68 : decode cX11_fewestPulling 68 = .ok (.goto (-58), 3) := by decide +kernel
theorem dX11_fewestPulling_71 : decode cX11_fewestPulling 71 = .ok (.iload_n 3, 1) := by decide +kernel
theorem dX11_fewestPulling_72 : decode cX11_fewestPulling 72 = .ok (.ireturn, 1) := by decide +kernel
theorem dX11_rateChild_0 : decode cX11_rateChild 0 = .ok (.aload_n 0, 1) := by decide +kernel
theorem dX11_rateChild_1 : decode cX11_rateChild 1 = .ok (.dup, 1) := by decide +kernel
theorem dX11_rateChild_2 : decode cX11_rateChild 2 = .ok (.getfield 89, 3) := by decide +kernel
theorem dX11_rateChild_5 : decode cX11_rateChild 5 = .ok (.lconst 1, 1) := by decide +kernel
theorem dX11_rateChild_6 : decode cX11_rateChild 6 = .ok (.ladd, 1) := by decide +kernel
theorem dX11_rateChild_7 : decode cX11_rateChild 7 = .ok (.putfield 89, 3) := by decide +kernel
theorem dX11_rateChild_10 : decode cX11_rateChild 10 = .ok (.aload_n 0, 1) := by decide +kernel
theorem dX11_rateChild_11 : decode cX11_rateChild 11 = .ok (.getfield 82, 3) := by decide +kernel
theorem dX11_rateChild_14 : decode cX11_rateChild 14 = .ok (.getfield 169, 3) := by decide +kernel
theorem dX11_rateChild_17 : decode cX11_rateChild 17 = .ok (.iload_n 1, 1) := by decide +kernel
theorem dX11_rateChild_18 : decode cX11_rateChild 18 = .ok (.iaload, 1) := by decide +kernel
theorem dX11_rateChild_19 : decode cX11_rateChild 19 = .ok (.ireturn, 1) := by decide +kernel
theorem dX11_rateClimber_0 : decode cX11_rateClimber 0 = .ok (.aload_n 0, 1) := by decide +kernel
theorem dX11_rateClimber_1 : decode cX11_rateClimber 1 = .ok (.dup, 1) := by decide +kernel
theorem dX11_rateClimber_2 : decode cX11_rateClimber 2 = .ok (.getfield 89, 3) := by decide +kernel
theorem dX11_rateClimber_5 : decode cX11_rateClimber 5 = .ok (.ldc2_w 347, 3) := by decide +kernel
theorem dX11_rateClimber_8 : decode cX11_rateClimber 8 = .ok (.ladd, 1) := by decide +kernel
theorem dX11_rateClimber_9 : decode cX11_rateClimber 9 = .ok (.putfield 89, 3) := by decide +kernel
theorem dX11_rateClimber_12 : decode cX11_rateClimber 12 = .ok (.aload_n 0, 1) := by decide +kernel
theorem dX11_rateClimber_13 : decode cX11_rateClimber 13 = .ok (.getfield 19, 3) := by decide +kernel
theorem dX11_rateClimber_16 : decode cX11_rateClimber 16 = .ok (.iload_n 1, 1) := by decide +kernel
theorem dX11_rateClimber_17 : decode cX11_rateClimber 17 = .ok (.invokevirtual 175, 3) := by decide +kernel
theorem dX11_rateClimber_20 : decode cX11_rateClimber 20 = .ok (.istore_n 2, 1) := by decide +kernel
theorem dX11_rateClimber_21 : decode cX11_rateClimber 21 = .ok (.aload_n 0, 1) := by decide +kernel
theorem dX11_rateClimber_22 : decode cX11_rateClimber 22 = .ok (.iload_n 2, 1) := by decide +kernel
theorem dX11_rateClimber_23 : decode cX11_rateClimber 23 = .ok (.invokevirtual 140, 3) := by decide +kernel
theorem dX11_rateClimber_26 : decode cX11_rateClimber 26 = .ok (.ifCond .eq 25, 3) := by decide +kernel
theorem dX11_rateClimber_29 : decode cX11_rateClimber 29 = .ok (.aload_n 0, 1) := by decide +kernel
theorem dX11_rateClimber_30 : decode cX11_rateClimber 30 = .ok (.getfield 82, 3) := by decide +kernel
theorem dX11_rateClimber_33 : decode cX11_rateClimber 33 = .ok (.getfield 123, 3) := by decide +kernel
theorem dX11_rateClimber_36 : decode cX11_rateClimber 36 = .ok (.aload_n 0, 1) := by decide +kernel
theorem dX11_rateClimber_37 : decode cX11_rateClimber 37 = .ok (.getfield 82, 3) := by decide +kernel
theorem dX11_rateClimber_40 : decode cX11_rateClimber 40 = .ok (.getfield 143, 3) := by decide +kernel
theorem dX11_rateClimber_43 : decode cX11_rateClimber 43 = .ok (.iconst 2, 1) := by decide +kernel
theorem dX11_rateClimber_44 : decode cX11_rateClimber 44 = .ok (.iload_n 2, 1) := by decide +kernel
theorem dX11_rateClimber_45 : decode cX11_rateClimber 45 = .ok (.imul, 1) := by decide +kernel
theorem dX11_rateClimber_46 : decode cX11_rateClimber 46 = .ok (.iaload, 1) := by decide +kernel
theorem dX11_rateClimber_47 : decode cX11_rateClimber 47 = .ok (.iaload, 1) := by decide +kernel
theorem dX11_rateClimber_48 : decode cX11_rateClimber 48 = .ok (.goto 4, 3) := by decide +kernel
theorem dX11_rateClimber_51 : decode cX11_rateClimber 51 = .ok (.iconst 0, 1) := by decide +kernel
theorem dX11_rateClimber_52 : decode cX11_rateClimber 52 = .ok (.istore_n 3, 1) := by decide +kernel
theorem dX11_rateClimber_53 : decode cX11_rateClimber 53 = .ok (.aload_n 0, 1) := by decide +kernel
theorem dX11_rateClimber_54 : decode cX11_rateClimber 54 = .ok (.iload_n 1, 1) := by decide +kernel
theorem dX11_rateClimber_55 : decode cX11_rateClimber 55 = .ok (.invokevirtual 310, 3) := by decide +kernel
theorem dX11_rateClimber_58 : decode cX11_rateClimber 58 = .ok (.iload_n 3, 1) := by decide +kernel
theorem dX11_rateClimber_59 : decode cX11_rateClimber 59 = .ok (.iadd, 1) := by decide +kernel
theorem dX11_rateClimber_60 : decode cX11_rateClimber 60 = .ok (.ireturn, 1) := by decide +kernel
theorem dX11_rateGuest_0 : decode cX11_rateGuest 0 = .ok (.aload_n 0, 1) := by decide +kernel
theorem dX11_rateGuest_1 : decode cX11_rateGuest 1 = .ok (.dup, 1) := by decide +kernel
theorem dX11_rateGuest_2 : decode cX11_rateGuest 2 = .ok (.getfield 89, 3) := by decide +kernel
theorem dX11_rateGuest_5 : decode cX11_rateGuest 5 = .ok (.ldc2_w 349, 3) := by decide +kernel
theorem dX11_rateGuest_8 : decode cX11_rateGuest 8 = .ok (.ladd, 1) := by decide +kernel
theorem dX11_rateGuest_9 : decode cX11_rateGuest 9 = .ok (.putfield 89, 3) := by decide +kernel
theorem dX11_rateGuest_12 : decode cX11_rateGuest 12 = .ok (.aload_n 0, 1) := by decide +kernel
theorem dX11_rateGuest_13 : decode cX11_rateGuest 13 = .ok (.iload_n 1, 1) := by decide +kernel
theorem dX11_rateGuest_14 : decode cX11_rateGuest 14 = .ok (.invokevirtual 310, 3) := by decide +kernel
theorem dX11_rateGuest_17 : decode cX11_rateGuest 17 = .ok (.aload_n 0, 1) := by decide +kernel
theorem dX11_rateGuest_18 : decode cX11_rateGuest 18 = .ok (.getfield 82, 3) := by decide +kernel
theorem dX11_rateGuest_21 : decode cX11_rateGuest 21 = .ok (.getfield 172, 3) := by decide +kernel
theorem dX11_rateGuest_24 : decode cX11_rateGuest 24 = .ok (.iload_n 1, 1) := by decide +kernel
theorem dX11_rateGuest_25 : decode cX11_rateGuest 25 = .ok (.iaload, 1) := by decide +kernel
theorem dX11_rateGuest_26 : decode cX11_rateGuest 26 = .ok (.isub, 1) := by decide +kernel
theorem dX11_rateGuest_27 : decode cX11_rateGuest 27 = .ok (.ireturn, 1) := by decide +kernel
theorem dX11_rateCaptain_0 : decode cX11_rateCaptain 0 = .ok (.aload_n 0, 1) := by decide +kernel
theorem dX11_rateCaptain_1 : decode cX11_rateCaptain 1 = .ok (.dup, 1) := by decide +kernel
theorem dX11_rateCaptain_2 : decode cX11_rateCaptain 2 = .ok (.getfield 89, 3) := by decide +kernel
theorem dX11_rateCaptain_5 : decode cX11_rateCaptain 5 = .ok (.ldc2_w 351, 3) := by decide +kernel
theorem dX11_rateCaptain_8 : decode cX11_rateCaptain 8 = .ok (.ladd, 1) := by decide +kernel
theorem dX11_rateCaptain_9 : decode cX11_rateCaptain 9 = .ok (.putfield 89, 3) := by decide +kernel
theorem dX11_rateCaptain_12 : decode cX11_rateCaptain 12 = .ok (.iconst 2, 1) := by decide +kernel
theorem dX11_rateCaptain_13 : decode cX11_rateCaptain 13 = .ok (.aload_n 0, 1) := by decide +kernel
theorem dX11_rateCaptain_14 : decode cX11_rateCaptain 14 = .ok (.iload_n 1, 1) := by decide +kernel
theorem dX11_rateCaptain_15 : decode cX11_rateCaptain 15 = .ok (.invokevirtual 313, 3) := by decide +kernel
theorem dX11_rateCaptain_18 : decode cX11_rateCaptain 18 = .ok (.imul, 1) := by decide +kernel
theorem dX11_rateCaptain_19 : decode cX11_rateCaptain 19 = .ok (.ireturn, 1) := by decide +kernel
theorem dX11_rateNeighbour_0 : decode cX11_rateNeighbour 0 = .ok (.aload_n 0, 1) := by decide +kernel
theorem dX11_rateNeighbour_1 : decode cX11_rateNeighbour 1 = .ok (.dup, 1) := by decide +kernel
theorem dX11_rateNeighbour_2 : decode cX11_rateNeighbour 2 = .ok (.getfield 89, 3) := by decide +kernel
theorem dX11_rateNeighbour_5 : decode cX11_rateNeighbour 5 = .ok (.ldc2_w 353, 3) := by decide +kernel
theorem dX11_rateNeighbour_8 : decode cX11_rateNeighbour 8 = .ok (.ladd, 1) := by decide +kernel
theorem dX11_rateNeighbour_9 : decode cX11_rateNeighbour 9 = .ok (.putfield 89, 3) := by decide +kernel
theorem dX11_rateNeighbour_12 : decode cX11_rateNeighbour 12 = .ok (.aload_n 0, 1) := by decide +kernel
theorem dX11_rateNeighbour_13 : decode cX11_rateNeighbour 13 = .ok (.iload_n 1, 1) := by decide +kernel
theorem dX11_rateNeighbour_14 : decode cX11_rateNeighbour 14 = .ok (.invokevirtual 316, 3) := by decide +kernel
theorem dX11_rateNeighbour_17 : decode cX11_rateNeighbour 17 = .ok (.iload_n 1, 1) := by decide +kernel
theorem dX11_rateNeighbour_18 : decode cX11_rateNeighbour 18 = .ok (.iadd, 1) := by decide +kernel
theorem dX11_rateNeighbour_19 : decode cX11_rateNeighbour 19 = .ok (.ireturn, 1) := by decide +kernel
theorem dX11_rateSister_0 : decode cX11_rateSister 0 = .ok (.aload_n 0, 1) := by decide +kernel
theorem dX11_rateSister_1 : decode cX11_rateSister 1 = .ok (.dup, 1) := by decide +kernel
theorem dX11_rateSister_2 : decode cX11_rateSister 2 = .ok (.getfield 89, 3) := by decide +kernel
theorem dX11_rateSister_5 : decode cX11_rateSister 5 = .ok (.ldc2_w 355, 3) := by decide +kernel
theorem dX11_rateSister_8 : decode cX11_rateSister 8 = .ok (.ladd, 1) := by decide +kernel
theorem dX11_rateSister_9 : decode cX11_rateSister 9 = .ok (.putfield 89, 3) := by decide +kernel
theorem dX11_rateSister_12 : decode cX11_rateSister 12 = .ok (.aload_n 0, 1) := by decide +kernel
theorem dX11_rateSister_13 : decode cX11_rateSister 13 = .ok (.iload_n 1, 1) := by decide +kernel
theorem dX11_rateSister_14 : decode cX11_rateSister 14 = .ok (.invokevirtual 310, 3) := by decide +kernel
theorem dX11_rateSister_17 : decode cX11_rateSister 17 = .ok (.aload_n 0, 1) := by decide +kernel
theorem dX11_rateSister_18 : decode cX11_rateSister 18 = .ok (.getfield 19, 3) := by decide +kernel
theorem dX11_rateSister_21 : decode cX11_rateSister 21 = .ok (.aload_n 0, 1) := by decide +kernel
theorem dX11_rateSister_22 : decode cX11_rateSister 22 = .ok (.getfield 82, 3) := by decide +kernel
theorem dX11_rateSister_25 : decode cX11_rateSister 25 = .ok (.invokevirtual 214, 3) := by decide +kernel
theorem dX11_rateSister_28 : decode cX11_rateSister 28 = .ok (.iadd, 1) := by decide +kernel
theorem dX11_rateSister_29 : decode cX11_rateSister 29 = .ok (.ireturn, 1) := by decide +kernel
theorem dX11_growth_0 : decode cX11_growth 0 = .ok (.iload_n 0, 1) := by decide +kernel
theorem dX11_growth_1 : decode cX11_growth 1 = .ok (.tableswitch 43 1 3 #[27, 31, 37], 27) := by decide +kernel
theorem dX11_growth_28 : decode cX11_growth 28 = .ok (.iload_n 1, 1) := by decide +kernel
theorem dX11_growth_29 : decode cX11_growth 29 = .ok (.iload_n 2, 1) := by decide +kernel
theorem dX11_growth_30 : decode cX11_growth 30 = .ok (.imul, 1) := by decide +kernel
theorem dX11_growth_31 : decode cX11_growth 31 = .ok (.ireturn, 1) := by decide +kernel
theorem dX11_growth_32 : decode cX11_growth 32 = .ok (.iload_n 1, 1) := by decide +kernel
theorem dX11_growth_33 : decode cX11_growth 33 = .ok (.iload_n 2, 1) := by decide +kernel
theorem dX11_growth_34 : decode cX11_growth 34 = .ok (.imul, 1) := by decide +kernel
theorem dX11_growth_35 : decode cX11_growth 35 = .ok (.iconst 2, 1) := by decide +kernel
theorem dX11_growth_36 : decode cX11_growth 36 = .ok (.idiv, 1) := by decide +kernel
theorem dX11_growth_37 : decode cX11_growth 37 = .ok (.ireturn, 1) := by decide +kernel
theorem dX11_growth_38 : decode cX11_growth 38 = .ok (.iload_n 1, 1) := by decide +kernel
theorem dX11_growth_39 : decode cX11_growth 39 = .ok (.iload_n 2, 1) := by decide +kernel
theorem dX11_growth_40 : decode cX11_growth 40 = .ok (.imul, 1) := by decide +kernel
theorem dX11_growth_41 : decode cX11_growth 41 = .ok (.iconst 3, 1) := by decide +kernel
theorem dX11_growth_42 : decode cX11_growth 42 = .ok (.idiv, 1) := by decide +kernel
theorem dX11_growth_43 : decode cX11_growth 43 = .ok (.ireturn, 1) := by decide +kernel
theorem dX11_growth_44 : decode cX11_growth 44 = .ok (.iconst 0, 1) := by decide +kernel
theorem dX11_growth_45 : decode cX11_growth 45 = .ok (.ireturn, 1) := by decide +kernel
theorem dX11_givesAt_0 : decode cX11_givesAt 0 = .ok (.iload_n 0, 1) := by decide +kernel
theorem dX11_givesAt_1 : decode cX11_givesAt 1 = .ok (.tableswitch 36 1 3 #[27, 30, 33], 27) := by decide +kernel
theorem dX11_givesAt_28 : decode cX11_givesAt 28 = .ok (.bipush 12, 2) := by decide +kernel
theorem dX11_givesAt_30 : decode cX11_givesAt 30 = .ok (.ireturn, 1) := by decide +kernel
theorem dX11_givesAt_31 : decode cX11_givesAt 31 = .ok (.bipush 20, 2) := by decide +kernel
theorem dX11_givesAt_33 : decode cX11_givesAt 33 = .ok (.ireturn, 1) := by decide +kernel
theorem dX11_givesAt_34 : decode cX11_givesAt 34 = .ok (.bipush 36, 2) := by decide +kernel
theorem dX11_givesAt_36 : decode cX11_givesAt 36 = .ok (.ireturn, 1) := by decide +kernel
theorem dX11_givesAt_37 : decode cX11_givesAt 37 = .ok (.ldc_w 357, 3) := by decide +kernel
theorem dX11_givesAt_40 : decode cX11_givesAt 40 = .ok (.ireturn, 1) := by decide +kernel
theorem dX12_init_0 : decode cX12_init 0 = .ok (.aload_n 0, 1) := by decide +kernel
theorem dX12_init_1 : decode cX12_init 1 = .ok (.invokespecial 1, 3) := by decide +kernel
theorem dX12_init_4 : decode cX12_init 4 = .ok (.aload_n 0, 1) := by decide +kernel
theorem dX12_init_5 : decode cX12_init 5 = .ok (.bipush 24, 2) := by decide +kernel
theorem dX12_init_7 : decode cX12_init 7 = .ok (.newarray .int, 2) := by decide +kernel
theorem dX12_init_9 : decode cX12_init 9 = .ok (.putfield 7, 3) := by decide +kernel
theorem dX12_init_12 : decode cX12_init 12 = .ok (.aload_n 0, 1) := by decide +kernel
theorem dX12_init_13 : decode cX12_init 13 = .ok (.bipush 18, 2) := by decide +kernel
theorem dX12_init_15 : decode cX12_init 15 = .ok (.newarray .int, 2) := by decide +kernel
theorem dX12_init_17 : decode cX12_init 17 = .ok (.putfield 13, 3) := by decide +kernel
theorem dX12_init_20 : decode cX12_init 20 = .ok (.aload_n 0, 1) := by decide +kernel
theorem dX12_init_21 : decode cX12_init 21 = .ok (.bipush 10, 2) := by decide +kernel
theorem dX12_init_23 : decode cX12_init 23 = .ok (.newarray .int, 2) := by decide +kernel
theorem dX12_init_25 : decode cX12_init 25 = .ok (.putfield 16, 3) := by decide +kernel
theorem dX12_init_28 : decode cX12_init 28 = .ok (.aload_n 0, 1) := by decide +kernel
theorem dX12_init_29 : decode cX12_init 29 = .ok (.bipush 42, 2) := by decide +kernel
theorem dX12_init_31 : decode cX12_init 31 = .ok (.newarray .int, 2) := by decide +kernel
theorem dX12_init_33 : decode cX12_init 33 = .ok (.putfield 19, 3) := by decide +kernel
theorem dX12_init_36 : decode cX12_init 36 = .ok (.aload_n 0, 1) := by decide +kernel
theorem dX12_init_37 : decode cX12_init 37 = .ok (.sipush 420, 3) := by decide +kernel
theorem dX12_init_40 : decode cX12_init 40 = .ok (.newarray .int, 2) := by decide +kernel
theorem dX12_init_42 : decode cX12_init 42 = .ok (.putfield 22, 3) := by decide +kernel
theorem dX12_init_45 : decode cX12_init 45 = .ok (.aload_n 0, 1) := by decide +kernel
theorem dX12_init_46 : decode cX12_init 46 = .ok (.bipush 84, 2) := by decide +kernel
theorem dX12_init_48 : decode cX12_init 48 = .ok (.newarray .int, 2) := by decide +kernel
theorem dX12_init_50 : decode cX12_init 50 = .ok (.putfield 25, 3) := by decide +kernel
theorem dX12_init_53 : decode cX12_init 53 = .ok (.aload_n 0, 1) := by decide +kernel
theorem dX12_init_54 : decode cX12_init 54 = .ok (.iconst 2, 1) := by decide +kernel
theorem dX12_init_55 : decode cX12_init 55 = .ok (.newarray .boolean, 2) := by decide +kernel
theorem dX12_init_57 : decode cX12_init 57 = .ok (.putfield 28, 3) := by decide +kernel
theorem dX12_init_60 : decode cX12_init 60 = .ok (.aload_n 0, 1) := by decide +kernel
theorem dX12_init_61 : decode cX12_init 61 = .ok (.bipush 18, 2) := by decide +kernel
theorem dX12_init_63 : decode cX12_init 63 = .ok (.newarray .int, 2) := by decide +kernel
theorem dX12_init_65 : decode cX12_init 65 = .ok (.putfield 32, 3) := by decide +kernel
theorem dX12_init_68 : decode cX12_init 68 = .ok (.aload_n 0, 1) := by decide +kernel
theorem dX12_init_69 : decode cX12_init 69 = .ok (.sipush 200, 3) := by decide +kernel
theorem dX12_init_72 : decode cX12_init 72 = .ok (.newarray .int, 2) := by decide +kernel
theorem dX12_init_74 : decode cX12_init 74 = .ok (.putfield 35, 3) := by decide +kernel
theorem dX12_init_77 : decode cX12_init 77 = .ok (.aload_n 0, 1) := by decide +kernel
theorem dX12_init_78 : decode cX12_init 78 = .ok (.bipush 24, 2) := by decide +kernel
theorem dX12_init_80 : decode cX12_init 80 = .ok (.newarray .int, 2) := by decide +kernel
theorem dX12_init_82 : decode cX12_init 82 = .ok (.putfield 38, 3) := by decide +kernel
theorem dX12_init_85 : decode cX12_init 85 = .ok (.aload_n 0, 1) := by decide +kernel
theorem dX12_init_86 : decode cX12_init 86 = .ok (.bipush 30, 2) := by decide +kernel
theorem dX12_init_88 : decode cX12_init 88 = .ok (.newarray .int, 2) := by decide +kernel
theorem dX12_init_90 : decode cX12_init 90 = .ok (.putfield 41, 3) := by decide +kernel
theorem dX12_init_93 : decode cX12_init 93 = .ok (.aload_n 0, 1) := by decide +kernel
theorem dX12_init_94 : decode cX12_init 94 = .ok (.bipush 10, 2) := by decide +kernel
theorem dX12_init_96 : decode cX12_init 96 = .ok (.newarray .int, 2) := by decide +kernel
theorem dX12_init_98 : decode cX12_init 98 = .ok (.putfield 44, 3) := by decide +kernel
theorem dX12_init_101 : decode cX12_init 101 = .ok (.aload_n 0, 1) := by decide +kernel
theorem dX12_init_102 : decode cX12_init 102 = .ok (.iconst 5, 1) := by decide +kernel
theorem dX12_init_103 : decode cX12_init 103 = .ok (.newarray .int, 2) := by decide +kernel
theorem dX12_init_105 : decode cX12_init 105 = .ok (.putfield 47, 3) := by decide +kernel
theorem dX12_init_108 : decode cX12_init 108 = .ok (.aload_n 0, 1) := by decide +kernel
theorem dX12_init_109 : decode cX12_init 109 = .ok (.bipush 6, 2) := by decide +kernel
theorem dX12_init_111 : decode cX12_init 111 = .ok (.newarray .int, 2) := by decide +kernel
theorem dX12_init_113 : decode cX12_init 113 = .ok (.putfield 50, 3) := by decide +kernel
theorem dX12_init_116 : decode cX12_init 116 = .ok (.aload_n 0, 1) := by decide +kernel
theorem dX12_init_117 : decode cX12_init 117 = .ok (.bipush 8, 2) := by decide +kernel
theorem dX12_init_119 : decode cX12_init 119 = .ok (.newarray .int, 2) := by decide +kernel
theorem dX12_init_121 : decode cX12_init 121 = .ok (.putfield 53, 3) := by decide +kernel
theorem dX12_init_124 : decode cX12_init 124 = .ok (.aload_n 0, 1) := by decide +kernel
theorem dX12_init_125 : decode cX12_init 125 = .ok (.bipush 36, 2) := by decide +kernel
end
section
theorem dX12_init_127 : decode cX12_init 127 = .ok (.newarray .int, 2) := by decide +kernel
theorem dX12_init_129 : decode cX12_init 129 = .ok (.putfield 56, 3) := by decide +kernel
theorem dX12_init_132 : decode cX12_init 132 = .ok (.aload_n 0, 1) := by decide +kernel
theorem dX12_init_133 : decode cX12_init 133 = .ok (.bipush 64, 2) := by decide +kernel
theorem dX12_init_135 : decode cX12_init 135 = .ok (.newarray .long, 2) := by decide +kernel
theorem dX12_init_137 : decode cX12_init 137 = .ok (.putfield 59, 3) := by decide +kernel
theorem dX12_init_140 : decode cX12_init 140 = .ok (.aload_n 0, 1) := by decide +kernel
theorem dX12_init_141 : decode cX12_init 141 = .ok (.bipush 64, 2) := by decide +kernel
theorem dX12_init_143 : decode cX12_init 143 = .ok (.newarray .long, 2) := by decide +kernel
theorem dX12_init_145 : decode cX12_init 145 = .ok (.putfield 63, 3) := by decide +kernel
theorem dX12_init_148 : decode cX12_init 148 = .ok (.aload_n 0, 1) := by decide +kernel
theorem dX12_init_149 : decode cX12_init 149 = .ok (.bipush 64, 2) := by decide +kernel
theorem dX12_init_151 : decode cX12_init 151 = .ok (.newarray .int, 2) := by decide +kernel
theorem dX12_init_153 : decode cX12_init 153 = .ok (.putfield 66, 3) := by decide +kernel
theorem dX12_init_156 : decode cX12_init 156 = .ok (.iconst 0, 1) := by decide +kernel
theorem dX12_init_157 : decode cX12_init 157 = .ok (.istore_n 1, 1) := by decide +kernel
theorem dX12_init_158 : decode cX12_init 158 = .ok (.iload_n 1, 1) := by decide +kernel
theorem dX12_init_159 : decode cX12_init 159 = .ok (.iconst 5, 1) := by decide +kernel
theorem dX12_init_160 : decode cX12_init 160 = .ok (.if_icmp .ge 19, 3) := by decide +kernel
theorem dX12_init_163 : decode cX12_init 163 = .ok (.aload_n 0, 1) := by decide +kernel
theorem dX12_init_164 : decode cX12_init 164 = .ok (.getfield 19, 3) := by decide +kernel
theorem dX12_init_167 : decode cX12_init 167 = .ok (.iconst 1, 1) := by decide +kernel
theorem dX12_init_168 : decode cX12_init 168 = .ok (.iload_n 1, 1) := by decide +kernel
theorem dX12_init_169 : decode cX12_init 169 = .ok (.iadd, 1) := by decide +kernel
theorem dX12_init_170 : decode cX12_init 170 = .ok (.bipush (-9), 2) := by decide +kernel
theorem dX12_init_172 : decode cX12_init 172 = .ok (.iastore, 1) := by decide +kernel
theorem dX12_init_173 : decode cX12_init 173 = .ok (.iinc 1 1, 3) := by decide +kernel
theorem dX12_init_176 : decode cX12_init 176 = .ok (.goto (-18), 3) := by decide +kernel
theorem dX12_init_179 : decode cX12_init 179 = .ok (.return_, 1) := by decide +kernel
theorem dX12_in_0 : decode cX12_in 0 = .ok (.iload_n 0, 1) := by decide +kernel
theorem dX12_in_1 : decode cX12_in 1 = .ok (.iload_n 1, 1) := by decide +kernel
theorem dX12_in_2 : decode cX12_in 2 = .ok (.if_icmp .lt 12, 3) := by decide +kernel
theorem dX12_in_5 : decode cX12_in 5 = .ok (.iload_n 0, 1) := by decide +kernel
theorem dX12_in_6 : decode cX12_in 6 = .ok (.iload_n 2, 1) := by decide +kernel
theorem dX12_in_7 : decode cX12_in 7 = .ok (.if_icmp .gt 7, 3) := by decide +kernel
theorem dX12_in_10 : decode cX12_in 10 = .ok (.iconst 1, 1) := by decide +kernel
theorem dX12_in_11 : decode cX12_in 11 = .ok (.goto 4, 3) := by decide +kernel
theorem dX12_in_14 : decode cX12_in 14 = .ok (.iconst 0, 1) := by decide +kernel
theorem dX12_in_15 : decode cX12_in 15 = .ok (.ireturn, 1) := by decide +kernel
theorem dX12_has_0 : decode cX12_has 0 = .ok (.iload_n 0, 1) := by decide +kernel
theorem dX12_has_1 : decode cX12_has 1 = .ok (.iload_n 1, 1) := by decide +kernel
theorem dX12_has_2 : decode cX12_has 2 = .ok (.ishr, 1) := by decide +kernel
theorem dX12_has_3 : decode cX12_has 3 = .ok (.iconst 1, 1) := by decide +kernel
theorem dX12_has_4 : decode cX12_has 4 = .ok (.iand, 1) := by decide +kernel
theorem dX12_has_5 : decode cX12_has 5 = .ok (.iconst 1, 1) := by decide +kernel
theorem dX12_has_6 : decode cX12_has 6 = .ok (.if_icmp .ne 7, 3) := by decide +kernel
theorem dX12_has_9 : decode cX12_has 9 = .ok (.iconst 1, 1) := by decide +kernel
theorem dX12_has_10 : decode cX12_has 10 = .ok (.goto 4, 3) := by decide +kernel
theorem dX12_has_13 : decode cX12_has 13 = .ok (.iconst 0, 1) := by decide +kernel
theorem dX12_has_14 : decode cX12_has 14 = .ok (.ireturn, 1) := by decide +kernel
theorem dX12_bits_0 : decode cX12_bits 0 = .ok (.iconst 0, 1) := by decide +kernel
theorem dX12_bits_1 : decode cX12_bits 1 = .ok (.istore_n 1, 1) := by decide +kernel
theorem dX12_bits_2 : decode cX12_bits 2 = .ok (.iload_n 0, 1) := by decide +kernel
theorem dX12_bits_3 : decode cX12_bits 3 = .ok (.istore_n 2, 1) := by decide +kernel
theorem dX12_bits_4 : decode cX12_bits 4 = .ok (.iload_n 2, 1) := by decide +kernel
theorem dX12_bits_5 : decode cX12_bits 5 = .ok (.ifCond .le 15, 3) := by decide +kernel
theorem dX12_bits_8 : decode cX12_bits 8 = .ok (.iinc 1 1, 3) := by decide +kernel
theorem dX12_bits_11 : decode cX12_bits 11 = .ok (.iload_n 2, 1) := by decide +kernel
theorem dX12_bits_12 : decode cX12_bits 12 = .ok (.iload_n 2, 1) := by decide +kernel
theorem dX12_bits_13 : decode cX12_bits 13 = .ok (.iconst 1, 1) := by decide +kernel
theorem dX12_bits_14 : decode cX12_bits 14 = .ok (.isub, 1) := by decide +kernel
theorem dX12_bits_15 : decode cX12_bits 15 = .ok (.iand, 1) := by decide +kernel
theorem dX12_bits_16 : decode cX12_bits 16 = .ok (.istore_n 2, 1) := by decide +kernel
theorem dX12_bits_17 : decode cX12_bits 17 = .ok (.goto (-13), 3) := by decide +kernel
theorem dX12_bits_20 : decode cX12_bits 20 = .ok (.iload_n 1, 1) := by decide +kernel
theorem dX12_bits_21 : decode cX12_bits 21 = .ok (.ireturn, 1) := by decide +kernel
theorem dX12_isBough_0 : decode cX12_isBough 0 = .ok (.iload_n 1, 1) := by decide +kernel
theorem dX12_isBough_1 : decode cX12_isBough 1 = .ok (.iconst 0, 1) := by decide +kernel
theorem dX12_isBough_2 : decode cX12_isBough 2 = .ok (.aload_n 0, 1) := by decide +kernel
theorem dX12_isBough_3 : decode cX12_isBough 3 = .ok (.getfield 69, 3) := by decide +kernel
theorem dX12_isBough_6 : decode cX12_isBough 6 = .ok (.iconst 1, 1) := by decide +kernel
theorem dX12_isBough_7 : decode cX12_isBough 7 = .ok (.isub, 1) := by decide +kernel
theorem dX12_isBough_8 : decode cX12_isBough 8 = .ok (.invokestatic 73, 3) := by decide +kernel
theorem dX12_isBough_11 : decode cX12_isBough 11 = .ok (.ireturn, 1) := by decide +kernel
theorem dX12_isPlank_0 : decode cX12_isPlank 0 = .ok (.iload_n 1, 1) := by decide +kernel
theorem dX12_isPlank_1 : decode cX12_isPlank 1 = .ok (.iconst 0, 1) := by decide +kernel
theorem dX12_isPlank_2 : decode cX12_isPlank 2 = .ok (.aload_n 0, 1) := by decide +kernel
theorem dX12_isPlank_3 : decode cX12_isPlank 3 = .ok (.getfield 77, 3) := by decide +kernel
theorem dX12_isPlank_6 : decode cX12_isPlank 6 = .ok (.iconst 1, 1) := by decide +kernel
theorem dX12_isPlank_7 : decode cX12_isPlank 7 = .ok (.isub, 1) := by decide +kernel
theorem dX12_isPlank_8 : decode cX12_isPlank 8 = .ok (.invokestatic 73, 3) := by decide +kernel
theorem dX12_isPlank_11 : decode cX12_isPlank 11 = .ok (.ireturn, 1) := by decide +kernel
theorem dX12_isChild_0 : decode cX12_isChild 0 = .ok (.iload_n 1, 1) := by decide +kernel
theorem dX12_isChild_1 : decode cX12_isChild 1 = .ok (.iconst 0, 1) := by decide +kernel
theorem dX12_isChild_2 : decode cX12_isChild 2 = .ok (.aload_n 0, 1) := by decide +kernel
theorem dX12_isChild_3 : decode cX12_isChild 3 = .ok (.getfield 80, 3) := by decide +kernel
theorem dX12_isChild_6 : decode cX12_isChild 6 = .ok (.iconst 1, 1) := by decide +kernel
theorem dX12_isChild_7 : decode cX12_isChild 7 = .ok (.isub, 1) := by decide +kernel
theorem dX12_isChild_8 : decode cX12_isChild 8 = .ok (.invokestatic 73, 3) := by decide +kernel
theorem dX12_isChild_11 : decode cX12_isChild 11 = .ok (.ireturn, 1) := by decide +kernel
theorem dX12_isForce_0 : decode cX12_isForce 0 = .ok (.iload_n 0, 1) := by decide +kernel
theorem dX12_isForce_1 : decode cX12_isForce 1 = .ok (.iconst 1, 1) := by decide +kernel
theorem dX12_isForce_2 : decode cX12_isForce 2 = .ok (.bipush 9, 2) := by decide +kernel
theorem dX12_isForce_4 : decode cX12_isForce 4 = .ok (.invokestatic 73, 3) := by decide +kernel
theorem dX12_isForce_7 : decode cX12_isForce 7 = .ok (.ireturn, 1) := by decide +kernel
theorem dX12_type_0 : decode cX12_type 0 = .ok (.iload_n 1, 1) := by decide +kernel
theorem dX12_type_1 : decode cX12_type 1 = .ok (.iconst 0, 1) := by decide +kernel
theorem dX12_type_2 : decode cX12_type 2 = .ok (.sipush 255, 3) := by decide +kernel
theorem dX12_type_5 : decode cX12_type 5 = .ok (.invokestatic 73, 3) := by decide +kernel
theorem dX12_type_8 : decode cX12_type 8 = .ok (.ifCond .ne 5, 3) := by decide +kernel
theorem dX12_type_11 : decode cX12_type 11 = .ok (.iconst (-1), 1) := by decide +kernel
theorem dX12_type_12 : decode cX12_type 12 = .ok (.ireturn, 1) := by decide +kernel
theorem dX12_type_13 : decode cX12_type 13 = .ok (.aload_n 0, 1) := by decide +kernel
theorem dX12_type_14 : decode cX12_type 14 = .ok (.getfield 83, 3) := by decide +kernel
theorem dX12_type_17 : decode cX12_type 17 = .ok (.sipush 200, 3) := by decide +kernel
theorem dX12_type_20 : decode cX12_type 20 = .ok (.if_icmp .ne 6, 3) := by decide +kernel
theorem dX12_type_23 : decode cX12_type 23 = .ok (.bipush (-3), 2) := by decide +kernel
theorem dX12_type_25 : decode cX12_type 25 = .ok (.ireturn, 1) := by decide +kernel
theorem dX12_type_26 : decode cX12_type 26 = .ok (.aload_n 0, 1) := by decide +kernel
theorem dX12_type_27 : decode cX12_type 27 = .ok (.getfield 35, 3) := by decide +kernel
theorem dX12_type_30 : decode cX12_type 30 = .ok (.aload_n 0, 1) := by decide +kernel
theorem dX12_type_31 : decode cX12_type 31 = .ok (.getfield 83, 3) := by decide +kernel
theorem dX12_type_34 : decode cX12_type 34 = .ok (.iload_n 1, 1) := by decide +kernel
theorem dX12_type_35 : decode cX12_type 35 = .ok (.iastore, 1) := by decide +kernel
theorem dX12_type_36 : decode cX12_type 36 = .ok (.aload_n 0, 1) := by decide +kernel
theorem dX12_type_37 : decode cX12_type 37 = .ok (.dup, 1) := by decide +kernel
theorem dX12_type_38 : decode cX12_type 38 = .ok (.getfield 83, 3) := by decide +kernel
theorem dX12_type_41 : decode cX12_type 41 = .ok (.iconst 1, 1) := by decide +kernel
theorem dX12_type_42 : decode cX12_type 42 = .ok (.iadd, 1) := by decide +kernel
theorem dX12_type_43 : decode cX12_type 43 = .ok (.putfield 83, 3) := by decide +kernel
theorem dX12_type_46 : decode cX12_type 46 = .ok (.aload_n 0, 1) := by decide +kernel
theorem dX12_type_47 : decode cX12_type 47 = .ok (.getfield 83, 3) := by decide +kernel
theorem dX12_type_50 : decode cX12_type 50 = .ok (.ireturn, 1) := by decide +kernel
theorem dX12_clear_0 : decode cX12_clear 0 = .ok (.aload_n 0, 1) := by decide +kernel
theorem dX12_clear_1 : decode cX12_clear 1 = .ok (.getfield 83, 3) := by decide +kernel
theorem dX12_clear_4 : decode cX12_clear 4 = .ok (.istore_n 1, 1) := by decide +kernel
theorem dX12_clear_5 : decode cX12_clear 5 = .ok (.aload_n 0, 1) := by decide +kernel
theorem dX12_clear_6 : decode cX12_clear 6 = .ok (.iconst 0, 1) := by decide +kernel
theorem dX12_clear_7 : decode cX12_clear 7 = .ok (.putfield 83, 3) := by decide +kernel
theorem dX12_clear_10 : decode cX12_clear 10 = .ok (.iload_n 1, 1) := by decide +kernel
theorem dX12_clear_11 : decode cX12_clear 11 = .ok (.ireturn, 1) := by decide +kernel
theorem dX12_letterAt_0 : decode cX12_letterAt 0 = .ok (.iload_n 1, 1) := by decide +kernel
theorem dX12_letterAt_1 : decode cX12_letterAt 1 = .ok (.aload_n 0, 1) := by decide +kernel
theorem dX12_letterAt_2 : decode cX12_letterAt 2 = .ok (.getfield 83, 3) := by decide +kernel
theorem dX12_letterAt_5 : decode cX12_letterAt 5 = .ok (.if_icmp .ge 12, 3) := by decide +kernel
theorem dX12_letterAt_8 : decode cX12_letterAt 8 = .ok (.aload_n 0, 1) := by decide +kernel
theorem dX12_letterAt_9 : decode cX12_letterAt 9 = .ok (.getfield 35, 3) := by decide +kernel
theorem dX12_letterAt_12 : decode cX12_letterAt 12 = .ok (.iload_n 1, 1) := by decide +kernel
theorem dX12_letterAt_13 : decode cX12_letterAt 13 = .ok (.iaload, 1) := by decide +kernel
theorem dX12_letterAt_14 : decode cX12_letterAt 14 = .ok (.goto 4, 3) := by decide +kernel
theorem dX12_letterAt_17 : decode cX12_letterAt 17 = .ok (.iconst (-1), 1) := by decide +kernel
theorem dX12_letterAt_18 : decode cX12_letterAt 18 = .ok (.ireturn, 1) := by decide +kernel
theorem dX12_next_0 : decode cX12_next 0 = .ok (.aload_n 0, 1) := by decide +kernel
theorem dX12_next_1 : decode cX12_next 1 = .ok (.aload_n 0, 1) := by decide +kernel
theorem dX12_next_2 : decode cX12_next 2 = .ok (.getfield 86, 3) := by decide +kernel
theorem dX12_next_5 : decode cX12_next 5 = .ok (.invokevirtual 89, 3) := by decide +kernel
theorem dX12_next_8 : decode cX12_next 8 = .ok (.bipush 32, 2) := by decide +kernel
theorem dX12_next_10 : decode cX12_next 10 = .ok (.if_icmp .ne 16, 3) := by decide +kernel
theorem dX12_next_13 : decode cX12_next 13 = .ok (.aload_n 0, 1) := by decide +kernel
theorem dX12_next_14 : decode cX12_next 14 = .ok (.dup, 1) := by decide +kernel
theorem dX12_next_15 : decode cX12_next 15 = .ok (.getfield 86, 3) := by decide +kernel
theorem dX12_next_18 : decode cX12_next 18 = .ok (.iconst 1, 1) := by decide +kernel
theorem dX12_next_19 : decode cX12_next 19 = .ok (.iadd, 1) := by decide +kernel
theorem dX12_next_20 : decode cX12_next 20 = .ok (.putfield 86, 3) := by decide +kernel
theorem dX12_next_23 : decode cX12_next 23 = .ok (.goto (-23), 3) := by decide +kernel
theorem dX12_next_26 : decode cX12_next 26 = .ok (.aload_n 0, 1) := by decide +kernel
theorem dX12_next_27 : decode cX12_next 27 = .ok (.aload_n 0, 1) := by decide +kernel
theorem dX12_next_28 : decode cX12_next 28 = .ok (.getfield 86, 3) := by decide +kernel
theorem dX12_next_31 : decode cX12_next 31 = .ok (.putfield 93, 3) := by decide +kernel
theorem dX12_next_34 : decode cX12_next 34 = .ok (.aload_n 0, 1) := by decide +kernel
theorem dX12_next_35 : decode cX12_next 35 = .ok (.aload_n 0, 1) := by decide +kernel
theorem dX12_next_36 : decode cX12_next 36 = .ok (.getfield 86, 3) := by decide +kernel
theorem dX12_next_39 : decode cX12_next 39 = .ok (.invokevirtual 89, 3) := by decide +kernel
theorem dX12_next_42 : decode cX12_next 42 = .ok (.istore_n 1, 1) := by decide +kernel
theorem dX12_next_43 : decode cX12_next 43 = .ok (.iload_n 1, 1) := by decide +kernel
theorem dX12_next_44 : decode cX12_next 44 = .ok (.ifCond .ge 9, 3) := by decide +kernel
theorem dX12_next_47 : decode cX12_next 47 = .ok (.aload_n 0, 1) := by decide +kernel
theorem dX12_next_48 : decode cX12_next 48 = .ok (.iconst 0, 1) := by decide +kernel
theorem dX12_next_49 : decode cX12_next 49 = .ok (.putfield 96, 3) := by decide +kernel
theorem dX12_next_52 : decode cX12_next 52 = .ok (.return_, 1) := by decide +kernel
theorem dX12_next_53 : decode cX12_next 53 = .ok (.aload_n 0, 1) := by decide +kernel
theorem dX12_next_54 : decode cX12_next 54 = .ok (.dup, 1) := by decide +kernel
theorem dX12_next_55 : decode cX12_next 55 = .ok (.getfield 86, 3) := by decide +kernel
theorem dX12_next_58 : decode cX12_next 58 = .ok (.iconst 1, 1) := by decide +kernel
theorem dX12_next_59 : decode cX12_next 59 = .ok (.iadd, 1) := by decide +kernel
theorem dX12_next_60 : decode cX12_next 60 = .ok (.putfield 86, 3) := by decide +kernel
theorem dX12_next_63 : decode cX12_next 63 = .ok (.aload_n 0, 1) := by decide +kernel
theorem dX12_next_64 : decode cX12_next 64 = .ok (.iload_n 1, 1) := by decide +kernel
theorem dX12_next_65 : decode cX12_next 65 = .ok (.putfield 99, 3) := by decide +kernel
theorem dX12_next_68 : decode cX12_next 68 = .ok (.aload_n 0, 1) := by decide +kernel
theorem dX12_next_69 : decode cX12_next 69 = .ok (.iload_n 1, 1) := by decide +kernel
theorem dX12_next_70 : decode cX12_next 70 = .ok (.bipush 98, 2) := by decide +kernel
theorem dX12_next_72 : decode cX12_next 72 = .ok (.if_icmp .eq 15, 3) := by decide +kernel
theorem dX12_next_75 : decode cX12_next 75 = .ok (.iload_n 1, 1) := by decide +kernel
theorem dX12_next_76 : decode cX12_next 76 = .ok (.bipush 112, 2) := by decide +kernel
theorem dX12_next_78 : decode cX12_next 78 = .ok (.if_icmp .eq 9, 3) := by decide +kernel
theorem dX12_next_81 : decode cX12_next 81 = .ok (.iload_n 1, 1) := by decide +kernel
theorem dX12_next_82 : decode cX12_next 82 = .ok (.bipush 99, 2) := by decide +kernel
theorem dX12_next_84 : decode cX12_next 84 = .ok (.if_icmp .ne 7, 3) := by decide +kernel
theorem dX12_next_87 : decode cX12_next 87 = .ok (.iconst 1, 1) := by decide +kernel
theorem dX12_next_88 : decode cX12_next 88 = .ok (.goto 14, 3) := by decide +kernel
theorem dX12_next_91 : decode cX12_next 91 = .ok (.iload_n 1, 1) := by decide +kernel
theorem dX12_next_92 : decode cX12_next 92 = .ok (.bipush 59, 2) := by decide +kernel
theorem dX12_next_94 : decode cX12_next 94 = .ok (.if_icmp .ne 7, 3) := by decide +kernel
theorem dX12_next_97 : decode cX12_next 97 = .ok (.iconst 3, 1) := by decide +kernel
theorem dX12_next_98 : decode cX12_next 98 = .ok (.goto 4, 3) := by decide +kernel
theorem dX12_next_101 : decode cX12_next 101 = .ok (.iconst 4, 1) := by decide +kernel
theorem dX12_next_102 : decode cX12_next 102 = .ok (.putfield 96, 3) := by decide +kernel
theorem dX12_next_105 : decode cX12_next 105 = .ok (.iload_n 1, 1) := by decide +kernel
theorem dX12_next_106 : decode cX12_next 106 = .ok (.bipush 48, 2) := by decide +kernel
theorem dX12_next_108 : decode cX12_next 108 = .ok (.bipush 57, 2) := by decide +kernel
theorem dX12_next_110 : decode cX12_next 110 = .ok (.invokestatic 73, 3) := by decide +kernel
theorem dX12_next_113 : decode cX12_next 113 = .ok (.ifCond .eq 126, 3) := by decide +kernel
theorem dX12_next_116 : decode cX12_next 116 = .ok (.aload_n 0, 1) := by decide +kernel
theorem dX12_next_117 : decode cX12_next 117 = .ok (.iload_n 1, 1) := by decide +kernel
theorem dX12_next_118 : decode cX12_next 118 = .ok (.bipush 48, 2) := by decide +kernel
theorem dX12_next_120 : decode cX12_next 120 = .ok (.isub, 1) := by decide +kernel
theorem dX12_next_121 : decode cX12_next 121 = .ok (.putfield 99, 3) := by decide +kernel
theorem dX12_next_124 : decode cX12_next 124 = .ok (.aload_n 0, 1) := by decide +kernel
theorem dX12_next_125 : decode cX12_next 125 = .ok (.aload_n 0, 1) := by decide +kernel
theorem dX12_next_126 : decode cX12_next 126 = .ok (.getfield 86, 3) := by decide +kernel
theorem dX12_next_129 : decode cX12_next 129 = .ok (.invokevirtual 89, 3) := by decide +kernel
theorem dX12_next_132 : decode cX12_next 132 = .ok (.bipush 48, 2) := by decide +kernel
theorem dX12_next_134 : decode cX12_next 134 = .ok (.bipush 57, 2) := by decide +kernel
theorem dX12_next_136 : decode cX12_next 136 = .ok (.invokestatic 73, 3) := by decide +kernel
theorem dX12_next_139 : decode cX12_next 139 = .ok (.ifCond .eq 59, 3) := by decide +kernel
theorem dX12_next_142 : decode cX12_next 142 = .ok (.aload_n 0, 1) := by decide +kernel
theorem dX12_next_143 : decode cX12_next 143 = .ok (.aload_n 0, 1) := by decide +kernel
theorem dX12_next_144 : decode cX12_next 144 = .ok (.getfield 86, 3) := by decide +kernel
theorem dX12_next_147 : decode cX12_next 147 = .ok (.aload_n 0, 1) := by decide +kernel
theorem dX12_next_148 : decode cX12_next 148 = .ok (.getfield 93, 3) := by decide +kernel
theorem dX12_next_151 : decode cX12_next 151 = .ok (.isub, 1) := by decide +kernel
theorem dX12_next_152 : decode cX12_next 152 = .ok (.iconst 2, 1) := by decide +kernel
theorem dX12_next_153 : decode cX12_next 153 = .ok (.if_icmp .ge 25, 3) := by decide +kernel
theorem dX12_next_156 : decode cX12_next 156 = .ok (.bipush 10, 2) := by decide +kernel
theorem dX12_next_158 : decode cX12_next 158 = .ok (.aload_n 0, 1) := by decide +kernel
theorem dX12_next_159 : decode cX12_next 159 = .ok (.getfield 99, 3) := by decide +kernel
theorem dX12_next_162 : decode cX12_next 162 = .ok (.imul, 1) := by decide +kernel
theorem dX12_next_163 : decode cX12_next 163 = .ok (.aload_n 0, 1) := by decide +kernel
theorem dX12_next_164 : decode cX12_next 164 = .ok (.aload_n 0, 1) := by decide +kernel
theorem dX12_next_165 : decode cX12_next 165 = .ok (.getfield 86, 3) := by decide +kernel
theorem dX12_next_168 : decode cX12_next 168 = .ok (.invokevirtual 89, 3) := by decide +kernel
theorem dX12_next_171 : decode cX12_next 171 = .ok (.iadd, 1) := by decide +kernel
theorem dX12_next_172 : decode cX12_next 172 = .ok (.bipush 48, 2) := by decide +kernel
theorem dX12_next_174 : decode cX12_next 174 = .ok (.isub, 1) := by decide +kernel
theorem dX12_next_175 : decode cX12_next 175 = .ok (.goto 7, 3) := by decide +kernel
theorem dX12_next_178 : decode cX12_next 178 = .ok (.aload_n 0, 1) := by decide +kernel
theorem dX12_next_179 : decode cX12_next 179 = .ok (.getfield 99, 3) := by decide +kernel
theorem dX12_next_182 : decode cX12_next 182 = .ok (.putfield 99, 3) := by decide +kernel
theorem dX12_next_185 : decode cX12_next 185 = .ok (.aload_n 0, 1) := by decide +kernel
theorem dX12_next_186 : decode cX12_next 186 = .ok (.dup, 1) := by decide +kernel
theorem dX12_next_187 : decode cX12_next 187 = .ok (.getfield 86, 3) := by decide +kernel
theorem dX12_next_190 : decode cX12_next 190 = .ok (.iconst 1, 1) := by decide +kernel
theorem dX12_next_191 : decode cX12_next 191 = .ok (.iadd, 1) := by decide +kernel
theorem dX12_next_192 : decode cX12_next 192 = .ok (.putfield 86, 3) := by decide +kernel
theorem dX12_next_195 : decode cX12_next 195 = .ok (.goto (-71), 3) := by decide +kernel
theorem dX12_next_198 : decode cX12_next 198 = .ok (.aload_n 0, 1) := by decide +kernel
theorem dX12_next_199 : decode cX12_next 199 = .ok (.aload_n 0, 1) := by decide +kernel
theorem dX12_next_200 : decode cX12_next 200 = .ok (.getfield 86, 3) := by decide +kernel
theorem dX12_next_203 : decode cX12_next 203 = .ok (.aload_n 0, 1) := by decide +kernel
theorem dX12_next_204 : decode cX12_next 204 = .ok (.getfield 93, 3) := by decide +kernel
theorem dX12_next_207 : decode cX12_next 207 = .ok (.isub, 1) := by decide +kernel
theorem dX12_next_208 : decode cX12_next 208 = .ok (.iconst 3, 1) := by decide +kernel
theorem dX12_next_209 : decode cX12_next 209 = .ok (.if_icmp .ge 26, 3) := by decide +kernel
theorem dX12_next_212 : decode cX12_next 212 = .ok (.iload_n 1, 1) := by decide +kernel
theorem dX12_next_213 : decode cX12_next 213 = .ok (.bipush 48, 2) := by decide +kernel
theorem dX12_next_215 : decode cX12_next 215 = .ok (.if_icmp .ne 16, 3) := by decide +kernel
theorem dX12_next_218 : decode cX12_next 218 = .ok (.aload_n 0, 1) := by decide +kernel
theorem dX12_next_219 : decode cX12_next 219 = .ok (.getfield 86, 3) := by decide +kernel
theorem dX12_next_222 : decode cX12_next 222 = .ok (.aload_n 0, 1) := by decide +kernel
theorem dX12_next_223 : decode cX12_next 223 = .ok (.getfield 93, 3) := by decide +kernel
theorem dX12_next_226 : decode cX12_next 226 = .ok (.isub, 1) := by decide +kernel
theorem dX12_next_227 : decode cX12_next 227 = .ok (.iconst 1, 1) := by decide +kernel
theorem dX12_next_228 : decode cX12_next 228 = .ok (.if_icmp .ne 7, 3) := by decide +kernel
theorem dX12_next_231 : decode cX12_next 231 = .ok (.iconst 2, 1) := by decide +kernel
theorem dX12_next_232 : decode cX12_next 232 = .ok (.goto 4, 3) := by decide +kernel
theorem dX12_next_235 : decode cX12_next 235 = .ok (.iconst 4, 1) := by decide +kernel
theorem dX12_next_236 : decode cX12_next 236 = .ok (.putfield 96, 3) := by decide +kernel
theorem dX12_next_239 : decode cX12_next 239 = .ok (.return_, 1) := by decide +kernel
theorem dX12_must_0 : decode cX12_must 0 = .ok (.aload_n 0, 1) := by decide +kernel
theorem dX12_must_1 : decode cX12_must 1 = .ok (.aload_n 0, 1) := by decide +kernel
theorem dX12_must_2 : decode cX12_must 2 = .ok (.getfield 102, 3) := by decide +kernel
theorem dX12_must_5 : decode cX12_must 5 = .ok (.ifCond .ne 7, 3) := by decide +kernel
theorem dX12_must_8 : decode cX12_must 8 = .ok (.iload_n 1, 1) := by decide +kernel
theorem dX12_must_9 : decode cX12_must 9 = .ok (.ifCond .ne 7, 3) := by decide +kernel
theorem dX12_must_12 : decode cX12_must 12 = .ok (.iconst 1, 1) := by decide +kernel
theorem dX12_must_13 : decode cX12_must 13 = .ok (.goto 4, 3) := by decide +kernel
theorem dX12_must_16 : decode cX12_must 16 = .ok (.iconst 0, 1) := by decide +kernel
theorem dX12_must_17 : decode cX12_must 17 = .ok (.putfield 102, 3) := by decide +kernel
theorem dX12_must_20 : decode cX12_must 20 = .ok (.aload_n 0, 1) := by decide +kernel
theorem dX12_must_21 : decode cX12_must 21 = .ok (.getfield 102, 3) := by decide +kernel
theorem dX12_must_24 : decode cX12_must 24 = .ok (.ifCond .ne 7, 3) := by decide +kernel
theorem dX12_must_27 : decode cX12_must 27 = .ok (.aload_n 0, 1) := by decide +kernel
theorem dX12_must_28 : decode cX12_must 28 = .ok (.invokevirtual 106, 3) := by decide +kernel
theorem dX12_must_31 : decode cX12_must 31 = .ok (.return_, 1) := by decide +kernel
theorem dX12_readInto_0 : decode cX12_readInto 0 = .ok (.aload_n 0, 1) := by decide +kernel
theorem dX12_readInto_1 : decode cX12_readInto 1 = .ok (.getfield 99, 3) := by decide +kernel
theorem dX12_readInto_4 : decode cX12_readInto 4 = .ok (.istore 5, 2) := by decide +kernel
theorem dX12_readInto_6 : decode cX12_readInto 6 = .ok (.aload_n 0, 1) := by decide +kernel
theorem dX12_readInto_7 : decode cX12_readInto 7 = .ok (.aload_n 0, 1) := by decide +kernel
theorem dX12_readInto_8 : decode cX12_readInto 8 = .ok (.getfield 96, 3) := by decide +kernel
theorem dX12_readInto_11 : decode cX12_readInto 11 = .ok (.iconst 2, 1) := by decide +kernel
theorem dX12_readInto_12 : decode cX12_readInto 12 = .ok (.if_icmp .ne 18, 3) := by decide +kernel
theorem dX12_readInto_15 : decode cX12_readInto 15 = .ok (.iload 5, 2) := by decide +kernel
theorem dX12_readInto_17 : decode cX12_readInto 17 = .ok (.iload_n 3, 1) := by decide +kernel
theorem dX12_readInto_18 : decode cX12_readInto 18 = .ok (.iload 4, 2) := by decide +kernel
theorem dX12_readInto_20 : decode cX12_readInto 20 = .ok (.invokestatic 73, 3) := by decide +kernel
theorem dX12_readInto_23 : decode cX12_readInto 23 = .ok (.ifCond .eq 7, 3) := by decide +kernel
theorem dX12_readInto_26 : decode cX12_readInto 26 = .ok (.iconst 1, 1) := by decide +kernel
theorem dX12_readInto_27 : decode cX12_readInto 27 = .ok (.goto 4, 3) := by decide +kernel
theorem dX12_readInto_30 : decode cX12_readInto 30 = .ok (.iconst 0, 1) := by decide +kernel
theorem dX12_readInto_31 : decode cX12_readInto 31 = .ok (.invokevirtual 109, 3) := by decide +kernel
theorem dX12_readInto_34 : decode cX12_readInto 34 = .ok (.aload_n 0, 1) := by decide +kernel
theorem dX12_readInto_35 : decode cX12_readInto 35 = .ok (.getfield 102, 3) := by decide +kernel
theorem dX12_readInto_38 : decode cX12_readInto 38 = .ok (.ifCond .ne 8, 3) := by decide +kernel
theorem dX12_readInto_41 : decode cX12_readInto 41 = .ok (.aload_n 1, 1) := by decide +kernel
theorem dX12_readInto_42 : decode cX12_readInto 42 = .ok (.iload_n 2, 1) := by decide +kernel
theorem dX12_readInto_43 : decode cX12_readInto 43 = .ok (.iload 5, 2) := by decide +kernel
theorem dX12_readInto_45 : decode cX12_readInto 45 = .ok (.iastore, 1) := by decide +kernel
theorem dX12_readInto_46 : decode cX12_readInto 46 = .ok (.iload 5, 2) := by decide +kernel
theorem dX12_readInto_48 : decode cX12_readInto 48 = .ok (.ireturn, 1) := by decide +kernel
theorem dX12_readBough_0 : decode cX12_readBough 0 = .ok (.aload_n 0, 1) := by decide +kernel
theorem dX12_readBough_1 : decode cX12_readBough 1 = .ok (.aload_n 0, 1) := by decide +kernel
theorem dX12_readBough_2 : decode cX12_readBough 2 = .ok (.getfield 113, 3) := by decide +kernel
theorem dX12_readBough_5 : decode cX12_readBough 5 = .ok (.bipush 8, 2) := by decide +kernel
theorem dX12_readBough_7 : decode cX12_readBough 7 = .ok (.if_icmp .ge 7, 3) := by decide +kernel
theorem dX12_readBough_10 : decode cX12_readBough 10 = .ok (.iconst 1, 1) := by decide +kernel
theorem dX12_readBough_11 : decode cX12_readBough 11 = .ok (.goto 4, 3) := by decide +kernel
theorem dX12_readBough_14 : decode cX12_readBough 14 = .ok (.iconst 0, 1) := by decide +kernel
theorem dX12_readBough_15 : decode cX12_readBough 15 = .ok (.invokevirtual 109, 3) := by decide +kernel
theorem dX12_readBough_18 : decode cX12_readBough 18 = .ok (.aload_n 0, 1) := by decide +kernel
theorem dX12_readBough_19 : decode cX12_readBough 19 = .ok (.getfield 102, 3) := by decide +kernel
theorem dX12_readBough_22 : decode cX12_readBough 22 = .ok (.ifCond .eq 4, 3) := by decide +kernel
theorem dX12_readBough_25 : decode cX12_readBough 25 = .ok (.return_, 1) := by decide +kernel
theorem dX12_readBough_26 : decode cX12_readBough 26 = .ok (.iconst 3, 1) := by decide +kernel
theorem dX12_readBough_27 : decode cX12_readBough 27 = .ok (.aload_n 0, 1) := by decide +kernel
theorem dX12_readBough_28 : decode cX12_readBough 28 = .ok (.getfield 113, 3) := by decide +kernel
theorem dX12_readBough_31 : decode cX12_readBough 31 = .ok (.imul, 1) := by decide +kernel
theorem dX12_readBough_32 : decode cX12_readBough 32 = .ok (.istore_n 1, 1) := by decide +kernel
theorem dX12_readBough_33 : decode cX12_readBough 33 = .ok (.aload_n 0, 1) := by decide +kernel
theorem dX12_readBough_34 : decode cX12_readBough 34 = .ok (.aload_n 0, 1) := by decide +kernel
theorem dX12_readBough_35 : decode cX12_readBough 35 = .ok (.getfield 38, 3) := by decide +kernel
theorem dX12_readBough_38 : decode cX12_readBough 38 = .ok (.iload_n 1, 1) := by decide +kernel
theorem dX12_readBough_39 : decode cX12_readBough 39 = .ok (.iconst 0, 1) := by decide +kernel
theorem dX12_readBough_40 : decode cX12_readBough 40 = .ok (.bipush 20, 2) := by decide +kernel
theorem dX12_readBough_42 : decode cX12_readBough 42 = .ok (.invokevirtual 116, 3) := by decide +kernel
theorem dX12_readBough_45 : decode cX12_readBough 45 = .ok (.pop, 1) := by decide +kernel
theorem dX12_readBough_46 : decode cX12_readBough 46 = .ok (.aload_n 0, 1) := by decide +kernel
theorem dX12_readBough_47 : decode cX12_readBough 47 = .ok (.aload_n 0, 1) := by decide +kernel
theorem dX12_readBough_48 : decode cX12_readBough 48 = .ok (.getfield 38, 3) := by decide +kernel
theorem dX12_readBough_51 : decode cX12_readBough 51 = .ok (.iload_n 1, 1) := by decide +kernel
theorem dX12_readBough_52 : decode cX12_readBough 52 = .ok (.iconst 1, 1) := by decide +kernel
theorem dX12_readBough_53 : decode cX12_readBough 53 = .ok (.iadd, 1) := by decide +kernel
theorem dX12_readBough_54 : decode cX12_readBough 54 = .ok (.iconst 1, 1) := by decide +kernel
theorem dX12_readBough_55 : decode cX12_readBough 55 = .ok (.bipush 60, 2) := by decide +kernel
theorem dX12_readBough_57 : decode cX12_readBough 57 = .ok (.invokevirtual 116, 3) := by decide +kernel
theorem dX12_readBough_60 : decode cX12_readBough 60 = .ok (.pop, 1) := by decide +kernel
theorem dX12_readBough_61 : decode cX12_readBough 61 = .ok (.aload_n 0, 1) := by decide +kernel
theorem dX12_readBough_62 : decode cX12_readBough 62 = .ok (.aload_n 0, 1) := by decide +kernel
theorem dX12_readBough_63 : decode cX12_readBough 63 = .ok (.getfield 38, 3) := by decide +kernel
theorem dX12_readBough_66 : decode cX12_readBough 66 = .ok (.iload_n 1, 1) := by decide +kernel
theorem dX12_readBough_67 : decode cX12_readBough 67 = .ok (.iconst 2, 1) := by decide +kernel
theorem dX12_readBough_68 : decode cX12_readBough 68 = .ok (.iadd, 1) := by decide +kernel
theorem dX12_readBough_69 : decode cX12_readBough 69 = .ok (.iconst 0, 1) := by decide +kernel
theorem dX12_readBough_70 : decode cX12_readBough 70 = .ok (.iconst 3, 1) := by decide +kernel
theorem dX12_readBough_71 : decode cX12_readBough 71 = .ok (.invokevirtual 116, 3) := by decide +kernel
theorem dX12_readBough_74 : decode cX12_readBough 74 = .ok (.pop, 1) := by decide +kernel
theorem dX12_readBough_75 : decode cX12_readBough 75 = .ok (.aload_n 0, 1) := by decide +kernel
theorem dX12_readBough_76 : decode cX12_readBough 76 = .ok (.aload_n 0, 1) := by decide +kernel
theorem dX12_readBough_77 : decode cX12_readBough 77 = .ok (.getfield 96, 3) := by decide +kernel
theorem dX12_readBough_80 : decode cX12_readBough 80 = .ok (.iconst 3, 1) := by decide +kernel
theorem dX12_readBough_81 : decode cX12_readBough 81 = .ok (.if_icmp .ne 7, 3) := by decide +kernel
theorem dX12_readBough_84 : decode cX12_readBough 84 = .ok (.iconst 1, 1) := by decide +kernel
theorem dX12_readBough_85 : decode cX12_readBough 85 = .ok (.goto 4, 3) := by decide +kernel
theorem dX12_readBough_88 : decode cX12_readBough 88 = .ok (.iconst 0, 1) := by decide +kernel
theorem dX12_readBough_89 : decode cX12_readBough 89 = .ok (.invokevirtual 109, 3) := by decide +kernel
theorem dX12_readBough_92 : decode cX12_readBough 92 = .ok (.aload_n 0, 1) := by decide +kernel
theorem dX12_readBough_93 : decode cX12_readBough 93 = .ok (.dup, 1) := by decide +kernel
theorem dX12_readBough_94 : decode cX12_readBough 94 = .ok (.getfield 113, 3) := by decide +kernel
theorem dX12_readBough_97 : decode cX12_readBough 97 = .ok (.iconst 1, 1) := by decide +kernel
theorem dX12_readBough_98 : decode cX12_readBough 98 = .ok (.iadd, 1) := by decide +kernel
theorem dX12_readBough_99 : decode cX12_readBough 99 = .ok (.putfield 113, 3) := by decide +kernel
theorem dX12_readBough_102 : decode cX12_readBough 102 = .ok (.return_, 1) := by decide +kernel
theorem dX12_mayJoin_0 : decode cX12_mayJoin 0 = .ok (.aload_n 0, 1) := by decide +kernel
theorem dX12_mayJoin_1 : decode cX12_mayJoin 1 = .ok (.getfield 38, 3) := by decide +kernel
theorem dX12_mayJoin_4 : decode cX12_mayJoin 4 = .ok (.iconst 3, 1) := by decide +kernel
theorem dX12_mayJoin_5 : decode cX12_mayJoin 5 = .ok (.iload_n 1, 1) := by decide +kernel
theorem dX12_mayJoin_6 : decode cX12_mayJoin 6 = .ok (.imul, 1) := by decide +kernel
theorem dX12_mayJoin_7 : decode cX12_mayJoin 7 = .ok (.iaload, 1) := by decide +kernel
theorem dX12_mayJoin_8 : decode cX12_mayJoin 8 = .ok (.aload_n 0, 1) := by decide +kernel
theorem dX12_mayJoin_9 : decode cX12_mayJoin 9 = .ok (.getfield 38, 3) := by decide +kernel
theorem dX12_mayJoin_12 : decode cX12_mayJoin 12 = .ok (.iconst 3, 1) := by decide +kernel
theorem dX12_mayJoin_13 : decode cX12_mayJoin 13 = .ok (.iload_n 2, 1) := by decide +kernel
theorem dX12_mayJoin_14 : decode cX12_mayJoin 14 = .ok (.imul, 1) := by decide +kernel
theorem dX12_mayJoin_15 : decode cX12_mayJoin 15 = .ok (.iaload, 1) := by decide +kernel
theorem dX12_mayJoin_16 : decode cX12_mayJoin 16 = .ok (.isub, 1) := by decide +kernel
theorem dX12_mayJoin_17 : decode cX12_mayJoin 17 = .ok (.istore_n 3, 1) := by decide +kernel
theorem dX12_mayJoin_18 : decode cX12_mayJoin 18 = .ok (.iload_n 1, 1) := by decide +kernel
theorem dX12_mayJoin_19 : decode cX12_mayJoin 19 = .ok (.iload_n 2, 1) := by decide +kernel
theorem dX12_mayJoin_20 : decode cX12_mayJoin 20 = .ok (.if_icmp .eq 17, 3) := by decide +kernel
theorem dX12_mayJoin_23 : decode cX12_mayJoin 23 = .ok (.iload_n 3, 1) := by decide +kernel
theorem dX12_mayJoin_24 : decode cX12_mayJoin 24 = .ok (.bipush (-2), 2) := by decide +kernel
theorem dX12_mayJoin_26 : decode cX12_mayJoin 26 = .ok (.iconst 2, 1) := by decide +kernel
theorem dX12_mayJoin_27 : decode cX12_mayJoin 27 = .ok (.invokestatic 73, 3) := by decide +kernel
theorem dX12_mayJoin_30 : decode cX12_mayJoin 30 = .ok (.ifCond .eq 7, 3) := by decide +kernel
theorem dX12_mayJoin_33 : decode cX12_mayJoin 33 = .ok (.iconst 1, 1) := by decide +kernel
theorem dX12_mayJoin_34 : decode cX12_mayJoin 34 = .ok (.goto 4, 3) := by decide +kernel
theorem dX12_mayJoin_37 : decode cX12_mayJoin 37 = .ok (.iconst 0, 1) := by decide +kernel
theorem dX12_mayJoin_38 : decode cX12_mayJoin 38 = .ok (.ireturn, 1) := by decide +kernel
theorem dX12_readPlank_0 : decode cX12_readPlank 0 = .ok (.aload_n 0, 1) := by decide +kernel
theorem dX12_readPlank_1 : decode cX12_readPlank 1 = .ok (.aload_n 0, 1) := by decide +kernel
theorem dX12_readPlank_2 : decode cX12_readPlank 2 = .ok (.getfield 120, 3) := by decide +kernel
theorem dX12_readPlank_5 : decode cX12_readPlank 5 = .ok (.bipush 6, 2) := by decide +kernel
theorem dX12_readPlank_7 : decode cX12_readPlank 7 = .ok (.if_icmp .ge 7, 3) := by decide +kernel
theorem dX12_readPlank_10 : decode cX12_readPlank 10 = .ok (.iconst 1, 1) := by decide +kernel
theorem dX12_readPlank_11 : decode cX12_readPlank 11 = .ok (.goto 4, 3) := by decide +kernel
theorem dX12_readPlank_14 : decode cX12_readPlank 14 = .ok (.iconst 0, 1) := by decide +kernel
theorem dX12_readPlank_15 : decode cX12_readPlank 15 = .ok (.invokevirtual 109, 3) := by decide +kernel
theorem dX12_readPlank_18 : decode cX12_readPlank 18 = .ok (.aload_n 0, 1) := by decide +kernel
theorem dX12_readPlank_19 : decode cX12_readPlank 19 = .ok (.getfield 102, 3) := by decide +kernel
theorem dX12_readPlank_22 : decode cX12_readPlank 22 = .ok (.ifCond .eq 4, 3) := by decide +kernel
theorem dX12_readPlank_25 : decode cX12_readPlank 25 = .ok (.return_, 1) := by decide +kernel
theorem dX12_readPlank_26 : decode cX12_readPlank 26 = .ok (.iconst 5, 1) := by decide +kernel
theorem dX12_readPlank_27 : decode cX12_readPlank 27 = .ok (.aload_n 0, 1) := by decide +kernel
theorem dX12_readPlank_28 : decode cX12_readPlank 28 = .ok (.getfield 120, 3) := by decide +kernel
theorem dX12_readPlank_31 : decode cX12_readPlank 31 = .ok (.imul, 1) := by decide +kernel
theorem dX12_readPlank_32 : decode cX12_readPlank 32 = .ok (.istore_n 1, 1) := by decide +kernel
theorem dX12_readPlank_33 : decode cX12_readPlank 33 = .ok (.aload_n 0, 1) := by decide +kernel
theorem dX12_readPlank_34 : decode cX12_readPlank 34 = .ok (.aload_n 0, 1) := by decide +kernel
theorem dX12_readPlank_35 : decode cX12_readPlank 35 = .ok (.getfield 41, 3) := by decide +kernel
theorem dX12_readPlank_38 : decode cX12_readPlank 38 = .ok (.iload_n 1, 1) := by decide +kernel
theorem dX12_readPlank_39 : decode cX12_readPlank 39 = .ok (.iconst 0, 1) := by decide +kernel
theorem dX12_readPlank_40 : decode cX12_readPlank 40 = .ok (.aload_n 0, 1) := by decide +kernel
theorem dX12_readPlank_41 : decode cX12_readPlank 41 = .ok (.getfield 113, 3) := by decide +kernel
theorem dX12_readPlank_44 : decode cX12_readPlank 44 = .ok (.iconst 1, 1) := by decide +kernel
theorem dX12_readPlank_45 : decode cX12_readPlank 45 = .ok (.isub, 1) := by decide +kernel
theorem dX12_readPlank_46 : decode cX12_readPlank 46 = .ok (.invokevirtual 116, 3) := by decide +kernel
theorem dX12_readPlank_49 : decode cX12_readPlank 49 = .ok (.istore_n 2, 1) := by decide +kernel
theorem dX12_readPlank_50 : decode cX12_readPlank 50 = .ok (.aload_n 0, 1) := by decide +kernel
theorem dX12_readPlank_51 : decode cX12_readPlank 51 = .ok (.getfield 99, 3) := by decide +kernel
theorem dX12_readPlank_54 : decode cX12_readPlank 54 = .ok (.istore_n 3, 1) := by decide +kernel
theorem dX12_readPlank_55 : decode cX12_readPlank 55 = .ok (.aload_n 0, 1) := by decide +kernel
theorem dX12_readPlank_56 : decode cX12_readPlank 56 = .ok (.aload_n 0, 1) := by decide +kernel
theorem dX12_readPlank_57 : decode cX12_readPlank 57 = .ok (.getfield 96, 3) := by decide +kernel
theorem dX12_readPlank_60 : decode cX12_readPlank 60 = .ok (.iconst 2, 1) := by decide +kernel
theorem dX12_readPlank_61 : decode cX12_readPlank 61 = .ok (.if_icmp .ne 30, 3) := by decide +kernel
theorem dX12_readPlank_64 : decode cX12_readPlank 64 = .ok (.iload_n 3, 1) := by decide +kernel
theorem dX12_readPlank_65 : decode cX12_readPlank 65 = .ok (.iconst 0, 1) := by decide +kernel
theorem dX12_readPlank_66 : decode cX12_readPlank 66 = .ok (.aload_n 0, 1) := by decide +kernel
theorem dX12_readPlank_67 : decode cX12_readPlank 67 = .ok (.getfield 113, 3) := by decide +kernel
theorem dX12_readPlank_70 : decode cX12_readPlank 70 = .ok (.iconst 1, 1) := by decide +kernel
theorem dX12_readPlank_71 : decode cX12_readPlank 71 = .ok (.isub, 1) := by decide +kernel
theorem dX12_readPlank_72 : decode cX12_readPlank 72 = .ok (.invokestatic 73, 3) := by decide +kernel
theorem dX12_readPlank_75 : decode cX12_readPlank 75 = .ok (.ifCond .eq 16, 3) := by decide +kernel
theorem dX12_readPlank_78 : decode cX12_readPlank 78 = .ok (.aload_n 0, 1) := by decide +kernel
theorem dX12_readPlank_79 : decode cX12_readPlank 79 = .ok (.iload_n 2, 1) := by decide +kernel
theorem dX12_readPlank_80 : decode cX12_readPlank 80 = .ok (.iload_n 3, 1) := by decide +kernel
theorem dX12_readPlank_81 : decode cX12_readPlank 81 = .ok (.invokevirtual 123, 3) := by decide +kernel
theorem dX12_readPlank_84 : decode cX12_readPlank 84 = .ok (.ifCond .eq 7, 3) := by decide +kernel
theorem dX12_readPlank_87 : decode cX12_readPlank 87 = .ok (.iconst 1, 1) := by decide +kernel
theorem dX12_readPlank_88 : decode cX12_readPlank 88 = .ok (.goto 4, 3) := by decide +kernel
theorem dX12_readPlank_91 : decode cX12_readPlank 91 = .ok (.iconst 0, 1) := by decide +kernel
theorem dX12_readPlank_92 : decode cX12_readPlank 92 = .ok (.invokevirtual 109, 3) := by decide +kernel
theorem dX12_readPlank_95 : decode cX12_readPlank 95 = .ok (.aload_n 0, 1) := by decide +kernel
theorem dX12_readPlank_96 : decode cX12_readPlank 96 = .ok (.getfield 41, 3) := by decide +kernel
theorem dX12_readPlank_99 : decode cX12_readPlank 99 = .ok (.iload_n 1, 1) := by decide +kernel
theorem dX12_readPlank_100 : decode cX12_readPlank 100 = .ok (.iconst 1, 1) := by decide +kernel
theorem dX12_readPlank_101 : decode cX12_readPlank 101 = .ok (.iadd, 1) := by decide +kernel
theorem dX12_readPlank_102 : decode cX12_readPlank 102 = .ok (.iload_n 3, 1) := by decide +kernel
theorem dX12_readPlank_103 : decode cX12_readPlank 103 = .ok (.iastore, 1) := by decide +kernel
theorem dX12_readPlank_104 : decode cX12_readPlank 104 = .ok (.aload_n 0, 1) := by decide +kernel
theorem dX12_readPlank_105 : decode cX12_readPlank 105 = .ok (.aload_n 0, 1) := by decide +kernel
theorem dX12_readPlank_106 : decode cX12_readPlank 106 = .ok (.getfield 41, 3) := by decide +kernel
theorem dX12_readPlank_109 : decode cX12_readPlank 109 = .ok (.iload_n 1, 1) := by decide +kernel
theorem dX12_readPlank_110 : decode cX12_readPlank 110 = .ok (.iconst 2, 1) := by decide +kernel
theorem dX12_readPlank_111 : decode cX12_readPlank 111 = .ok (.iadd, 1) := by decide +kernel
theorem dX12_readPlank_112 : decode cX12_readPlank 112 = .ok (.iconst 1, 1) := by decide +kernel
theorem dX12_readPlank_113 : decode cX12_readPlank 113 = .ok (.bipush 40, 2) := by decide +kernel
theorem dX12_readPlank_115 : decode cX12_readPlank 115 = .ok (.invokevirtual 116, 3) := by decide +kernel
theorem dX12_readPlank_118 : decode cX12_readPlank 118 = .ok (.pop, 1) := by decide +kernel
theorem dX12_readPlank_119 : decode cX12_readPlank 119 = .ok (.aload_n 0, 1) := by decide +kernel
theorem dX12_readPlank_120 : decode cX12_readPlank 120 = .ok (.aload_n 0, 1) := by decide +kernel
theorem dX12_readPlank_121 : decode cX12_readPlank 121 = .ok (.getfield 41, 3) := by decide +kernel
theorem dX12_readPlank_124 : decode cX12_readPlank 124 = .ok (.iload_n 1, 1) := by decide +kernel
theorem dX12_readPlank_125 : decode cX12_readPlank 125 = .ok (.iconst 3, 1) := by decide +kernel
theorem dX12_readPlank_126 : decode cX12_readPlank 126 = .ok (.iadd, 1) := by decide +kernel
theorem dX12_readPlank_127 : decode cX12_readPlank 127 = .ok (.iconst 0, 1) := by decide +kernel
theorem dX12_readPlank_128 : decode cX12_readPlank 128 = .ok (.iconst 3, 1) := by decide +kernel
theorem dX12_readPlank_129 : decode cX12_readPlank 129 = .ok (.invokevirtual 116, 3) := by decide +kernel
theorem dX12_readPlank_132 : decode cX12_readPlank 132 = .ok (.pop, 1) := by decide +kernel
theorem dX12_readPlank_133 : decode cX12_readPlank 133 = .ok (.aload_n 0, 1) := by decide +kernel
theorem dX12_readPlank_134 : decode cX12_readPlank 134 = .ok (.aload_n 0, 1) := by decide +kernel
theorem dX12_readPlank_135 : decode cX12_readPlank 135 = .ok (.getfield 41, 3) := by decide +kernel
theorem dX12_readPlank_138 : decode cX12_readPlank 138 = .ok (.iload_n 1, 1) := by decide +kernel
theorem dX12_readPlank_139 : decode cX12_readPlank 139 = .ok (.iconst 4, 1) := by decide +kernel
theorem dX12_readPlank_140 : decode cX12_readPlank 140 = .ok (.iadd, 1) := by decide +kernel
theorem dX12_readPlank_141 : decode cX12_readPlank 141 = .ok (.iconst 0, 1) := by decide +kernel
theorem dX12_readPlank_142 : decode cX12_readPlank 142 = .ok (.iconst 3, 1) := by decide +kernel
theorem dX12_readPlank_143 : decode cX12_readPlank 143 = .ok (.invokevirtual 116, 3) := by decide +kernel
theorem dX12_readPlank_146 : decode cX12_readPlank 146 = .ok (.pop, 1) := by decide +kernel
theorem dX12_readPlank_147 : decode cX12_readPlank 147 = .ok (.aload_n 0, 1) := by decide +kernel
theorem dX12_readPlank_148 : decode cX12_readPlank 148 = .ok (.aload_n 0, 1) := by decide +kernel
theorem dX12_readPlank_149 : decode cX12_readPlank 149 = .ok (.getfield 96, 3) := by decide +kernel
theorem dX12_readPlank_152 : decode cX12_readPlank 152 = .ok (.iconst 3, 1) := by decide +kernel
theorem dX12_readPlank_153 : decode cX12_readPlank 153 = .ok (.if_icmp .ne 7, 3) := by decide +kernel
theorem dX12_readPlank_156 : decode cX12_readPlank 156 = .ok (.iconst 1, 1) := by decide +kernel
theorem dX12_readPlank_157 : decode cX12_readPlank 157 = .ok (.goto 4, 3) := by decide +kernel
theorem dX12_readPlank_160 : decode cX12_readPlank 160 = .ok (.iconst 0, 1) := by decide +kernel
theorem dX12_readPlank_161 : decode cX12_readPlank 161 = .ok (.invokevirtual 109, 3) := by decide +kernel
theorem dX12_readPlank_164 : decode cX12_readPlank 164 = .ok (.aload_n 0, 1) := by decide +kernel
theorem dX12_readPlank_165 : decode cX12_readPlank 165 = .ok (.dup, 1) := by decide +kernel
theorem dX12_readPlank_166 : decode cX12_readPlank 166 = .ok (.getfield 120, 3) := by decide +kernel
theorem dX12_readPlank_169 : decode cX12_readPlank 169 = .ok (.iconst 1, 1) := by decide +kernel
theorem dX12_readPlank_170 : decode cX12_readPlank 170 = .ok (.iadd, 1) := by decide +kernel
theorem dX12_readPlank_171 : decode cX12_readPlank 171 = .ok (.putfield 120, 3) := by decide +kernel
theorem dX12_readPlank_174 : decode cX12_readPlank 174 = .ok (.return_, 1) := by decide +kernel
theorem dX12_readChild_0 : decode cX12_readChild 0 = .ok (.aload_n 0, 1) := by decide +kernel
theorem dX12_readChild_1 : decode cX12_readChild 1 = .ok (.aload_n 0, 1) := by decide +kernel
theorem dX12_readChild_2 : decode cX12_readChild 2 = .ok (.getfield 127, 3) := by decide +kernel
theorem dX12_readChild_5 : decode cX12_readChild 5 = .ok (.iconst 5, 1) := by decide +kernel
theorem dX12_readChild_6 : decode cX12_readChild 6 = .ok (.if_icmp .ge 7, 3) := by decide +kernel
theorem dX12_readChild_9 : decode cX12_readChild 9 = .ok (.iconst 1, 1) := by decide +kernel
theorem dX12_readChild_10 : decode cX12_readChild 10 = .ok (.goto 4, 3) := by decide +kernel
theorem dX12_readChild_13 : decode cX12_readChild 13 = .ok (.iconst 0, 1) := by decide +kernel
theorem dX12_readChild_14 : decode cX12_readChild 14 = .ok (.invokevirtual 109, 3) := by decide +kernel
theorem dX12_readChild_17 : decode cX12_readChild 17 = .ok (.aload_n 0, 1) := by decide +kernel
theorem dX12_readChild_18 : decode cX12_readChild 18 = .ok (.getfield 102, 3) := by decide +kernel
theorem dX12_readChild_21 : decode cX12_readChild 21 = .ok (.ifCond .eq 4, 3) := by decide +kernel
theorem dX12_readChild_24 : decode cX12_readChild 24 = .ok (.return_, 1) := by decide +kernel
theorem dX12_readChild_25 : decode cX12_readChild 25 = .ok (.aload_n 0, 1) := by decide +kernel
theorem dX12_readChild_26 : decode cX12_readChild 26 = .ok (.aload_n 0, 1) := by decide +kernel
theorem dX12_readChild_27 : decode cX12_readChild 27 = .ok (.getfield 44, 3) := by decide +kernel
theorem dX12_readChild_30 : decode cX12_readChild 30 = .ok (.iconst 2, 1) := by decide +kernel
theorem dX12_readChild_31 : decode cX12_readChild 31 = .ok (.aload_n 0, 1) := by decide +kernel
theorem dX12_readChild_32 : decode cX12_readChild 32 = .ok (.getfield 127, 3) := by decide +kernel
theorem dX12_readChild_35 : decode cX12_readChild 35 = .ok (.imul, 1) := by decide +kernel
theorem dX12_readChild_36 : decode cX12_readChild 36 = .ok (.iconst 1, 1) := by decide +kernel
theorem dX12_readChild_37 : decode cX12_readChild 37 = .ok (.bipush 9, 2) := by decide +kernel
theorem dX12_readChild_39 : decode cX12_readChild 39 = .ok (.invokevirtual 116, 3) := by decide +kernel
theorem dX12_readChild_42 : decode cX12_readChild 42 = .ok (.pop, 1) := by decide +kernel
theorem dX12_readChild_43 : decode cX12_readChild 43 = .ok (.aload_n 0, 1) := by decide +kernel
theorem dX12_readChild_44 : decode cX12_readChild 44 = .ok (.aload_n 0, 1) := by decide +kernel
theorem dX12_readChild_45 : decode cX12_readChild 45 = .ok (.getfield 44, 3) := by decide +kernel
theorem dX12_readChild_48 : decode cX12_readChild 48 = .ok (.iconst 2, 1) := by decide +kernel
theorem dX12_readChild_49 : decode cX12_readChild 49 = .ok (.aload_n 0, 1) := by decide +kernel
theorem dX12_readChild_50 : decode cX12_readChild 50 = .ok (.getfield 127, 3) := by decide +kernel
theorem dX12_readChild_53 : decode cX12_readChild 53 = .ok (.imul, 1) := by decide +kernel
theorem dX12_readChild_54 : decode cX12_readChild 54 = .ok (.iconst 1, 1) := by decide +kernel
theorem dX12_readChild_55 : decode cX12_readChild 55 = .ok (.iadd, 1) := by decide +kernel
theorem dX12_readChild_56 : decode cX12_readChild 56 = .ok (.iconst 0, 1) := by decide +kernel
theorem dX12_readChild_57 : decode cX12_readChild 57 = .ok (.bipush 9, 2) := by decide +kernel
theorem dX12_readChild_59 : decode cX12_readChild 59 = .ok (.invokevirtual 116, 3) := by decide +kernel
theorem dX12_readChild_62 : decode cX12_readChild 62 = .ok (.pop, 1) := by decide +kernel
theorem dX12_readChild_63 : decode cX12_readChild 63 = .ok (.aload_n 0, 1) := by decide +kernel
theorem dX12_readChild_64 : decode cX12_readChild 64 = .ok (.aload_n 0, 1) := by decide +kernel
theorem dX12_readChild_65 : decode cX12_readChild 65 = .ok (.getfield 96, 3) := by decide +kernel
theorem dX12_readChild_68 : decode cX12_readChild 68 = .ok (.iconst 3, 1) := by decide +kernel
theorem dX12_readChild_69 : decode cX12_readChild 69 = .ok (.if_icmp .ne 7, 3) := by decide +kernel
theorem dX12_readChild_72 : decode cX12_readChild 72 = .ok (.iconst 1, 1) := by decide +kernel
theorem dX12_readChild_73 : decode cX12_readChild 73 = .ok (.goto 4, 3) := by decide +kernel
theorem dX12_readChild_76 : decode cX12_readChild 76 = .ok (.iconst 0, 1) := by decide +kernel
theorem dX12_readChild_77 : decode cX12_readChild 77 = .ok (.invokevirtual 109, 3) := by decide +kernel
theorem dX12_readChild_80 : decode cX12_readChild 80 = .ok (.aload_n 0, 1) := by decide +kernel
theorem dX12_readChild_81 : decode cX12_readChild 81 = .ok (.dup, 1) := by decide +kernel
theorem dX12_readChild_82 : decode cX12_readChild 82 = .ok (.getfield 127, 3) := by decide +kernel
theorem dX12_readChild_85 : decode cX12_readChild 85 = .ok (.iconst 1, 1) := by decide +kernel
theorem dX12_readChild_86 : decode cX12_readChild 86 = .ok (.iadd, 1) := by decide +kernel
theorem dX12_readChild_87 : decode cX12_readChild 87 = .ok (.putfield 127, 3) := by decide +kernel
theorem dX12_readChild_90 : decode cX12_readChild 90 = .ok (.return_, 1) := by decide +kernel
theorem dX12_readItem_0 : decode cX12_readItem 0 = .ok (.aload_n 0, 1) := by decide +kernel
theorem dX12_readItem_1 : decode cX12_readItem 1 = .ok (.getfield 96, 3) := by decide +kernel
theorem dX12_readItem_4 : decode cX12_readItem 4 = .ok (.iconst 1, 1) := by decide +kernel
theorem dX12_readItem_5 : decode cX12_readItem 5 = .ok (.if_icmp .ne 10, 3) := by decide +kernel
theorem dX12_readItem_8 : decode cX12_readItem 8 = .ok (.aload_n 0, 1) := by decide +kernel
theorem dX12_readItem_9 : decode cX12_readItem 9 = .ok (.getfield 99, 3) := by decide +kernel
theorem dX12_readItem_12 : decode cX12_readItem 12 = .ok (.goto 4, 3) := by decide +kernel
theorem dX12_readItem_15 : decode cX12_readItem 15 = .ok (.iconst 0, 1) := by decide +kernel
theorem dX12_readItem_16 : decode cX12_readItem 16 = .ok (.istore_n 1, 1) := by decide +kernel
theorem dX12_readItem_17 : decode cX12_readItem 17 = .ok (.iload_n 1, 1) := by decide +kernel
theorem dX12_readItem_18 : decode cX12_readItem 18 = .ok (.bipush 98, 2) := by decide +kernel
theorem dX12_readItem_20 : decode cX12_readItem 20 = .ok (.if_icmp .ne 10, 3) := by decide +kernel
theorem dX12_readItem_23 : decode cX12_readItem 23 = .ok (.aload_n 0, 1) := by decide +kernel
theorem dX12_readItem_24 : decode cX12_readItem 24 = .ok (.invokevirtual 130, 3) := by decide +kernel
theorem dX12_readItem_27 : decode cX12_readItem 27 = .ok (.goto 34, 3) := by decide +kernel
theorem dX12_readItem_30 : decode cX12_readItem 30 = .ok (.iload_n 1, 1) := by decide +kernel
theorem dX12_readItem_31 : decode cX12_readItem 31 = .ok (.bipush 112, 2) := by decide +kernel
theorem dX12_readItem_33 : decode cX12_readItem 33 = .ok (.if_icmp .ne 10, 3) := by decide +kernel
theorem dX12_readItem_36 : decode cX12_readItem 36 = .ok (.aload_n 0, 1) := by decide +kernel
theorem dX12_readItem_37 : decode cX12_readItem 37 = .ok (.invokevirtual 133, 3) := by decide +kernel
theorem dX12_readItem_40 : decode cX12_readItem 40 = .ok (.goto 21, 3) := by decide +kernel
theorem dX12_readItem_43 : decode cX12_readItem 43 = .ok (.iload_n 1, 1) := by decide +kernel
theorem dX12_readItem_44 : decode cX12_readItem 44 = .ok (.bipush 99, 2) := by decide +kernel
theorem dX12_readItem_46 : decode cX12_readItem 46 = .ok (.if_icmp .ne 10, 3) := by decide +kernel
theorem dX12_readItem_49 : decode cX12_readItem 49 = .ok (.aload_n 0, 1) := by decide +kernel
theorem dX12_readItem_50 : decode cX12_readItem 50 = .ok (.invokevirtual 136, 3) := by decide +kernel
theorem dX12_readItem_53 : decode cX12_readItem 53 = .ok (.goto 8, 3) := by decide +kernel
theorem dX12_readItem_56 : decode cX12_readItem 56 = .ok (.aload_n 0, 1) := by decide +kernel
theorem dX12_readItem_57 : decode cX12_readItem 57 = .ok (.iconst 1, 1) := by decide +kernel
theorem dX12_readItem_58 : decode cX12_readItem 58 = .ok (.putfield 102, 3) := by decide +kernel
theorem dX12_readItem_61 : decode cX12_readItem 61 = .ok (.return_, 1) := by decide +kernel
theorem dX12_tree_0 : decode cX12_tree 0 = .ok (.aload_n 0, 1) := by decide +kernel
theorem dX12_tree_1 : decode cX12_tree 1 = .ok (.iconst 0, 1) := by decide +kernel
theorem dX12_tree_2 : decode cX12_tree 2 = .ok (.putfield 86, 3) := by decide +kernel
theorem dX12_tree_5 : decode cX12_tree 5 = .ok (.aload_n 0, 1) := by decide +kernel
theorem dX12_tree_6 : decode cX12_tree 6 = .ok (.iconst 0, 1) := by decide +kernel
theorem dX12_tree_7 : decode cX12_tree 7 = .ok (.putfield 102, 3) := by decide +kernel
theorem dX12_tree_10 : decode cX12_tree 10 = .ok (.aload_n 0, 1) := by decide +kernel
theorem dX12_tree_11 : decode cX12_tree 11 = .ok (.iconst 0, 1) := by decide +kernel
theorem dX12_tree_12 : decode cX12_tree 12 = .ok (.putfield 113, 3) := by decide +kernel
theorem dX12_tree_15 : decode cX12_tree 15 = .ok (.aload_n 0, 1) := by decide +kernel
theorem dX12_tree_16 : decode cX12_tree 16 = .ok (.iconst 0, 1) := by decide +kernel
theorem dX12_tree_17 : decode cX12_tree 17 = .ok (.putfield 120, 3) := by decide +kernel
theorem dX12_tree_20 : decode cX12_tree 20 = .ok (.aload_n 0, 1) := by decide +kernel
theorem dX12_tree_21 : decode cX12_tree 21 = .ok (.iconst 0, 1) := by decide +kernel
theorem dX12_tree_22 : decode cX12_tree 22 = .ok (.putfield 127, 3) := by decide +kernel
theorem dX12_tree_25 : decode cX12_tree 25 = .ok (.iconst 0, 1) := by decide +kernel
theorem dX12_tree_26 : decode cX12_tree 26 = .ok (.istore_n 1, 1) := by decide +kernel
theorem dX12_tree_27 : decode cX12_tree 27 = .ok (.aload_n 0, 1) := by decide +kernel
theorem dX12_tree_28 : decode cX12_tree 28 = .ok (.invokevirtual 106, 3) := by decide +kernel
theorem dX12_tree_31 : decode cX12_tree 31 = .ok (.aload_n 0, 1) := by decide +kernel
theorem dX12_tree_32 : decode cX12_tree 32 = .ok (.getfield 96, 3) := by decide +kernel
theorem dX12_tree_35 : decode cX12_tree 35 = .ok (.ifCond .eq 20, 3) := by decide +kernel
theorem dX12_tree_38 : decode cX12_tree 38 = .ok (.aload_n 0, 1) := by decide +kernel
theorem dX12_tree_39 : decode cX12_tree 39 = .ok (.getfield 102, 3) := by decide +kernel
theorem dX12_tree_42 : decode cX12_tree 42 = .ok (.ifCond .ne 13, 3) := by decide +kernel
theorem dX12_tree_45 : decode cX12_tree 45 = .ok (.aload_n 0, 1) := by decide +kernel
theorem dX12_tree_46 : decode cX12_tree 46 = .ok (.invokevirtual 139, 3) := by decide +kernel
theorem dX12_tree_49 : decode cX12_tree 49 = .ok (.iinc 1 1, 3) := by decide +kernel
theorem dX12_tree_52 : decode cX12_tree 52 = .ok (.goto (-21), 3) := by decide +kernel
theorem dX12_tree_55 : decode cX12_tree 55 = .ok (.aload_n 0, 1) := by decide +kernel
theorem dX12_tree_56 : decode cX12_tree 56 = .ok (.getfield 102, 3) := by decide +kernel
theorem dX12_tree_59 : decode cX12_tree 59 = .ok (.ifCond .eq 11, 3) := by decide +kernel
theorem dX12_tree_62 : decode cX12_tree 62 = .ok (.bipush (-10), 2) := by decide +kernel
theorem dX12_tree_64 : decode cX12_tree 64 = .ok (.aload_n 0, 1) := by decide +kernel
theorem dX12_tree_65 : decode cX12_tree 65 = .ok (.getfield 93, 3) := by decide +kernel
theorem dX12_tree_68 : decode cX12_tree 68 = .ok (.isub, 1) := by decide +kernel
theorem dX12_tree_69 : decode cX12_tree 69 = .ok (.ireturn, 1) := by decide +kernel
theorem dX12_tree_70 : decode cX12_tree 70 = .ok (.aload_n 0, 1) := by decide +kernel
theorem dX12_tree_71 : decode cX12_tree 71 = .ok (.aload_n 0, 1) := by decide +kernel
theorem dX12_tree_72 : decode cX12_tree 72 = .ok (.getfield 113, 3) := by decide +kernel
theorem dX12_tree_75 : decode cX12_tree 75 = .ok (.putfield 69, 3) := by decide +kernel
theorem dX12_tree_78 : decode cX12_tree 78 = .ok (.aload_n 0, 1) := by decide +kernel
theorem dX12_tree_79 : decode cX12_tree 79 = .ok (.aload_n 0, 1) := by decide +kernel
theorem dX12_tree_80 : decode cX12_tree 80 = .ok (.getfield 120, 3) := by decide +kernel
theorem dX12_tree_83 : decode cX12_tree 83 = .ok (.putfield 77, 3) := by decide +kernel
theorem dX12_tree_86 : decode cX12_tree 86 = .ok (.aload_n 0, 1) := by decide +kernel
theorem dX12_tree_87 : decode cX12_tree 87 = .ok (.aload_n 0, 1) := by decide +kernel
theorem dX12_tree_88 : decode cX12_tree 88 = .ok (.getfield 127, 3) := by decide +kernel
theorem dX12_tree_91 : decode cX12_tree 91 = .ok (.putfield 80, 3) := by decide +kernel
theorem dX12_tree_94 : decode cX12_tree 94 = .ok (.iconst 0, 1) := by decide +kernel
theorem dX12_tree_95 : decode cX12_tree 95 = .ok (.istore_n 2, 1) := by decide +kernel
theorem dX12_tree_96 : decode cX12_tree 96 = .ok (.iload_n 2, 1) := by decide +kernel
theorem dX12_tree_97 : decode cX12_tree 97 = .ok (.bipush 42, 2) := by decide +kernel
theorem dX12_tree_99 : decode cX12_tree 99 = .ok (.if_icmp .ge 16, 3) := by decide +kernel
theorem dX12_tree_102 : decode cX12_tree 102 = .ok (.aload_n 0, 1) := by decide +kernel
theorem dX12_tree_103 : decode cX12_tree 103 = .ok (.getfield 19, 3) := by decide +kernel
theorem dX12_tree_106 : decode cX12_tree 106 = .ok (.iload_n 2, 1) := by decide +kernel
theorem dX12_tree_107 : decode cX12_tree 107 = .ok (.iconst 0, 1) := by decide +kernel
theorem dX12_tree_108 : decode cX12_tree 108 = .ok (.iastore, 1) := by decide +kernel
theorem dX12_tree_109 : decode cX12_tree 109 = .ok (.iinc 2 1, 3) := by decide +kernel
theorem dX12_tree_112 : decode cX12_tree 112 = .ok (.goto (-16), 3) := by decide +kernel
theorem dX12_tree_115 : decode cX12_tree 115 = .ok (.iconst 0, 1) := by decide +kernel
theorem dX12_tree_116 : decode cX12_tree 116 = .ok (.istore_n 2, 1) := by decide +kernel
theorem dX12_tree_117 : decode cX12_tree 117 = .ok (.iload_n 2, 1) := by decide +kernel
theorem dX12_tree_118 : decode cX12_tree 118 = .ok (.bipush 24, 2) := by decide +kernel
theorem dX12_tree_120 : decode cX12_tree 120 = .ok (.if_icmp .ge 21, 3) := by decide +kernel
theorem dX12_tree_123 : decode cX12_tree 123 = .ok (.aload_n 0, 1) := by decide +kernel
theorem dX12_tree_124 : decode cX12_tree 124 = .ok (.getfield 7, 3) := by decide +kernel
theorem dX12_tree_127 : decode cX12_tree 127 = .ok (.iload_n 2, 1) := by decide +kernel
theorem dX12_tree_128 : decode cX12_tree 128 = .ok (.aload_n 0, 1) := by decide +kernel
theorem dX12_tree_129 : decode cX12_tree 129 = .ok (.getfield 38, 3) := by decide +kernel
theorem dX12_tree_132 : decode cX12_tree 132 = .ok (.iload_n 2, 1) := by decide +kernel
theorem dX12_tree_133 : decode cX12_tree 133 = .ok (.iaload, 1) := by decide +kernel
theorem dX12_tree_134 : decode cX12_tree 134 = .ok (.iastore, 1) := by decide +kernel
theorem dX12_tree_135 : decode cX12_tree 135 = .ok (.iinc 2 1, 3) := by decide +kernel
theorem dX12_tree_138 : decode cX12_tree 138 = .ok (.goto (-21), 3) := by decide +kernel
theorem dX12_tree_141 : decode cX12_tree 141 = .ok (.iconst 0, 1) := by decide +kernel
theorem dX12_tree_142 : decode cX12_tree 142 = .ok (.istore_n 2, 1) := by decide +kernel
theorem dX12_tree_143 : decode cX12_tree 143 = .ok (.iload_n 2, 1) := by decide +kernel
theorem dX12_tree_144 : decode cX12_tree 144 = .ok (.aload_n 0, 1) := by decide +kernel
theorem dX12_tree_145 : decode cX12_tree 145 = .ok (.getfield 77, 3) := by decide +kernel
theorem dX12_tree_148 : decode cX12_tree 148 = .ok (.if_icmp .ge 88, 3) := by decide +kernel
theorem dX12_tree_151 : decode cX12_tree 151 = .ok (.iconst 0, 1) := by decide +kernel
theorem dX12_tree_152 : decode cX12_tree 152 = .ok (.istore_n 3, 1) := by decide +kernel
theorem dX12_tree_153 : decode cX12_tree 153 = .ok (.iload_n 3, 1) := by decide +kernel
theorem dX12_tree_154 : decode cX12_tree 154 = .ok (.iconst 3, 1) := by decide +kernel
theorem dX12_tree_155 : decode cX12_tree 155 = .ok (.if_icmp .ge 29, 3) := by decide +kernel
theorem dX12_tree_158 : decode cX12_tree 158 = .ok (.aload_n 0, 1) := by decide +kernel
theorem dX12_tree_159 : decode cX12_tree 159 = .ok (.getfield 13, 3) := by decide +kernel
theorem dX12_tree_162 : decode cX12_tree 162 = .ok (.iconst 3, 1) := by decide +kernel
theorem dX12_tree_163 : decode cX12_tree 163 = .ok (.iload_n 2, 1) := by decide +kernel
theorem dX12_tree_164 : decode cX12_tree 164 = .ok (.imul, 1) := by decide +kernel
theorem dX12_tree_165 : decode cX12_tree 165 = .ok (.iload_n 3, 1) := by decide +kernel
theorem dX12_tree_166 : decode cX12_tree 166 = .ok (.iadd, 1) := by decide +kernel
theorem dX12_tree_167 : decode cX12_tree 167 = .ok (.aload_n 0, 1) := by decide +kernel
theorem dX12_tree_168 : decode cX12_tree 168 = .ok (.getfield 41, 3) := by decide +kernel
theorem dX12_tree_171 : decode cX12_tree 171 = .ok (.iconst 5, 1) := by decide +kernel
theorem dX12_tree_172 : decode cX12_tree 172 = .ok (.iload_n 2, 1) := by decide +kernel
theorem dX12_tree_173 : decode cX12_tree 173 = .ok (.imul, 1) := by decide +kernel
theorem dX12_tree_174 : decode cX12_tree 174 = .ok (.iload_n 3, 1) := by decide +kernel
theorem dX12_tree_175 : decode cX12_tree 175 = .ok (.iadd, 1) := by decide +kernel
theorem dX12_tree_176 : decode cX12_tree 176 = .ok (.iaload, 1) := by decide +kernel
theorem dX12_tree_177 : decode cX12_tree 177 = .ok (.iastore, 1) := by decide +kernel
theorem dX12_tree_178 : decode cX12_tree 178 = .ok (.iinc 3 1, 3) := by decide +kernel
theorem dX12_tree_181 : decode cX12_tree 181 = .ok (.goto (-28), 3) := by decide +kernel
theorem dX12_tree_184 : decode cX12_tree 184 = .ok (.aload_n 0, 1) := by decide +kernel
theorem dX12_tree_185 : decode cX12_tree 185 = .ok (.getfield 19, 3) := by decide +kernel
theorem dX12_tree_188 : decode cX12_tree 188 = .ok (.bipush 6, 2) := by decide +kernel
theorem dX12_tree_190 : decode cX12_tree 190 = .ok (.bipush 6, 2) := by decide +kernel
theorem dX12_tree_192 : decode cX12_tree 192 = .ok (.iload_n 2, 1) := by decide +kernel
theorem dX12_tree_193 : decode cX12_tree 193 = .ok (.imul, 1) := by decide +kernel
theorem dX12_tree_194 : decode cX12_tree 194 = .ok (.iadd, 1) := by decide +kernel
theorem dX12_tree_195 : decode cX12_tree 195 = .ok (.aload_n 0, 1) := by decide +kernel
theorem dX12_tree_196 : decode cX12_tree 196 = .ok (.getfield 41, 3) := by decide +kernel
theorem dX12_tree_199 : decode cX12_tree 199 = .ok (.iconst 5, 1) := by decide +kernel
theorem dX12_tree_200 : decode cX12_tree 200 = .ok (.iload_n 2, 1) := by decide +kernel
theorem dX12_tree_201 : decode cX12_tree 201 = .ok (.imul, 1) := by decide +kernel
theorem dX12_tree_202 : decode cX12_tree 202 = .ok (.iconst 3, 1) := by decide +kernel
theorem dX12_tree_203 : decode cX12_tree 203 = .ok (.iadd, 1) := by decide +kernel
theorem dX12_tree_204 : decode cX12_tree 204 = .ok (.iaload, 1) := by decide +kernel
theorem dX12_tree_205 : decode cX12_tree 205 = .ok (.iastore, 1) := by decide +kernel
theorem dX12_tree_206 : decode cX12_tree 206 = .ok (.aload_n 0, 1) := by decide +kernel
theorem dX12_tree_207 : decode cX12_tree 207 = .ok (.getfield 19, 3) := by decide +kernel
theorem dX12_tree_210 : decode cX12_tree 210 = .ok (.bipush 6, 2) := by decide +kernel
theorem dX12_tree_212 : decode cX12_tree 212 = .ok (.bipush 6, 2) := by decide +kernel
theorem dX12_tree_214 : decode cX12_tree 214 = .ok (.iload_n 2, 1) := by decide +kernel
theorem dX12_tree_215 : decode cX12_tree 215 = .ok (.imul, 1) := by decide +kernel
theorem dX12_tree_216 : decode cX12_tree 216 = .ok (.iadd, 1) := by decide +kernel
theorem dX12_tree_217 : decode cX12_tree 217 = .ok (.iconst 3, 1) := by decide +kernel
theorem dX12_tree_218 : decode cX12_tree 218 = .ok (.iadd, 1) := by decide +kernel
theorem dX12_tree_219 : decode cX12_tree 219 = .ok (.aload_n 0, 1) := by decide +kernel
theorem dX12_tree_220 : decode cX12_tree 220 = .ok (.getfield 41, 3) := by decide +kernel
theorem dX12_tree_223 : decode cX12_tree 223 = .ok (.iconst 5, 1) := by decide +kernel
theorem dX12_tree_224 : decode cX12_tree 224 = .ok (.iload_n 2, 1) := by decide +kernel
theorem dX12_tree_225 : decode cX12_tree 225 = .ok (.imul, 1) := by decide +kernel
theorem dX12_tree_226 : decode cX12_tree 226 = .ok (.iconst 4, 1) := by decide +kernel
theorem dX12_tree_227 : decode cX12_tree 227 = .ok (.iadd, 1) := by decide +kernel
theorem dX12_tree_228 : decode cX12_tree 228 = .ok (.iaload, 1) := by decide +kernel
theorem dX12_tree_229 : decode cX12_tree 229 = .ok (.iastore, 1) := by decide +kernel
theorem dX12_tree_230 : decode cX12_tree 230 = .ok (.iinc 2 1, 3) := by decide +kernel
theorem dX12_tree_233 : decode cX12_tree 233 = .ok (.goto (-90), 3) := by decide +kernel
theorem dX12_tree_236 : decode cX12_tree 236 = .ok (.iconst 0, 1) := by decide +kernel
theorem dX12_tree_237 : decode cX12_tree 237 = .ok (.istore_n 2, 1) := by decide +kernel
theorem dX12_tree_238 : decode cX12_tree 238 = .ok (.iload_n 2, 1) := by decide +kernel
theorem dX12_tree_239 : decode cX12_tree 239 = .ok (.bipush 10, 2) := by decide +kernel
theorem dX12_tree_241 : decode cX12_tree 241 = .ok (.if_icmp .ge 21, 3) := by decide +kernel
theorem dX12_tree_244 : decode cX12_tree 244 = .ok (.aload_n 0, 1) := by decide +kernel
theorem dX12_tree_245 : decode cX12_tree 245 = .ok (.getfield 16, 3) := by decide +kernel
theorem dX12_tree_248 : decode cX12_tree 248 = .ok (.iload_n 2, 1) := by decide +kernel
theorem dX12_tree_249 : decode cX12_tree 249 = .ok (.aload_n 0, 1) := by decide +kernel
theorem dX12_tree_250 : decode cX12_tree 250 = .ok (.getfield 44, 3) := by decide +kernel
theorem dX12_tree_253 : decode cX12_tree 253 = .ok (.iload_n 2, 1) := by decide +kernel
theorem dX12_tree_254 : decode cX12_tree 254 = .ok (.iaload, 1) := by decide +kernel
theorem dX12_tree_255 : decode cX12_tree 255 = .ok (.iastore, 1) := by decide +kernel
theorem dX12_tree_256 : decode cX12_tree 256 = .ok (.iinc 2 1, 3) := by decide +kernel
theorem dX12_tree_259 : decode cX12_tree 259 = .ok (.goto (-21), 3) := by decide +kernel
theorem dX12_tree_262 : decode cX12_tree 262 = .ok (.iconst 0, 1) := by decide +kernel
theorem dX12_tree_263 : decode cX12_tree 263 = .ok (.istore_n 2, 1) := by decide +kernel
theorem dX12_tree_264 : decode cX12_tree 264 = .ok (.iload_n 2, 1) := by decide +kernel
theorem dX12_tree_265 : decode cX12_tree 265 = .ok (.iconst 5, 1) := by decide +kernel
theorem dX12_tree_266 : decode cX12_tree 266 = .ok (.if_icmp .ge 19, 3) := by decide +kernel
theorem dX12_tree_269 : decode cX12_tree 269 = .ok (.aload_n 0, 1) := by decide +kernel
theorem dX12_tree_270 : decode cX12_tree 270 = .ok (.getfield 19, 3) := by decide +kernel
theorem dX12_tree_273 : decode cX12_tree 273 = .ok (.iconst 1, 1) := by decide +kernel
theorem dX12_tree_274 : decode cX12_tree 274 = .ok (.iload_n 2, 1) := by decide +kernel
theorem dX12_tree_275 : decode cX12_tree 275 = .ok (.iadd, 1) := by decide +kernel
theorem dX12_tree_276 : decode cX12_tree 276 = .ok (.bipush (-9), 2) := by decide +kernel
theorem dX12_tree_278 : decode cX12_tree 278 = .ok (.iastore, 1) := by decide +kernel
theorem dX12_tree_279 : decode cX12_tree 279 = .ok (.iinc 2 1, 3) := by decide +kernel
theorem dX12_tree_282 : decode cX12_tree 282 = .ok (.goto (-18), 3) := by decide +kernel
theorem dX12_tree_285 : decode cX12_tree 285 = .ok (.aload_n 0, 1) := by decide +kernel
theorem dX12_tree_286 : decode cX12_tree 286 = .ok (.iconst 0, 1) := by decide +kernel
theorem dX12_tree_287 : decode cX12_tree 287 = .ok (.putfield 142, 3) := by decide +kernel
theorem dX12_tree_290 : decode cX12_tree 290 = .ok (.aload_n 0, 1) := by decide +kernel
theorem dX12_tree_291 : decode cX12_tree 291 = .ok (.iconst 0, 1) := by decide +kernel
theorem dX12_tree_292 : decode cX12_tree 292 = .ok (.putfield 145, 3) := by decide +kernel
theorem dX12_tree_295 : decode cX12_tree 295 = .ok (.aload_n 0, 1) := by decide +kernel
theorem dX12_tree_296 : decode cX12_tree 296 = .ok (.getfield 28, 3) := by decide +kernel
theorem dX12_tree_299 : decode cX12_tree 299 = .ok (.iconst 0, 1) := by decide +kernel
theorem dX12_tree_300 : decode cX12_tree 300 = .ok (.iconst 0, 1) := by decide +kernel
theorem dX12_tree_301 : decode cX12_tree 301 = .ok (.bastore, 1) := by decide +kernel
theorem dX12_tree_302 : decode cX12_tree 302 = .ok (.aload_n 0, 1) := by decide +kernel
theorem dX12_tree_303 : decode cX12_tree 303 = .ok (.getfield 28, 3) := by decide +kernel
theorem dX12_tree_306 : decode cX12_tree 306 = .ok (.iconst 1, 1) := by decide +kernel
theorem dX12_tree_307 : decode cX12_tree 307 = .ok (.iconst 0, 1) := by decide +kernel
theorem dX12_tree_308 : decode cX12_tree 308 = .ok (.bastore, 1) := by decide +kernel
theorem dX12_tree_309 : decode cX12_tree 309 = .ok (.aload_n 0, 1) := by decide +kernel
theorem dX12_tree_310 : decode cX12_tree 310 = .ok (.iconst 0, 1) := by decide +kernel
theorem dX12_tree_311 : decode cX12_tree 311 = .ok (.putfield 83, 3) := by decide +kernel
theorem dX12_tree_314 : decode cX12_tree 314 = .ok (.iload_n 1, 1) := by decide +kernel
theorem dX12_tree_315 : decode cX12_tree 315 = .ok (.ireturn, 1) := by decide +kernel
theorem dX12_layNow_0 : decode cX12_layNow 0 = .ok (.iconst 0, 1) := by decide +kernel
theorem dX12_layNow_1 : decode cX12_layNow 1 = .ok (.istore_n 1, 1) := by decide +kernel
theorem dX12_layNow_2 : decode cX12_layNow 2 = .ok (.iload_n 1, 1) := by decide +kernel
theorem dX12_layNow_3 : decode cX12_layNow 3 = .ok (.iconst 5, 1) := by decide +kernel
theorem dX12_layNow_4 : decode cX12_layNow 4 = .ok (.if_icmp .ge 23, 3) := by decide +kernel
theorem dX12_layNow_7 : decode cX12_layNow 7 = .ok (.aload_n 0, 1) := by decide +kernel
theorem dX12_layNow_8 : decode cX12_layNow 8 = .ok (.getfield 47, 3) := by decide +kernel
theorem dX12_layNow_11 : decode cX12_layNow 11 = .ok (.iload_n 1, 1) := by decide +kernel
theorem dX12_layNow_12 : decode cX12_layNow 12 = .ok (.aload_n 0, 1) := by decide +kernel
theorem dX12_layNow_13 : decode cX12_layNow 13 = .ok (.getfield 19, 3) := by decide +kernel
theorem dX12_layNow_16 : decode cX12_layNow 16 = .ok (.iconst 1, 1) := by decide +kernel
theorem dX12_layNow_17 : decode cX12_layNow 17 = .ok (.iload_n 1, 1) := by decide +kernel
theorem dX12_layNow_18 : decode cX12_layNow 18 = .ok (.iadd, 1) := by decide +kernel
theorem dX12_layNow_19 : decode cX12_layNow 19 = .ok (.iaload, 1) := by decide +kernel
theorem dX12_layNow_20 : decode cX12_layNow 20 = .ok (.iastore, 1) := by decide +kernel
theorem dX12_layNow_21 : decode cX12_layNow 21 = .ok (.iinc 1 1, 3) := by decide +kernel
theorem dX12_layNow_24 : decode cX12_layNow 24 = .ok (.goto (-22), 3) := by decide +kernel
theorem dX12_layNow_27 : decode cX12_layNow 27 = .ok (.return_, 1) := by decide +kernel
theorem dX12_layLoads_0 : decode cX12_layLoads 0 = .ok (.iconst 0, 1) := by decide +kernel
theorem dX12_layLoads_1 : decode cX12_layLoads 1 = .ok (.istore_n 1, 1) := by decide +kernel
theorem dX12_layLoads_2 : decode cX12_layLoads 2 = .ok (.iload_n 1, 1) := by decide +kernel
theorem dX12_layLoads_3 : decode cX12_layLoads 3 = .ok (.bipush 6, 2) := by decide +kernel
theorem dX12_layLoads_5 : decode cX12_layLoads 5 = .ok (.if_icmp .ge 16, 3) := by decide +kernel
theorem dX12_layLoads_8 : decode cX12_layLoads 8 = .ok (.aload_n 0, 1) := by decide +kernel
theorem dX12_layLoads_9 : decode cX12_layLoads 9 = .ok (.getfield 50, 3) := by decide +kernel
theorem dX12_layLoads_12 : decode cX12_layLoads 12 = .ok (.iload_n 1, 1) := by decide +kernel
theorem dX12_layLoads_13 : decode cX12_layLoads 13 = .ok (.iconst 0, 1) := by decide +kernel
theorem dX12_layLoads_14 : decode cX12_layLoads 14 = .ok (.iastore, 1) := by decide +kernel
theorem dX12_layLoads_15 : decode cX12_layLoads 15 = .ok (.iinc 1 1, 3) := by decide +kernel
theorem dX12_layLoads_18 : decode cX12_layLoads 18 = .ok (.goto (-16), 3) := by decide +kernel
theorem dX12_layLoads_21 : decode cX12_layLoads 21 = .ok (.iconst 0, 1) := by decide +kernel
theorem dX12_layLoads_22 : decode cX12_layLoads 22 = .ok (.istore_n 1, 1) := by decide +kernel
theorem dX12_layLoads_23 : decode cX12_layLoads 23 = .ok (.iload_n 1, 1) := by decide +kernel
theorem dX12_layLoads_24 : decode cX12_layLoads 24 = .ok (.bipush 8, 2) := by decide +kernel
theorem dX12_layLoads_26 : decode cX12_layLoads 26 = .ok (.if_icmp .ge 16, 3) := by decide +kernel
theorem dX12_layLoads_29 : decode cX12_layLoads 29 = .ok (.aload_n 0, 1) := by decide +kernel
theorem dX12_layLoads_30 : decode cX12_layLoads 30 = .ok (.getfield 53, 3) := by decide +kernel
theorem dX12_layLoads_33 : decode cX12_layLoads 33 = .ok (.iload_n 1, 1) := by decide +kernel
theorem dX12_layLoads_34 : decode cX12_layLoads 34 = .ok (.iconst 0, 1) := by decide +kernel
theorem dX12_layLoads_35 : decode cX12_layLoads 35 = .ok (.iastore, 1) := by decide +kernel
theorem dX12_layLoads_36 : decode cX12_layLoads 36 = .ok (.iinc 1 1, 3) := by decide +kernel
theorem dX12_layLoads_39 : decode cX12_layLoads 39 = .ok (.goto (-16), 3) := by decide +kernel
theorem dX12_layLoads_42 : decode cX12_layLoads 42 = .ok (.iconst 0, 1) := by decide +kernel
theorem dX12_layLoads_43 : decode cX12_layLoads 43 = .ok (.istore_n 1, 1) := by decide +kernel
theorem dX12_layLoads_44 : decode cX12_layLoads 44 = .ok (.iload_n 1, 1) := by decide +kernel
theorem dX12_layLoads_45 : decode cX12_layLoads 45 = .ok (.aload_n 0, 1) := by decide +kernel
theorem dX12_layLoads_46 : decode cX12_layLoads 46 = .ok (.getfield 80, 3) := by decide +kernel
theorem dX12_layLoads_49 : decode cX12_layLoads 49 = .ok (.if_icmp .ge 42, 3) := by decide +kernel
theorem dX12_layLoads_52 : decode cX12_layLoads 52 = .ok (.aload_n 0, 1) := by decide +kernel
theorem dX12_layLoads_53 : decode cX12_layLoads 53 = .ok (.getfield 47, 3) := by decide +kernel
theorem dX12_layLoads_56 : decode cX12_layLoads 56 = .ok (.iload_n 1, 1) := by decide +kernel
theorem dX12_layLoads_57 : decode cX12_layLoads 57 = .ok (.iaload, 1) := by decide +kernel
theorem dX12_layLoads_58 : decode cX12_layLoads 58 = .ok (.bipush (-9), 2) := by decide +kernel
theorem dX12_layLoads_60 : decode cX12_layLoads 60 = .ok (.if_icmp .eq 25, 3) := by decide +kernel
theorem dX12_layLoads_63 : decode cX12_layLoads 63 = .ok (.aload_n 0, 1) := by decide +kernel
theorem dX12_layLoads_64 : decode cX12_layLoads 64 = .ok (.getfield 50, 3) := by decide +kernel
theorem dX12_layLoads_67 : decode cX12_layLoads 67 = .ok (.aload_n 0, 1) := by decide +kernel
theorem dX12_layLoads_68 : decode cX12_layLoads 68 = .ok (.getfield 47, 3) := by decide +kernel
theorem dX12_layLoads_71 : decode cX12_layLoads 71 = .ok (.iload_n 1, 1) := by decide +kernel
theorem dX12_layLoads_72 : decode cX12_layLoads 72 = .ok (.iaload, 1) := by decide +kernel
theorem dX12_layLoads_73 : decode cX12_layLoads 73 = .ok (.dup2, 1) := by decide +kernel
theorem dX12_layLoads_74 : decode cX12_layLoads 74 = .ok (.iaload, 1) := by decide +kernel
theorem dX12_layLoads_75 : decode cX12_layLoads 75 = .ok (.aload_n 0, 1) := by decide +kernel
theorem dX12_layLoads_76 : decode cX12_layLoads 76 = .ok (.getfield 16, 3) := by decide +kernel
theorem dX12_layLoads_79 : decode cX12_layLoads 79 = .ok (.iconst 2, 1) := by decide +kernel
theorem dX12_layLoads_80 : decode cX12_layLoads 80 = .ok (.iload_n 1, 1) := by decide +kernel
theorem dX12_layLoads_81 : decode cX12_layLoads 81 = .ok (.imul, 1) := by decide +kernel
theorem dX12_layLoads_82 : decode cX12_layLoads 82 = .ok (.iaload, 1) := by decide +kernel
theorem dX12_layLoads_83 : decode cX12_layLoads 83 = .ok (.iadd, 1) := by decide +kernel
theorem dX12_layLoads_84 : decode cX12_layLoads 84 = .ok (.iastore, 1) := by decide +kernel
theorem dX12_layLoads_85 : decode cX12_layLoads 85 = .ok (.iinc 1 1, 3) := by decide +kernel
theorem dX12_layLoads_88 : decode cX12_layLoads 88 = .ok (.goto (-44), 3) := by decide +kernel
theorem dX12_layLoads_91 : decode cX12_layLoads 91 = .ok (.iconst 0, 1) := by decide +kernel
theorem dX12_layLoads_92 : decode cX12_layLoads 92 = .ok (.istore_n 1, 1) := by decide +kernel
theorem dX12_layLoads_93 : decode cX12_layLoads 93 = .ok (.iload_n 1, 1) := by decide +kernel
theorem dX12_layLoads_94 : decode cX12_layLoads 94 = .ok (.aload_n 0, 1) := by decide +kernel
theorem dX12_layLoads_95 : decode cX12_layLoads 95 = .ok (.getfield 77, 3) := by decide +kernel
theorem dX12_layLoads_98 : decode cX12_layLoads 98 = .ok (.if_icmp .ge 61, 3) := by decide +kernel
theorem dX12_layLoads_101 : decode cX12_layLoads 101 = .ok (.aload_n 0, 1) := by decide +kernel
theorem dX12_layLoads_102 : decode cX12_layLoads 102 = .ok (.getfield 53, 3) := by decide +kernel
theorem dX12_layLoads_105 : decode cX12_layLoads 105 = .ok (.aload_n 0, 1) := by decide +kernel
theorem dX12_layLoads_106 : decode cX12_layLoads 106 = .ok (.getfield 13, 3) := by decide +kernel
theorem dX12_layLoads_109 : decode cX12_layLoads 109 = .ok (.iconst 3, 1) := by decide +kernel
theorem dX12_layLoads_110 : decode cX12_layLoads 110 = .ok (.iload_n 1, 1) := by decide +kernel
theorem dX12_layLoads_111 : decode cX12_layLoads 111 = .ok (.imul, 1) := by decide +kernel
theorem dX12_layLoads_112 : decode cX12_layLoads 112 = .ok (.iaload, 1) := by decide +kernel
theorem dX12_layLoads_113 : decode cX12_layLoads 113 = .ok (.dup2, 1) := by decide +kernel
theorem dX12_layLoads_114 : decode cX12_layLoads 114 = .ok (.iaload, 1) := by decide +kernel
theorem dX12_layLoads_115 : decode cX12_layLoads 115 = .ok (.aload_n 0, 1) := by decide +kernel
theorem dX12_layLoads_116 : decode cX12_layLoads 116 = .ok (.getfield 50, 3) := by decide +kernel
theorem dX12_layLoads_119 : decode cX12_layLoads 119 = .ok (.iload_n 1, 1) := by decide +kernel
theorem dX12_layLoads_120 : decode cX12_layLoads 120 = .ok (.iaload, 1) := by decide +kernel
theorem dX12_layLoads_121 : decode cX12_layLoads 121 = .ok (.iconst 1, 1) := by decide +kernel
theorem dX12_layLoads_122 : decode cX12_layLoads 122 = .ok (.iadd, 1) := by decide +kernel
theorem dX12_layLoads_123 : decode cX12_layLoads 123 = .ok (.iconst 2, 1) := by decide +kernel
theorem dX12_layLoads_124 : decode cX12_layLoads 124 = .ok (.idiv, 1) := by decide +kernel
theorem dX12_layLoads_125 : decode cX12_layLoads 125 = .ok (.iadd, 1) := by decide +kernel
theorem dX12_layLoads_126 : decode cX12_layLoads 126 = .ok (.iastore, 1) := by decide +kernel
theorem dX12_layLoads_127 : decode cX12_layLoads 127 = .ok (.aload_n 0, 1) := by decide +kernel
theorem dX12_layLoads_128 : decode cX12_layLoads 128 = .ok (.getfield 53, 3) := by decide +kernel
theorem dX12_layLoads_131 : decode cX12_layLoads 131 = .ok (.aload_n 0, 1) := by decide +kernel
theorem dX12_layLoads_132 : decode cX12_layLoads 132 = .ok (.getfield 13, 3) := by decide +kernel
theorem dX12_layLoads_135 : decode cX12_layLoads 135 = .ok (.iconst 3, 1) := by decide +kernel
theorem dX12_layLoads_136 : decode cX12_layLoads 136 = .ok (.iload_n 1, 1) := by decide +kernel
theorem dX12_layLoads_137 : decode cX12_layLoads 137 = .ok (.imul, 1) := by decide +kernel
theorem dX12_layLoads_138 : decode cX12_layLoads 138 = .ok (.iconst 1, 1) := by decide +kernel
theorem dX12_layLoads_139 : decode cX12_layLoads 139 = .ok (.iadd, 1) := by decide +kernel
theorem dX12_layLoads_140 : decode cX12_layLoads 140 = .ok (.iaload, 1) := by decide +kernel
theorem dX12_layLoads_141 : decode cX12_layLoads 141 = .ok (.dup2, 1) := by decide +kernel
theorem dX12_layLoads_142 : decode cX12_layLoads 142 = .ok (.iaload, 1) := by decide +kernel
theorem dX12_layLoads_143 : decode cX12_layLoads 143 = .ok (.aload_n 0, 1) := by decide +kernel
theorem dX12_layLoads_144 : decode cX12_layLoads 144 = .ok (.getfield 50, 3) := by decide +kernel
theorem dX12_layLoads_147 : decode cX12_layLoads 147 = .ok (.iload_n 1, 1) := by decide +kernel
theorem dX12_layLoads_148 : decode cX12_layLoads 148 = .ok (.iaload, 1) := by decide +kernel
theorem dX12_layLoads_149 : decode cX12_layLoads 149 = .ok (.iconst 2, 1) := by decide +kernel
theorem dX12_layLoads_150 : decode cX12_layLoads 150 = .ok (.idiv, 1) := by decide +kernel
theorem dX12_layLoads_151 : decode cX12_layLoads 151 = .ok (.iadd, 1) := by decide +kernel
theorem dX12_layLoads_152 : decode cX12_layLoads 152 = .ok (.iastore, 1) := by decide +kernel
theorem dX12_layLoads_153 : decode cX12_layLoads 153 = .ok (.iinc 1 1, 3) := by decide +kernel
theorem dX12_layLoads_156 : decode cX12_layLoads 156 = .ok (.goto (-63), 3) := by decide +kernel
theorem dX12_layLoads_159 : decode cX12_layLoads 159 = .ok (.return_, 1) := by decide +kernel
theorem dX12_layLoadsNow_0 : decode cX12_layLoadsNow 0 = .ok (.aload_n 0, 1) := by decide +kernel
theorem dX12_layLoadsNow_1 : decode cX12_layLoadsNow 1 = .ok (.invokevirtual 148, 3) := by decide +kernel
theorem dX12_layLoadsNow_4 : decode cX12_layLoadsNow 4 = .ok (.aload_n 0, 1) := by decide +kernel
theorem dX12_layLoadsNow_5 : decode cX12_layLoadsNow 5 = .ok (.invokevirtual 151, 3) := by decide +kernel
theorem dX12_layLoadsNow_8 : decode cX12_layLoadsNow 8 = .ok (.return_, 1) := by decide +kernel
theorem dX12_layEnds_0 : decode cX12_layEnds 0 = .ok (.iconst 0, 1) := by decide +kernel
theorem dX12_layEnds_1 : decode cX12_layEnds 1 = .ok (.istore_n 1, 1) := by decide +kernel
theorem dX12_layEnds_2 : decode cX12_layEnds 2 = .ok (.iload_n 1, 1) := by decide +kernel
theorem dX12_layEnds_3 : decode cX12_layEnds 3 = .ok (.bipush 36, 2) := by decide +kernel
theorem dX12_layEnds_5 : decode cX12_layEnds 5 = .ok (.if_icmp .ge 24, 3) := by decide +kernel
theorem dX12_layEnds_8 : decode cX12_layEnds 8 = .ok (.aload_n 0, 1) := by decide +kernel
theorem dX12_layEnds_9 : decode cX12_layEnds 9 = .ok (.getfield 56, 3) := by decide +kernel
theorem dX12_layEnds_12 : decode cX12_layEnds 12 = .ok (.iload_n 1, 1) := by decide +kernel
theorem dX12_layEnds_13 : decode cX12_layEnds 13 = .ok (.aload_n 0, 1) := by decide +kernel
theorem dX12_layEnds_14 : decode cX12_layEnds 14 = .ok (.getfield 19, 3) := by decide +kernel
theorem dX12_layEnds_17 : decode cX12_layEnds 17 = .ok (.bipush 6, 2) := by decide +kernel
theorem dX12_layEnds_19 : decode cX12_layEnds 19 = .ok (.iload_n 1, 1) := by decide +kernel
theorem dX12_layEnds_20 : decode cX12_layEnds 20 = .ok (.iadd, 1) := by decide +kernel
theorem dX12_layEnds_21 : decode cX12_layEnds 21 = .ok (.iaload, 1) := by decide +kernel
theorem dX12_layEnds_22 : decode cX12_layEnds 22 = .ok (.iastore, 1) := by decide +kernel
theorem dX12_layEnds_23 : decode cX12_layEnds 23 = .ok (.iinc 1 1, 3) := by decide +kernel
theorem dX12_layEnds_26 : decode cX12_layEnds 26 = .ok (.goto (-24), 3) := by decide +kernel
theorem dX12_layEnds_29 : decode cX12_layEnds 29 = .ok (.return_, 1) := by decide +kernel
theorem dX12_firstHeavy_0 : decode cX12_firstHeavy 0 = .ok (.bipush (-9), 2) := by decide +kernel
theorem dX12_firstHeavy_2 : decode cX12_firstHeavy 2 = .ok (.istore_n 1, 1) := by decide +kernel
theorem dX12_firstHeavy_3 : decode cX12_firstHeavy 3 = .ok (.aload_n 0, 1) := by decide +kernel
theorem dX12_firstHeavy_4 : decode cX12_firstHeavy 4 = .ok (.getfield 77, 3) := by decide +kernel
theorem dX12_firstHeavy_7 : decode cX12_firstHeavy 7 = .ok (.iconst 1, 1) := by decide +kernel
theorem dX12_firstHeavy_8 : decode cX12_firstHeavy 8 = .ok (.isub, 1) := by decide +kernel
theorem dX12_firstHeavy_9 : decode cX12_firstHeavy 9 = .ok (.istore_n 2, 1) := by decide +kernel
theorem dX12_firstHeavy_10 : decode cX12_firstHeavy 10 = .ok (.iload_n 2, 1) := by decide +kernel
theorem dX12_firstHeavy_11 : decode cX12_firstHeavy 11 = .ok (.ifCond .lt 34, 3) := by decide +kernel
theorem dX12_firstHeavy_14 : decode cX12_firstHeavy 14 = .ok (.aload_n 0, 1) := by decide +kernel
theorem dX12_firstHeavy_15 : decode cX12_firstHeavy 15 = .ok (.getfield 50, 3) := by decide +kernel
theorem dX12_firstHeavy_18 : decode cX12_firstHeavy 18 = .ok (.iload_n 2, 1) := by decide +kernel
theorem dX12_firstHeavy_19 : decode cX12_firstHeavy 19 = .ok (.iaload, 1) := by decide +kernel
theorem dX12_firstHeavy_20 : decode cX12_firstHeavy 20 = .ok (.aload_n 0, 1) := by decide +kernel
theorem dX12_firstHeavy_21 : decode cX12_firstHeavy 21 = .ok (.getfield 13, 3) := by decide +kernel
theorem dX12_firstHeavy_24 : decode cX12_firstHeavy 24 = .ok (.iconst 3, 1) := by decide +kernel
theorem dX12_firstHeavy_25 : decode cX12_firstHeavy 25 = .ok (.iload_n 2, 1) := by decide +kernel
theorem dX12_firstHeavy_26 : decode cX12_firstHeavy 26 = .ok (.imul, 1) := by decide +kernel
theorem dX12_firstHeavy_27 : decode cX12_firstHeavy 27 = .ok (.iconst 2, 1) := by decide +kernel
theorem dX12_firstHeavy_28 : decode cX12_firstHeavy 28 = .ok (.iadd, 1) := by decide +kernel
theorem dX12_firstHeavy_29 : decode cX12_firstHeavy 29 = .ok (.iaload, 1) := by decide +kernel
theorem dX12_firstHeavy_30 : decode cX12_firstHeavy 30 = .ok (.if_icmp .le 7, 3) := by decide +kernel
theorem dX12_firstHeavy_33 : decode cX12_firstHeavy 33 = .ok (.iload_n 2, 1) := by decide +kernel
theorem dX12_firstHeavy_34 : decode cX12_firstHeavy 34 = .ok (.goto 4, 3) := by decide +kernel
theorem dX12_firstHeavy_37 : decode cX12_firstHeavy 37 = .ok (.iload_n 1, 1) := by decide +kernel
theorem dX12_firstHeavy_38 : decode cX12_firstHeavy 38 = .ok (.istore_n 1, 1) := by decide +kernel
theorem dX12_firstHeavy_39 : decode cX12_firstHeavy 39 = .ok (.iinc 2 (-1), 3) := by decide +kernel
theorem dX12_firstHeavy_42 : decode cX12_firstHeavy 42 = .ok (.goto (-32), 3) := by decide +kernel
theorem dX12_firstHeavy_45 : decode cX12_firstHeavy 45 = .ok (.iload_n 1, 1) := by decide +kernel
theorem dX12_firstHeavy_46 : decode cX12_firstHeavy 46 = .ok (.ireturn, 1) := by decide +kernel
theorem dX12_firstWeak_0 : decode cX12_firstWeak 0 = .ok (.bipush (-9), 2) := by decide +kernel
theorem dX12_firstWeak_2 : decode cX12_firstWeak 2 = .ok (.istore_n 1, 1) := by decide +kernel
theorem dX12_firstWeak_3 : decode cX12_firstWeak 3 = .ok (.aload_n 0, 1) := by decide +kernel
theorem dX12_firstWeak_4 : decode cX12_firstWeak 4 = .ok (.getfield 69, 3) := by decide +kernel
theorem dX12_firstWeak_7 : decode cX12_firstWeak 7 = .ok (.iconst 1, 1) := by decide +kernel
theorem dX12_firstWeak_8 : decode cX12_firstWeak 8 = .ok (.isub, 1) := by decide +kernel
theorem dX12_firstWeak_9 : decode cX12_firstWeak 9 = .ok (.istore_n 2, 1) := by decide +kernel
theorem dX12_firstWeak_10 : decode cX12_firstWeak 10 = .ok (.iload_n 2, 1) := by decide +kernel
theorem dX12_firstWeak_11 : decode cX12_firstWeak 11 = .ok (.ifCond .lt 34, 3) := by decide +kernel
theorem dX12_firstWeak_14 : decode cX12_firstWeak 14 = .ok (.aload_n 0, 1) := by decide +kernel
theorem dX12_firstWeak_15 : decode cX12_firstWeak 15 = .ok (.getfield 53, 3) := by decide +kernel
theorem dX12_firstWeak_18 : decode cX12_firstWeak 18 = .ok (.iload_n 2, 1) := by decide +kernel
theorem dX12_firstWeak_19 : decode cX12_firstWeak 19 = .ok (.iaload, 1) := by decide +kernel
theorem dX12_firstWeak_20 : decode cX12_firstWeak 20 = .ok (.aload_n 0, 1) := by decide +kernel
theorem dX12_firstWeak_21 : decode cX12_firstWeak 21 = .ok (.getfield 7, 3) := by decide +kernel
theorem dX12_firstWeak_24 : decode cX12_firstWeak 24 = .ok (.iconst 3, 1) := by decide +kernel
theorem dX12_firstWeak_25 : decode cX12_firstWeak 25 = .ok (.iload_n 2, 1) := by decide +kernel
theorem dX12_firstWeak_26 : decode cX12_firstWeak 26 = .ok (.imul, 1) := by decide +kernel
theorem dX12_firstWeak_27 : decode cX12_firstWeak 27 = .ok (.iconst 1, 1) := by decide +kernel
theorem dX12_firstWeak_28 : decode cX12_firstWeak 28 = .ok (.iadd, 1) := by decide +kernel
theorem dX12_firstWeak_29 : decode cX12_firstWeak 29 = .ok (.iaload, 1) := by decide +kernel
theorem dX12_firstWeak_30 : decode cX12_firstWeak 30 = .ok (.if_icmp .le 7, 3) := by decide +kernel
theorem dX12_firstWeak_33 : decode cX12_firstWeak 33 = .ok (.iload_n 2, 1) := by decide +kernel
theorem dX12_firstWeak_34 : decode cX12_firstWeak 34 = .ok (.goto 4, 3) := by decide +kernel
theorem dX12_firstWeak_37 : decode cX12_firstWeak 37 = .ok (.iload_n 1, 1) := by decide +kernel
theorem dX12_firstWeak_38 : decode cX12_firstWeak 38 = .ok (.istore_n 1, 1) := by decide +kernel
theorem dX12_firstWeak_39 : decode cX12_firstWeak 39 = .ok (.iinc 2 (-1), 3) := by decide +kernel
theorem dX12_firstWeak_42 : decode cX12_firstWeak 42 = .ok (.goto (-32), 3) := by decide +kernel
theorem dX12_firstWeak_45 : decode cX12_firstWeak 45 = .ok (.iload_n 1, 1) := by decide +kernel
theorem dX12_firstWeak_46 : decode cX12_firstWeak 46 = .ok (.ireturn, 1) := by decide +kernel
theorem dX12_firstLost_0 : decode cX12_firstLost 0 = .ok (.bipush (-9), 2) := by decide +kernel
theorem dX12_firstLost_2 : decode cX12_firstLost 2 = .ok (.istore_n 1, 1) := by decide +kernel
theorem dX12_firstLost_3 : decode cX12_firstLost 3 = .ok (.aload_n 0, 1) := by decide +kernel
theorem dX12_firstLost_4 : decode cX12_firstLost 4 = .ok (.getfield 77, 3) := by decide +kernel
theorem dX12_firstLost_7 : decode cX12_firstLost 7 = .ok (.iconst 1, 1) := by decide +kernel
theorem dX12_firstLost_8 : decode cX12_firstLost 8 = .ok (.isub, 1) := by decide +kernel
theorem dX12_firstLost_9 : decode cX12_firstLost 9 = .ok (.istore_n 2, 1) := by decide +kernel
theorem dX12_firstLost_10 : decode cX12_firstLost 10 = .ok (.iload_n 2, 1) := by decide +kernel
theorem dX12_firstLost_11 : decode cX12_firstLost 11 = .ok (.ifCond .lt 50, 3) := by decide +kernel
theorem dX12_firstLost_14 : decode cX12_firstLost 14 = .ok (.aload_n 0, 1) := by decide +kernel
theorem dX12_firstLost_15 : decode cX12_firstLost 15 = .ok (.getfield 50, 3) := by decide +kernel
theorem dX12_firstLost_18 : decode cX12_firstLost 18 = .ok (.iload_n 2, 1) := by decide +kernel
theorem dX12_firstLost_19 : decode cX12_firstLost 19 = .ok (.iaload, 1) := by decide +kernel
theorem dX12_firstLost_20 : decode cX12_firstLost 20 = .ok (.ifCond .le 33, 3) := by decide +kernel
theorem dX12_firstLost_23 : decode cX12_firstLost 23 = .ok (.aload_n 0, 1) := by decide +kernel
theorem dX12_firstLost_24 : decode cX12_firstLost 24 = .ok (.getfield 56, 3) := by decide +kernel
theorem dX12_firstLost_27 : decode cX12_firstLost 27 = .ok (.bipush 6, 2) := by decide +kernel
theorem dX12_firstLost_29 : decode cX12_firstLost 29 = .ok (.iload_n 2, 1) := by decide +kernel
theorem dX12_firstLost_30 : decode cX12_firstLost 30 = .ok (.imul, 1) := by decide +kernel
theorem dX12_firstLost_31 : decode cX12_firstLost 31 = .ok (.iconst 2, 1) := by decide +kernel
theorem dX12_firstLost_32 : decode cX12_firstLost 32 = .ok (.iadd, 1) := by decide +kernel
theorem dX12_firstLost_33 : decode cX12_firstLost 33 = .ok (.iaload, 1) := by decide +kernel
theorem dX12_firstLost_34 : decode cX12_firstLost 34 = .ok (.aload_n 0, 1) := by decide +kernel
theorem dX12_firstLost_35 : decode cX12_firstLost 35 = .ok (.getfield 56, 3) := by decide +kernel
theorem dX12_firstLost_38 : decode cX12_firstLost 38 = .ok (.bipush 6, 2) := by decide +kernel
theorem dX12_firstLost_40 : decode cX12_firstLost 40 = .ok (.iload_n 2, 1) := by decide +kernel
theorem dX12_firstLost_41 : decode cX12_firstLost 41 = .ok (.imul, 1) := by decide +kernel
theorem dX12_firstLost_42 : decode cX12_firstLost 42 = .ok (.iconst 5, 1) := by decide +kernel
theorem dX12_firstLost_43 : decode cX12_firstLost 43 = .ok (.iadd, 1) := by decide +kernel
theorem dX12_firstLost_44 : decode cX12_firstLost 44 = .ok (.iaload, 1) := by decide +kernel
theorem dX12_firstLost_45 : decode cX12_firstLost 45 = .ok (.iadd, 1) := by decide +kernel
theorem dX12_firstLost_46 : decode cX12_firstLost 46 = .ok (.ifCond .le 7, 3) := by decide +kernel
theorem dX12_firstLost_49 : decode cX12_firstLost 49 = .ok (.iload_n 2, 1) := by decide +kernel
theorem dX12_firstLost_50 : decode cX12_firstLost 50 = .ok (.goto 4, 3) := by decide +kernel
theorem dX12_firstLost_53 : decode cX12_firstLost 53 = .ok (.iload_n 1, 1) := by decide +kernel
theorem dX12_firstLost_54 : decode cX12_firstLost 54 = .ok (.istore_n 1, 1) := by decide +kernel
theorem dX12_firstLost_55 : decode cX12_firstLost 55 = .ok (.iinc 2 (-1), 3) := by decide +kernel
theorem dX12_firstLost_58 : decode cX12_firstLost 58 = .ok (.goto (-48), 3) := by decide +kernel
theorem dX12_firstLost_61 : decode cX12_firstLost 61 = .ok (.iload_n 1, 1) := by decide +kernel
theorem dX12_firstLost_62 : decode cX12_firstLost 62 = .ok (.ireturn, 1) := by decide +kernel
theorem dX12_holdsAll_0 : decode cX12_holdsAll 0 = .ok (.aload_n 0, 1) := by decide +kernel
theorem dX12_holdsAll_1 : decode cX12_holdsAll 1 = .ok (.invokevirtual 154, 3) := by decide +kernel
theorem dX12_holdsAll_4 : decode cX12_holdsAll 4 = .ok (.bipush (-9), 2) := by decide +kernel
theorem dX12_holdsAll_6 : decode cX12_holdsAll 6 = .ok (.if_icmp .ne 25, 3) := by decide +kernel
theorem dX12_holdsAll_9 : decode cX12_holdsAll 9 = .ok (.aload_n 0, 1) := by decide +kernel
theorem dX12_holdsAll_10 : decode cX12_holdsAll 10 = .ok (.invokevirtual 158, 3) := by decide +kernel
theorem dX12_holdsAll_13 : decode cX12_holdsAll 13 = .ok (.bipush (-9), 2) := by decide +kernel
theorem dX12_holdsAll_15 : decode cX12_holdsAll 15 = .ok (.if_icmp .ne 16, 3) := by decide +kernel
theorem dX12_holdsAll_18 : decode cX12_holdsAll 18 = .ok (.aload_n 0, 1) := by decide +kernel
theorem dX12_holdsAll_19 : decode cX12_holdsAll 19 = .ok (.invokevirtual 161, 3) := by decide +kernel
theorem dX12_holdsAll_22 : decode cX12_holdsAll 22 = .ok (.bipush (-9), 2) := by decide +kernel
theorem dX12_holdsAll_24 : decode cX12_holdsAll 24 = .ok (.if_icmp .ne 7, 3) := by decide +kernel
theorem dX12_holdsAll_27 : decode cX12_holdsAll 27 = .ok (.iconst 1, 1) := by decide +kernel
theorem dX12_holdsAll_28 : decode cX12_holdsAll 28 = .ok (.goto 4, 3) := by decide +kernel
theorem dX12_holdsAll_31 : decode cX12_holdsAll 31 = .ok (.iconst 0, 1) := by decide +kernel
theorem dX12_holdsAll_32 : decode cX12_holdsAll 32 = .ok (.ireturn, 1) := by decide +kernel
theorem dX12_outs_0 : decode cX12_outs 0 = .ok (.iconst 0, 1) := by decide +kernel
theorem dX12_outs_1 : decode cX12_outs 1 = .ok (.istore_n 3, 1) := by decide +kernel
theorem dX12_outs_2 : decode cX12_outs 2 = .ok (.iconst 0, 1) := by decide +kernel
theorem dX12_outs_3 : decode cX12_outs 3 = .ok (.istore 4, 2) := by decide +kernel
theorem dX12_outs_5 : decode cX12_outs 5 = .ok (.iload 4, 2) := by decide +kernel
theorem dX12_outs_7 : decode cX12_outs 7 = .ok (.iconst 2, 1) := by decide +kernel
theorem dX12_outs_8 : decode cX12_outs 8 = .ok (.aload_n 0, 1) := by decide +kernel
theorem dX12_outs_9 : decode cX12_outs 9 = .ok (.getfield 77, 3) := by decide +kernel
theorem dX12_outs_12 : decode cX12_outs 12 = .ok (.imul, 1) := by decide +kernel
theorem dX12_outs_13 : decode cX12_outs 13 = .ok (.if_icmp .ge 22, 3) := by decide +kernel
theorem dX12_outs_16 : decode cX12_outs 16 = .ok (.iload_n 3, 1) := by decide +kernel
theorem dX12_outs_17 : decode cX12_outs 17 = .ok (.aload_n 1, 1) := by decide +kernel
theorem dX12_outs_18 : decode cX12_outs 18 = .ok (.iload_n 2, 1) := by decide +kernel
theorem dX12_outs_19 : decode cX12_outs 19 = .ok (.iconst 3, 1) := by decide +kernel
theorem dX12_outs_20 : decode cX12_outs 20 = .ok (.iload 4, 2) := by decide +kernel
theorem dX12_outs_22 : decode cX12_outs 22 = .ok (.imul, 1) := by decide +kernel
theorem dX12_outs_23 : decode cX12_outs 23 = .ok (.iadd, 1) := by decide +kernel
theorem dX12_outs_24 : decode cX12_outs 24 = .ok (.iconst 2, 1) := by decide +kernel
theorem dX12_outs_25 : decode cX12_outs 25 = .ok (.iadd, 1) := by decide +kernel
theorem dX12_outs_26 : decode cX12_outs 26 = .ok (.iaload, 1) := by decide +kernel
theorem dX12_outs_27 : decode cX12_outs 27 = .ok (.iadd, 1) := by decide +kernel
theorem dX12_outs_28 : decode cX12_outs 28 = .ok (.istore_n 3, 1) := by decide +kernel
theorem dX12_outs_29 : decode cX12_outs 29 = .ok (.iinc 4 1, 3) := by decide +kernel
theorem dX12_outs_32 : decode cX12_outs 32 = .ok (.goto (-27), 3) := by decide +kernel
theorem dX12_outs_35 : decode cX12_outs 35 = .ok (.iload_n 3, 1) := by decide +kernel
theorem dX12_outs_36 : decode cX12_outs 36 = .ok (.ireturn, 1) := by decide +kernel
theorem dX12_differ_0 : decode cX12_differ 0 = .ok (.iload_n 1, 1) := by decide +kernel
theorem dX12_differ_1 : decode cX12_differ 1 = .ok (.iconst 2, 1) := by decide +kernel
theorem dX12_differ_2 : decode cX12_differ 2 = .ok (.idiv, 1) := by decide +kernel
theorem dX12_differ_3 : decode cX12_differ 3 = .ok (.istore_n 2, 1) := by decide +kernel
theorem dX12_differ_4 : decode cX12_differ 4 = .ok (.aload_n 0, 1) := by decide +kernel
theorem dX12_differ_5 : decode cX12_differ 5 = .ok (.getfield 7, 3) := by decide +kernel
theorem dX12_differ_8 : decode cX12_differ 8 = .ok (.iconst 3, 1) := by decide +kernel
theorem dX12_differ_9 : decode cX12_differ 9 = .ok (.aload_n 0, 1) := by decide +kernel
theorem dX12_differ_10 : decode cX12_differ 10 = .ok (.getfield 13, 3) := by decide +kernel
theorem dX12_differ_13 : decode cX12_differ 13 = .ok (.iconst 3, 1) := by decide +kernel
theorem dX12_differ_14 : decode cX12_differ 14 = .ok (.iload_n 2, 1) := by decide +kernel
theorem dX12_differ_15 : decode cX12_differ 15 = .ok (.imul, 1) := by decide +kernel
theorem dX12_differ_16 : decode cX12_differ 16 = .ok (.iaload, 1) := by decide +kernel
theorem dX12_differ_17 : decode cX12_differ 17 = .ok (.imul, 1) := by decide +kernel
theorem dX12_differ_18 : decode cX12_differ 18 = .ok (.iconst 2, 1) := by decide +kernel
theorem dX12_differ_19 : decode cX12_differ 19 = .ok (.iadd, 1) := by decide +kernel
theorem dX12_differ_20 : decode cX12_differ 20 = .ok (.iaload, 1) := by decide +kernel
theorem dX12_differ_21 : decode cX12_differ 21 = .ok (.aload_n 0, 1) := by decide +kernel
theorem dX12_differ_22 : decode cX12_differ 22 = .ok (.getfield 7, 3) := by decide +kernel
theorem dX12_differ_25 : decode cX12_differ 25 = .ok (.iconst 3, 1) := by decide +kernel
theorem dX12_differ_26 : decode cX12_differ 26 = .ok (.aload_n 0, 1) := by decide +kernel
theorem dX12_differ_27 : decode cX12_differ 27 = .ok (.getfield 13, 3) := by decide +kernel
theorem dX12_differ_30 : decode cX12_differ 30 = .ok (.iconst 3, 1) := by decide +kernel
theorem dX12_differ_31 : decode cX12_differ 31 = .ok (.iload_n 2, 1) := by decide +kernel
theorem dX12_differ_32 : decode cX12_differ 32 = .ok (.imul, 1) := by decide +kernel
theorem dX12_differ_33 : decode cX12_differ 33 = .ok (.iconst 1, 1) := by decide +kernel
theorem dX12_differ_34 : decode cX12_differ 34 = .ok (.iadd, 1) := by decide +kernel
theorem dX12_differ_35 : decode cX12_differ 35 = .ok (.iaload, 1) := by decide +kernel
theorem dX12_differ_36 : decode cX12_differ 36 = .ok (.imul, 1) := by decide +kernel
theorem dX12_differ_37 : decode cX12_differ 37 = .ok (.iconst 2, 1) := by decide +kernel
theorem dX12_differ_38 : decode cX12_differ 38 = .ok (.iadd, 1) := by decide +kernel
theorem dX12_differ_39 : decode cX12_differ 39 = .ok (.iaload, 1) := by decide +kernel
theorem dX12_differ_40 : decode cX12_differ 40 = .ok (.isub, 1) := by decide +kernel
theorem dX12_differ_41 : decode cX12_differ 41 = .ok (.istore_n 3, 1) := by decide +kernel
theorem dX12_differ_42 : decode cX12_differ 42 = .ok (.iload_n 3, 1) := by decide +kernel
theorem dX12_differ_43 : decode cX12_differ 43 = .ok (.ifCond .ge 8, 3) := by decide +kernel
theorem dX12_differ_46 : decode cX12_differ 46 = .ok (.iload_n 3, 1) := by decide +kernel
theorem dX12_differ_47 : decode cX12_differ 47 = .ok (.ineg, 1) := by decide +kernel
theorem dX12_differ_48 : decode cX12_differ 48 = .ok (.goto 4, 3) := by decide +kernel
theorem dX12_differ_51 : decode cX12_differ 51 = .ok (.iload_n 3, 1) := by decide +kernel
theorem dX12_differ_52 : decode cX12_differ 52 = .ok (.ireturn, 1) := by decide +kernel
theorem dX12_givesAt_0 : decode cX12_givesAt 0 = .ok (.iload_n 0, 1) := by decide +kernel
theorem dX12_givesAt_1 : decode cX12_givesAt 1 = .ok (.iconst 1, 1) := by decide +kernel
theorem dX12_givesAt_2 : decode cX12_givesAt 2 = .ok (.if_icmp .ne 8, 3) := by decide +kernel
theorem dX12_givesAt_5 : decode cX12_givesAt 5 = .ok (.bipush 12, 2) := by decide +kernel
theorem dX12_givesAt_7 : decode cX12_givesAt 7 = .ok (.goto 15, 3) := by decide +kernel
theorem dX12_givesAt_10 : decode cX12_givesAt 10 = .ok (.iload_n 0, 1) := by decide +kernel
theorem dX12_givesAt_11 : decode cX12_givesAt 11 = .ok (.iconst 2, 1) := by decide +kernel
theorem dX12_givesAt_12 : decode cX12_givesAt 12 = .ok (.if_icmp .ne 8, 3) := by decide +kernel
theorem dX12_givesAt_15 : decode cX12_givesAt 15 = .ok (.bipush 20, 2) := by decide +kernel
theorem dX12_givesAt_17 : decode cX12_givesAt 17 = .ok (.goto 5, 3) := by decide +kernel
theorem dX12_givesAt_20 : decode cX12_givesAt 20 = .ok (.bipush 36, 2) := by decide +kernel
theorem dX12_givesAt_22 : decode cX12_givesAt 22 = .ok (.ireturn, 1) := by decide +kernel
theorem dX12_wears_0 : decode cX12_wears 0 = .ok (.iload_n 0, 1) := by decide +kernel
theorem dX12_wears_1 : decode cX12_wears 1 = .ok (.iconst 1, 1) := by decide +kernel
theorem dX12_wears_2 : decode cX12_wears 2 = .ok (.if_icmp .ne 9, 3) := by decide +kernel
theorem dX12_wears_5 : decode cX12_wears 5 = .ok (.iload_n 1, 1) := by decide +kernel
theorem dX12_wears_6 : decode cX12_wears 6 = .ok (.iload_n 2, 1) := by decide +kernel
theorem dX12_wears_7 : decode cX12_wears 7 = .ok (.imul, 1) := by decide +kernel
theorem dX12_wears_8 : decode cX12_wears 8 = .ok (.goto 21, 3) := by decide +kernel
theorem dX12_wears_11 : decode cX12_wears 11 = .ok (.iload_n 0, 1) := by decide +kernel
theorem dX12_wears_12 : decode cX12_wears 12 = .ok (.iconst 2, 1) := by decide +kernel
theorem dX12_wears_13 : decode cX12_wears 13 = .ok (.if_icmp .ne 11, 3) := by decide +kernel
theorem dX12_wears_16 : decode cX12_wears 16 = .ok (.iload_n 1, 1) := by decide +kernel
theorem dX12_wears_17 : decode cX12_wears 17 = .ok (.iload_n 2, 1) := by decide +kernel
theorem dX12_wears_18 : decode cX12_wears 18 = .ok (.imul, 1) := by decide +kernel
theorem dX12_wears_19 : decode cX12_wears 19 = .ok (.iconst 2, 1) := by decide +kernel
theorem dX12_wears_20 : decode cX12_wears 20 = .ok (.idiv, 1) := by decide +kernel
theorem dX12_wears_21 : decode cX12_wears 21 = .ok (.goto 8, 3) := by decide +kernel
theorem dX12_wears_24 : decode cX12_wears 24 = .ok (.iload_n 1, 1) := by decide +kernel
theorem dX12_wears_25 : decode cX12_wears 25 = .ok (.iload_n 2, 1) := by decide +kernel
theorem dX12_wears_26 : decode cX12_wears 26 = .ok (.imul, 1) := by decide +kernel
theorem dX12_wears_27 : decode cX12_wears 27 = .ok (.iconst 3, 1) := by decide +kernel
theorem dX12_wears_28 : decode cX12_wears 28 = .ok (.idiv, 1) := by decide +kernel
theorem dX12_wears_29 : decode cX12_wears 29 = .ok (.ireturn, 1) := by decide +kernel
theorem dX12_blows_0 : decode cX12_blows 0 = .ok (.aload_n 0, 1) := by decide +kernel
theorem dX12_blows_1 : decode cX12_blows 1 = .ok (.iload_n 1, 1) := by decide +kernel
theorem dX12_blows_2 : decode cX12_blows 2 = .ok (.iconst 2, 1) := by decide +kernel
theorem dX12_blows_3 : decode cX12_blows 3 = .ok (.iadd, 1) := by decide +kernel
theorem dX12_blows_4 : decode cX12_blows 4 = .ok (.iaload, 1) := by decide +kernel
theorem dX12_blows_5 : decode cX12_blows 5 = .ok (.ifCond .ne 68, 3) := by decide +kernel
theorem dX12_blows_8 : decode cX12_blows 8 = .ok (.aload_n 0, 1) := by decide +kernel
theorem dX12_blows_9 : decode cX12_blows 9 = .ok (.iload_n 1, 1) := by decide +kernel
theorem dX12_blows_10 : decode cX12_blows 10 = .ok (.iaload, 1) := by decide +kernel
theorem dX12_blows_11 : decode cX12_blows 11 = .ok (.ifCond .ne 22, 3) := by decide +kernel
theorem dX12_blows_14 : decode cX12_blows 14 = .ok (.aload_n 0, 1) := by decide +kernel
theorem dX12_blows_15 : decode cX12_blows 15 = .ok (.iload_n 1, 1) := by decide +kernel
theorem dX12_blows_16 : decode cX12_blows 16 = .ok (.iconst 2, 1) := by decide +kernel
theorem dX12_blows_17 : decode cX12_blows 17 = .ok (.iadd, 1) := by decide +kernel
theorem dX12_blows_18 : decode cX12_blows 18 = .ok (.iload_n 3, 1) := by decide +kernel
theorem dX12_blows_19 : decode cX12_blows 19 = .ok (.bipush 6, 2) := by decide +kernel
theorem dX12_blows_21 : decode cX12_blows 21 = .ok (.if_icmp .le 7, 3) := by decide +kernel
theorem dX12_blows_24 : decode cX12_blows 24 = .ok (.iconst 1, 1) := by decide +kernel
theorem dX12_blows_25 : decode cX12_blows 25 = .ok (.goto 4, 3) := by decide +kernel
theorem dX12_blows_28 : decode cX12_blows 28 = .ok (.iconst 0, 1) := by decide +kernel
theorem dX12_blows_29 : decode cX12_blows 29 = .ok (.iastore, 1) := by decide +kernel
theorem dX12_blows_30 : decode cX12_blows 30 = .ok (.goto 43, 3) := by decide +kernel
theorem dX12_blows_33 : decode cX12_blows 33 = .ok (.aload_n 0, 1) := by decide +kernel
theorem dX12_blows_34 : decode cX12_blows 34 = .ok (.iload_n 1, 1) := by decide +kernel
theorem dX12_blows_35 : decode cX12_blows 35 = .ok (.iconst 1, 1) := by decide +kernel
theorem dX12_blows_36 : decode cX12_blows 36 = .ok (.iadd, 1) := by decide +kernel
theorem dX12_blows_37 : decode cX12_blows 37 = .ok (.dup2, 1) := by decide +kernel
theorem dX12_blows_38 : decode cX12_blows 38 = .ok (.iaload, 1) := by decide +kernel
theorem dX12_blows_39 : decode cX12_blows 39 = .ok (.aload_n 0, 1) := by decide +kernel
theorem dX12_blows_40 : decode cX12_blows 40 = .ok (.iload_n 1, 1) := by decide +kernel
theorem dX12_blows_41 : decode cX12_blows 41 = .ok (.iaload, 1) := by decide +kernel
theorem dX12_blows_42 : decode cX12_blows 42 = .ok (.iload_n 2, 1) := by decide +kernel
theorem dX12_blows_43 : decode cX12_blows 43 = .ok (.iload_n 3, 1) := by decide +kernel
theorem dX12_blows_44 : decode cX12_blows 44 = .ok (.invokestatic 164, 3) := by decide +kernel
theorem dX12_blows_47 : decode cX12_blows 47 = .ok (.iadd, 1) := by decide +kernel
theorem dX12_blows_48 : decode cX12_blows 48 = .ok (.iastore, 1) := by decide +kernel
theorem dX12_blows_49 : decode cX12_blows 49 = .ok (.aload_n 0, 1) := by decide +kernel
theorem dX12_blows_50 : decode cX12_blows 50 = .ok (.iload_n 1, 1) := by decide +kernel
theorem dX12_blows_51 : decode cX12_blows 51 = .ok (.iconst 2, 1) := by decide +kernel
theorem dX12_blows_52 : decode cX12_blows 52 = .ok (.iadd, 1) := by decide +kernel
theorem dX12_blows_53 : decode cX12_blows 53 = .ok (.aload_n 0, 1) := by decide +kernel
theorem dX12_blows_54 : decode cX12_blows 54 = .ok (.iload_n 1, 1) := by decide +kernel
theorem dX12_blows_55 : decode cX12_blows 55 = .ok (.iconst 1, 1) := by decide +kernel
theorem dX12_blows_56 : decode cX12_blows 56 = .ok (.iadd, 1) := by decide +kernel
theorem dX12_blows_57 : decode cX12_blows 57 = .ok (.iaload, 1) := by decide +kernel
theorem dX12_blows_58 : decode cX12_blows 58 = .ok (.aload_n 0, 1) := by decide +kernel
theorem dX12_blows_59 : decode cX12_blows 59 = .ok (.iload_n 1, 1) := by decide +kernel
theorem dX12_blows_60 : decode cX12_blows 60 = .ok (.iaload, 1) := by decide +kernel
theorem dX12_blows_61 : decode cX12_blows 61 = .ok (.invokestatic 168, 3) := by decide +kernel
theorem dX12_blows_64 : decode cX12_blows 64 = .ok (.if_icmp .lt 7, 3) := by decide +kernel
theorem dX12_blows_67 : decode cX12_blows 67 = .ok (.iconst 1, 1) := by decide +kernel
theorem dX12_blows_68 : decode cX12_blows 68 = .ok (.goto 4, 3) := by decide +kernel
theorem dX12_blows_71 : decode cX12_blows 71 = .ok (.iconst 0, 1) := by decide +kernel
theorem dX12_blows_72 : decode cX12_blows 72 = .ok (.iastore, 1) := by decide +kernel
theorem dX12_blows_73 : decode cX12_blows 73 = .ok (.return_, 1) := by decide +kernel
theorem dX12_blowsAll_0 : decode cX12_blowsAll 0 = .ok (.iconst 0, 1) := by decide +kernel
theorem dX12_blowsAll_1 : decode cX12_blowsAll 1 = .ok (.istore 4, 2) := by decide +kernel
theorem dX12_blowsAll_3 : decode cX12_blowsAll 3 = .ok (.iload 4, 2) := by decide +kernel
theorem dX12_blowsAll_5 : decode cX12_blowsAll 5 = .ok (.iconst 2, 1) := by decide +kernel
theorem dX12_blowsAll_6 : decode cX12_blowsAll 6 = .ok (.aload_n 0, 1) := by decide +kernel
theorem dX12_blowsAll_7 : decode cX12_blowsAll 7 = .ok (.getfield 77, 3) := by decide +kernel
theorem dX12_blowsAll_10 : decode cX12_blowsAll 10 = .ok (.imul, 1) := by decide +kernel
theorem dX12_blowsAll_11 : decode cX12_blowsAll 11 = .ok (.if_icmp .ge 26, 3) := by decide +kernel
theorem dX12_blowsAll_14 : decode cX12_blowsAll 14 = .ok (.aload_n 1, 1) := by decide +kernel
theorem dX12_blowsAll_15 : decode cX12_blowsAll 15 = .ok (.iload_n 2, 1) := by decide +kernel
theorem dX12_blowsAll_16 : decode cX12_blowsAll 16 = .ok (.iconst 3, 1) := by decide +kernel
theorem dX12_blowsAll_17 : decode cX12_blowsAll 17 = .ok (.iload 4, 2) := by decide +kernel
theorem dX12_blowsAll_19 : decode cX12_blowsAll 19 = .ok (.imul, 1) := by decide +kernel
theorem dX12_blowsAll_20 : decode cX12_blowsAll 20 = .ok (.iadd, 1) := by decide +kernel
theorem dX12_blowsAll_21 : decode cX12_blowsAll 21 = .ok (.aload_n 0, 1) := by decide +kernel
theorem dX12_blowsAll_22 : decode cX12_blowsAll 22 = .ok (.iload 4, 2) := by decide +kernel
theorem dX12_blowsAll_24 : decode cX12_blowsAll 24 = .ok (.invokevirtual 171, 3) := by decide +kernel
theorem dX12_blowsAll_27 : decode cX12_blowsAll 27 = .ok (.iload_n 3, 1) := by decide +kernel
theorem dX12_blowsAll_28 : decode cX12_blowsAll 28 = .ok (.invokestatic 174, 3) := by decide +kernel
theorem dX12_blowsAll_31 : decode cX12_blowsAll 31 = .ok (.iinc 4 1, 3) := by decide +kernel
theorem dX12_blowsAll_34 : decode cX12_blowsAll 34 = .ok (.goto (-31), 3) := by decide +kernel
theorem dX12_blowsAll_37 : decode cX12_blowsAll 37 = .ok (.return_, 1) := by decide +kernel
theorem dX12_bough_0 : decode cX12_bough 0 = .ok (.aload_n 0, 1) := by decide +kernel
theorem dX12_bough_1 : decode cX12_bough 1 = .ok (.iload_n 1, 1) := by decide +kernel
theorem dX12_bough_2 : decode cX12_bough 2 = .ok (.invokevirtual 178, 3) := by decide +kernel
theorem dX12_bough_5 : decode cX12_bough 5 = .ok (.ifCond .eq 12, 3) := by decide +kernel
theorem dX12_bough_8 : decode cX12_bough 8 = .ok (.iload_n 2, 1) := by decide +kernel
theorem dX12_bough_9 : decode cX12_bough 9 = .ok (.iconst 0, 1) := by decide +kernel
theorem dX12_bough_10 : decode cX12_bough 10 = .ok (.iconst 3, 1) := by decide +kernel
theorem dX12_bough_11 : decode cX12_bough 11 = .ok (.invokestatic 73, 3) := by decide +kernel
theorem dX12_bough_14 : decode cX12_bough 14 = .ok (.ifCond .ne 5, 3) := by decide +kernel
theorem dX12_bough_17 : decode cX12_bough 17 = .ok (.iconst (-1), 1) := by decide +kernel
theorem dX12_bough_18 : decode cX12_bough 18 = .ok (.ireturn, 1) := by decide +kernel
theorem dX12_bough_19 : decode cX12_bough 19 = .ok (.aload_n 0, 1) := by decide +kernel
theorem dX12_bough_20 : decode cX12_bough 20 = .ok (.invokevirtual 182, 3) := by decide +kernel
theorem dX12_bough_23 : decode cX12_bough 23 = .ok (.iload_n 2, 1) := by decide +kernel
theorem dX12_bough_24 : decode cX12_bough 24 = .ok (.iconst 3, 1) := by decide +kernel
theorem dX12_bough_25 : decode cX12_bough 25 = .ok (.if_icmp .ne 12, 3) := by decide +kernel
theorem dX12_bough_28 : decode cX12_bough 28 = .ok (.aload_n 0, 1) := by decide +kernel
theorem dX12_bough_29 : decode cX12_bough 29 = .ok (.getfield 53, 3) := by decide +kernel
theorem dX12_bough_32 : decode cX12_bough 32 = .ok (.iload_n 1, 1) := by decide +kernel
theorem dX12_bough_33 : decode cX12_bough 33 = .ok (.iaload, 1) := by decide +kernel
theorem dX12_bough_34 : decode cX12_bough 34 = .ok (.goto 13, 3) := by decide +kernel
theorem dX12_bough_37 : decode cX12_bough 37 = .ok (.aload_n 0, 1) := by decide +kernel
theorem dX12_bough_38 : decode cX12_bough 38 = .ok (.getfield 7, 3) := by decide +kernel
theorem dX12_bough_41 : decode cX12_bough 41 = .ok (.iconst 3, 1) := by decide +kernel
theorem dX12_bough_42 : decode cX12_bough 42 = .ok (.iload_n 1, 1) := by decide +kernel
theorem dX12_bough_43 : decode cX12_bough 43 = .ok (.imul, 1) := by decide +kernel
theorem dX12_bough_44 : decode cX12_bough 44 = .ok (.iload_n 2, 1) := by decide +kernel
theorem dX12_bough_45 : decode cX12_bough 45 = .ok (.iadd, 1) := by decide +kernel
theorem dX12_bough_46 : decode cX12_bough 46 = .ok (.iaload, 1) := by decide +kernel
theorem dX12_bough_47 : decode cX12_bough 47 = .ok (.ireturn, 1) := by decide +kernel
theorem dX12_plank_0 : decode cX12_plank 0 = .ok (.aload_n 0, 1) := by decide +kernel
theorem dX12_plank_1 : decode cX12_plank 1 = .ok (.iload_n 1, 1) := by decide +kernel
theorem dX12_plank_2 : decode cX12_plank 2 = .ok (.invokevirtual 185, 3) := by decide +kernel
theorem dX12_plank_5 : decode cX12_plank 5 = .ok (.ifCond .eq 12, 3) := by decide +kernel
theorem dX12_plank_8 : decode cX12_plank 8 = .ok (.iload_n 2, 1) := by decide +kernel
theorem dX12_plank_9 : decode cX12_plank 9 = .ok (.iconst 0, 1) := by decide +kernel
theorem dX12_plank_10 : decode cX12_plank 10 = .ok (.iconst 3, 1) := by decide +kernel
theorem dX12_plank_11 : decode cX12_plank 11 = .ok (.invokestatic 73, 3) := by decide +kernel
theorem dX12_plank_14 : decode cX12_plank 14 = .ok (.ifCond .ne 5, 3) := by decide +kernel
theorem dX12_plank_17 : decode cX12_plank 17 = .ok (.iconst (-1), 1) := by decide +kernel
theorem dX12_plank_18 : decode cX12_plank 18 = .ok (.ireturn, 1) := by decide +kernel
theorem dX12_plank_19 : decode cX12_plank 19 = .ok (.aload_n 0, 1) := by decide +kernel
theorem dX12_plank_20 : decode cX12_plank 20 = .ok (.invokevirtual 182, 3) := by decide +kernel
theorem dX12_plank_23 : decode cX12_plank 23 = .ok (.iload_n 2, 1) := by decide +kernel
theorem dX12_plank_24 : decode cX12_plank 24 = .ok (.iconst 3, 1) := by decide +kernel
theorem dX12_plank_25 : decode cX12_plank 25 = .ok (.if_icmp .ne 12, 3) := by decide +kernel
theorem dX12_plank_28 : decode cX12_plank 28 = .ok (.aload_n 0, 1) := by decide +kernel
theorem dX12_plank_29 : decode cX12_plank 29 = .ok (.getfield 50, 3) := by decide +kernel
theorem dX12_plank_32 : decode cX12_plank 32 = .ok (.iload_n 1, 1) := by decide +kernel
theorem dX12_plank_33 : decode cX12_plank 33 = .ok (.iaload, 1) := by decide +kernel
theorem dX12_plank_34 : decode cX12_plank 34 = .ok (.goto 13, 3) := by decide +kernel
theorem dX12_plank_37 : decode cX12_plank 37 = .ok (.aload_n 0, 1) := by decide +kernel
theorem dX12_plank_38 : decode cX12_plank 38 = .ok (.getfield 13, 3) := by decide +kernel
theorem dX12_plank_41 : decode cX12_plank 41 = .ok (.iconst 3, 1) := by decide +kernel
theorem dX12_plank_42 : decode cX12_plank 42 = .ok (.iload_n 1, 1) := by decide +kernel
theorem dX12_plank_43 : decode cX12_plank 43 = .ok (.imul, 1) := by decide +kernel
theorem dX12_plank_44 : decode cX12_plank 44 = .ok (.iload_n 2, 1) := by decide +kernel
theorem dX12_plank_45 : decode cX12_plank 45 = .ok (.iadd, 1) := by decide +kernel
theorem dX12_plank_46 : decode cX12_plank 46 = .ok (.iaload, 1) := by decide +kernel
theorem dX12_plank_47 : decode cX12_plank 47 = .ok (.ireturn, 1) := by decide +kernel
theorem dX12_endAt_0 : decode cX12_endAt 0 = .ok (.bipush 6, 2) := by decide +kernel
theorem dX12_endAt_2 : decode cX12_endAt 2 = .ok (.bipush 6, 2) := by decide +kernel
theorem dX12_endAt_4 : decode cX12_endAt 4 = .ok (.iload_n 0, 1) := by decide +kernel
theorem dX12_endAt_5 : decode cX12_endAt 5 = .ok (.imul, 1) := by decide +kernel
theorem dX12_endAt_6 : decode cX12_endAt 6 = .ok (.iadd, 1) := by decide +kernel
theorem dX12_endAt_7 : decode cX12_endAt 7 = .ok (.iconst 3, 1) := by decide +kernel
theorem dX12_endAt_8 : decode cX12_endAt 8 = .ok (.iload_n 1, 1) := by decide +kernel
theorem dX12_endAt_9 : decode cX12_endAt 9 = .ok (.imul, 1) := by decide +kernel
theorem dX12_endAt_10 : decode cX12_endAt 10 = .ok (.iadd, 1) := by decide +kernel
theorem dX12_endAt_11 : decode cX12_endAt 11 = .ok (.ireturn, 1) := by decide +kernel
theorem dX12_end_0 : decode cX12_end 0 = .ok (.aload_n 0, 1) := by decide +kernel
theorem dX12_end_1 : decode cX12_end 1 = .ok (.iload_n 1, 1) := by decide +kernel
theorem dX12_end_2 : decode cX12_end 2 = .ok (.invokevirtual 185, 3) := by decide +kernel
theorem dX12_end_5 : decode cX12_end 5 = .ok (.ifCond .eq 36, 3) := by decide +kernel
theorem dX12_end_8 : decode cX12_end 8 = .ok (.iload_n 2, 1) := by decide +kernel
theorem dX12_end_9 : decode cX12_end 9 = .ok (.iconst 0, 1) := by decide +kernel
theorem dX12_end_10 : decode cX12_end 10 = .ok (.iconst 1, 1) := by decide +kernel
theorem dX12_end_11 : decode cX12_end 11 = .ok (.invokestatic 73, 3) := by decide +kernel
theorem dX12_end_14 : decode cX12_end 14 = .ok (.ifCond .eq 27, 3) := by decide +kernel
theorem dX12_end_17 : decode cX12_end 17 = .ok (.iload_n 3, 1) := by decide +kernel
theorem dX12_end_18 : decode cX12_end 18 = .ok (.iconst 0, 1) := by decide +kernel
theorem dX12_end_19 : decode cX12_end 19 = .ok (.iconst 2, 1) := by decide +kernel
theorem dX12_end_20 : decode cX12_end 20 = .ok (.invokestatic 73, 3) := by decide +kernel
theorem dX12_end_23 : decode cX12_end 23 = .ok (.ifCond .eq 18, 3) := by decide +kernel
theorem dX12_end_26 : decode cX12_end 26 = .ok (.aload_n 0, 1) := by decide +kernel
theorem dX12_end_27 : decode cX12_end 27 = .ok (.getfield 19, 3) := by decide +kernel
theorem dX12_end_30 : decode cX12_end 30 = .ok (.iload_n 1, 1) := by decide +kernel
theorem dX12_end_31 : decode cX12_end 31 = .ok (.iload_n 2, 1) := by decide +kernel
theorem dX12_end_32 : decode cX12_end 32 = .ok (.invokestatic 188, 3) := by decide +kernel
theorem dX12_end_35 : decode cX12_end 35 = .ok (.iload_n 3, 1) := by decide +kernel
theorem dX12_end_36 : decode cX12_end 36 = .ok (.iadd, 1) := by decide +kernel
theorem dX12_end_37 : decode cX12_end 37 = .ok (.iaload, 1) := by decide +kernel
theorem dX12_end_38 : decode cX12_end 38 = .ok (.goto 4, 3) := by decide +kernel
theorem dX12_end_41 : decode cX12_end 41 = .ok (.iconst (-1), 1) := by decide +kernel
theorem dX12_end_42 : decode cX12_end 42 = .ok (.ireturn, 1) := by decide +kernel
theorem dX12_child_0 : decode cX12_child 0 = .ok (.aload_n 0, 1) := by decide +kernel
theorem dX12_child_1 : decode cX12_child 1 = .ok (.iload_n 1, 1) := by decide +kernel
theorem dX12_child_2 : decode cX12_child 2 = .ok (.invokevirtual 192, 3) := by decide +kernel
theorem dX12_child_5 : decode cX12_child 5 = .ok (.ifCond .eq 12, 3) := by decide +kernel
theorem dX12_child_8 : decode cX12_child 8 = .ok (.iload_n 2, 1) := by decide +kernel
theorem dX12_child_9 : decode cX12_child 9 = .ok (.iconst 0, 1) := by decide +kernel
theorem dX12_child_10 : decode cX12_child 10 = .ok (.iconst 2, 1) := by decide +kernel
theorem dX12_child_11 : decode cX12_child 11 = .ok (.invokestatic 73, 3) := by decide +kernel
theorem dX12_child_14 : decode cX12_child 14 = .ok (.ifCond .ne 5, 3) := by decide +kernel
theorem dX12_child_17 : decode cX12_child 17 = .ok (.iconst (-1), 1) := by decide +kernel
theorem dX12_child_18 : decode cX12_child 18 = .ok (.ireturn, 1) := by decide +kernel
theorem dX12_child_19 : decode cX12_child 19 = .ok (.iload_n 2, 1) := by decide +kernel
theorem dX12_child_20 : decode cX12_child 20 = .ok (.iconst 2, 1) := by decide +kernel
theorem dX12_child_21 : decode cX12_child 21 = .ok (.if_icmp .ne 14, 3) := by decide +kernel
theorem dX12_child_24 : decode cX12_child 24 = .ok (.aload_n 0, 1) := by decide +kernel
theorem dX12_child_25 : decode cX12_child 25 = .ok (.getfield 19, 3) := by decide +kernel
theorem dX12_child_28 : decode cX12_child 28 = .ok (.iconst 1, 1) := by decide +kernel
theorem dX12_child_29 : decode cX12_child 29 = .ok (.iload_n 1, 1) := by decide +kernel
theorem dX12_child_30 : decode cX12_child 30 = .ok (.iadd, 1) := by decide +kernel
theorem dX12_child_31 : decode cX12_child 31 = .ok (.iaload, 1) := by decide +kernel
theorem dX12_child_32 : decode cX12_child 32 = .ok (.goto 13, 3) := by decide +kernel
theorem dX12_child_35 : decode cX12_child 35 = .ok (.aload_n 0, 1) := by decide +kernel
theorem dX12_child_36 : decode cX12_child 36 = .ok (.getfield 16, 3) := by decide +kernel
theorem dX12_child_39 : decode cX12_child 39 = .ok (.iconst 2, 1) := by decide +kernel
theorem dX12_child_40 : decode cX12_child 40 = .ok (.iload_n 1, 1) := by decide +kernel
theorem dX12_child_41 : decode cX12_child 41 = .ok (.imul, 1) := by decide +kernel
theorem dX12_child_42 : decode cX12_child 42 = .ok (.iload_n 2, 1) := by decide +kernel
theorem dX12_child_43 : decode cX12_child 43 = .ok (.iadd, 1) := by decide +kernel
theorem dX12_child_44 : decode cX12_child 44 = .ok (.iaload, 1) := by decide +kernel
theorem dX12_child_45 : decode cX12_child 45 = .ok (.ireturn, 1) := by decide +kernel
theorem dX12_now_0 : decode cX12_now 0 = .ok (.iload_n 1, 1) := by decide +kernel
theorem dX12_now_1 : decode cX12_now 1 = .ok (.iconst 0, 1) := by decide +kernel
theorem dX12_now_2 : decode cX12_now 2 = .ok (.iconst 5, 1) := by decide +kernel
theorem dX12_now_3 : decode cX12_now 3 = .ok (.invokestatic 73, 3) := by decide +kernel
theorem dX12_now_6 : decode cX12_now 6 = .ok (.ifCond .ne 5, 3) := by decide +kernel
theorem dX12_now_9 : decode cX12_now 9 = .ok (.iconst (-1), 1) := by decide +kernel
theorem dX12_now_10 : decode cX12_now 10 = .ok (.ireturn, 1) := by decide +kernel
theorem dX12_now_11 : decode cX12_now 11 = .ok (.aload_n 0, 1) := by decide +kernel
theorem dX12_now_12 : decode cX12_now 12 = .ok (.invokevirtual 182, 3) := by decide +kernel
theorem dX12_now_15 : decode cX12_now 15 = .ok (.aload_n 0, 1) := by decide +kernel
theorem dX12_now_16 : decode cX12_now 16 = .ok (.invokevirtual 195, 3) := by decide +kernel
theorem dX12_now_19 : decode cX12_now 19 = .ok (.iload_n 1, 1) := by decide +kernel
theorem dX12_now_20 : decode cX12_now 20 = .ok (.tableswitch 71 0 4 #[36, 49, 54, 59, 64], 36) := by decide +kernel
theorem dX12_now_56 : decode cX12_now 56 = .ok (.aload_n 0, 1) := by decide +kernel
theorem dX12_now_57 : decode cX12_now 57 = .ok (.invokevirtual 198, 3) := by decide +kernel
theorem dX12_now_60 : decode cX12_now 60 = .ok (.ifCond .eq 7, 3) := by decide +kernel
theorem dX12_now_63 : decode cX12_now 63 = .ok (.iconst 1, 1) := by decide +kernel
theorem dX12_now_64 : decode cX12_now 64 = .ok (.goto 4, 3) := by decide +kernel
theorem dX12_now_67 : decode cX12_now 67 = .ok (.iconst 0, 1) := by decide +kernel
theorem dX12_now_68 : decode cX12_now 68 = .ok (.ireturn, 1) := by decide +kernel
theorem dX12_now_69 : decode cX12_now 69 = .ok (.aload_n 0, 1) := by decide +kernel
theorem dX12_now_70 : decode cX12_now 70 = .ok (.invokevirtual 154, 3) := by decide +kernel
theorem dX12_now_73 : decode cX12_now 73 = .ok (.ireturn, 1) := by decide +kernel
theorem dX12_now_74 : decode cX12_now 74 = .ok (.aload_n 0, 1) := by decide +kernel
theorem dX12_now_75 : decode cX12_now 75 = .ok (.invokevirtual 158, 3) := by decide +kernel
theorem dX12_now_78 : decode cX12_now 78 = .ok (.ireturn, 1) := by decide +kernel
theorem dX12_now_79 : decode cX12_now 79 = .ok (.aload_n 0, 1) := by decide +kernel
theorem dX12_now_80 : decode cX12_now 80 = .ok (.invokevirtual 161, 3) := by decide +kernel
theorem dX12_now_83 : decode cX12_now 83 = .ok (.ireturn, 1) := by decide +kernel
theorem dX12_now_84 : decode cX12_now 84 = .ok (.aload_n 0, 1) := by decide +kernel
theorem dX12_now_85 : decode cX12_now 85 = .ok (.getfield 19, 3) := by decide +kernel
theorem dX12_now_88 : decode cX12_now 88 = .ok (.iconst 0, 1) := by decide +kernel
theorem dX12_now_89 : decode cX12_now 89 = .ok (.iaload, 1) := by decide +kernel
theorem dX12_now_90 : decode cX12_now 90 = .ok (.ireturn, 1) := by decide +kernel
theorem dX12_now_91 : decode cX12_now 91 = .ok (.aload_n 0, 1) := by decide +kernel
theorem dX12_now_92 : decode cX12_now 92 = .ok (.getfield 142, 3) := by decide +kernel
theorem dX12_now_95 : decode cX12_now 95 = .ok (.ireturn, 1) := by decide +kernel
theorem dX12_remembers_0 : decode cX12_remembers 0 = .ok (.aload_n 0, 1) := by decide +kernel
theorem dX12_remembers_1 : decode cX12_remembers 1 = .ok (.getfield 142, 3) := by decide +kernel
theorem dX12_remembers_4 : decode cX12_remembers 4 = .ok (.bipush 10, 2) := by decide +kernel
theorem dX12_remembers_6 : decode cX12_remembers 6 = .ok (.if_icmp .ne 43, 3) := by decide +kernel
theorem dX12_remembers_9 : decode cX12_remembers 9 = .ok (.iconst 0, 1) := by decide +kernel
theorem dX12_remembers_10 : decode cX12_remembers 10 = .ok (.istore_n 1, 1) := by decide +kernel
theorem dX12_remembers_11 : decode cX12_remembers 11 = .ok (.iload_n 1, 1) := by decide +kernel
theorem dX12_remembers_12 : decode cX12_remembers 12 = .ok (.sipush 378, 3) := by decide +kernel
theorem dX12_remembers_15 : decode cX12_remembers 15 = .ok (.if_icmp .ge 24, 3) := by decide +kernel
theorem dX12_remembers_18 : decode cX12_remembers 18 = .ok (.aload_n 0, 1) := by decide +kernel
theorem dX12_remembers_19 : decode cX12_remembers 19 = .ok (.getfield 22, 3) := by decide +kernel
theorem dX12_remembers_22 : decode cX12_remembers 22 = .ok (.iload_n 1, 1) := by decide +kernel
theorem dX12_remembers_23 : decode cX12_remembers 23 = .ok (.aload_n 0, 1) := by decide +kernel
theorem dX12_remembers_24 : decode cX12_remembers 24 = .ok (.getfield 22, 3) := by decide +kernel
theorem dX12_remembers_27 : decode cX12_remembers 27 = .ok (.iload_n 1, 1) := by decide +kernel
theorem dX12_remembers_28 : decode cX12_remembers 28 = .ok (.bipush 42, 2) := by decide +kernel
theorem dX12_remembers_30 : decode cX12_remembers 30 = .ok (.iadd, 1) := by decide +kernel
theorem dX12_remembers_31 : decode cX12_remembers 31 = .ok (.iaload, 1) := by decide +kernel
theorem dX12_remembers_32 : decode cX12_remembers 32 = .ok (.iastore, 1) := by decide +kernel
theorem dX12_remembers_33 : decode cX12_remembers 33 = .ok (.iinc 1 1, 3) := by decide +kernel
theorem dX12_remembers_36 : decode cX12_remembers 36 = .ok (.goto (-25), 3) := by decide +kernel
theorem dX12_remembers_39 : decode cX12_remembers 39 = .ok (.aload_n 0, 1) := by decide +kernel
theorem dX12_remembers_40 : decode cX12_remembers 40 = .ok (.dup, 1) := by decide +kernel
theorem dX12_remembers_41 : decode cX12_remembers 41 = .ok (.getfield 142, 3) := by decide +kernel
theorem dX12_remembers_44 : decode cX12_remembers 44 = .ok (.iconst 1, 1) := by decide +kernel
theorem dX12_remembers_45 : decode cX12_remembers 45 = .ok (.isub, 1) := by decide +kernel
theorem dX12_remembers_46 : decode cX12_remembers 46 = .ok (.putfield 142, 3) := by decide +kernel
theorem dX12_remembers_49 : decode cX12_remembers 49 = .ok (.iconst 0, 1) := by decide +kernel
theorem dX12_remembers_50 : decode cX12_remembers 50 = .ok (.istore_n 1, 1) := by decide +kernel
theorem dX12_remembers_51 : decode cX12_remembers 51 = .ok (.iload_n 1, 1) := by decide +kernel
theorem dX12_remembers_52 : decode cX12_remembers 52 = .ok (.bipush 42, 2) := by decide +kernel
theorem dX12_remembers_54 : decode cX12_remembers 54 = .ok (.if_icmp .ge 29, 3) := by decide +kernel
theorem dX12_remembers_57 : decode cX12_remembers 57 = .ok (.aload_n 0, 1) := by decide +kernel
theorem dX12_remembers_58 : decode cX12_remembers 58 = .ok (.getfield 22, 3) := by decide +kernel
theorem dX12_remembers_61 : decode cX12_remembers 61 = .ok (.bipush 42, 2) := by decide +kernel
theorem dX12_remembers_63 : decode cX12_remembers 63 = .ok (.aload_n 0, 1) := by decide +kernel
theorem dX12_remembers_64 : decode cX12_remembers 64 = .ok (.getfield 142, 3) := by decide +kernel
theorem dX12_remembers_67 : decode cX12_remembers 67 = .ok (.imul, 1) := by decide +kernel
theorem dX12_remembers_68 : decode cX12_remembers 68 = .ok (.iload_n 1, 1) := by decide +kernel
theorem dX12_remembers_69 : decode cX12_remembers 69 = .ok (.iadd, 1) := by decide +kernel
theorem dX12_remembers_70 : decode cX12_remembers 70 = .ok (.aload_n 0, 1) := by decide +kernel
theorem dX12_remembers_71 : decode cX12_remembers 71 = .ok (.getfield 19, 3) := by decide +kernel
theorem dX12_remembers_74 : decode cX12_remembers 74 = .ok (.iload_n 1, 1) := by decide +kernel
theorem dX12_remembers_75 : decode cX12_remembers 75 = .ok (.iaload, 1) := by decide +kernel
theorem dX12_remembers_76 : decode cX12_remembers 76 = .ok (.iastore, 1) := by decide +kernel
theorem dX12_remembers_77 : decode cX12_remembers 77 = .ok (.iinc 1 1, 3) := by decide +kernel
theorem dX12_remembers_80 : decode cX12_remembers 80 = .ok (.goto (-29), 3) := by decide +kernel
theorem dX12_remembers_83 : decode cX12_remembers 83 = .ok (.aload_n 0, 1) := by decide +kernel
theorem dX12_remembers_84 : decode cX12_remembers 84 = .ok (.dup, 1) := by decide +kernel
theorem dX12_remembers_85 : decode cX12_remembers 85 = .ok (.getfield 142, 3) := by decide +kernel
theorem dX12_remembers_88 : decode cX12_remembers 88 = .ok (.iconst 1, 1) := by decide +kernel
theorem dX12_remembers_89 : decode cX12_remembers 89 = .ok (.iadd, 1) := by decide +kernel
theorem dX12_remembers_90 : decode cX12_remembers 90 = .ok (.putfield 142, 3) := by decide +kernel
theorem dX12_remembers_93 : decode cX12_remembers 93 = .ok (.return_, 1) := by decide +kernel
theorem dX12_stands_0 : decode cX12_stands 0 = .ok (.aload_n 0, 1) := by decide +kernel
theorem dX12_stands_1 : decode cX12_stands 1 = .ok (.iload_n 1, 1) := by decide +kernel
theorem dX12_stands_2 : decode cX12_stands 2 = .ok (.invokevirtual 192, 3) := by decide +kernel
theorem dX12_stands_5 : decode cX12_stands 5 = .ok (.ifCond .eq 17, 3) := by decide +kernel
theorem dX12_stands_8 : decode cX12_stands 8 = .ok (.iload_n 2, 1) := by decide +kernel
theorem dX12_stands_9 : decode cX12_stands 9 = .ok (.bipush (-9), 2) := by decide +kernel
theorem dX12_stands_11 : decode cX12_stands 11 = .ok (.if_icmp .eq 13, 3) := by decide +kernel
theorem dX12_stands_14 : decode cX12_stands 14 = .ok (.aload_n 0, 1) := by decide +kernel
theorem dX12_stands_15 : decode cX12_stands 15 = .ok (.iload_n 2, 1) := by decide +kernel
theorem dX12_stands_16 : decode cX12_stands 16 = .ok (.invokevirtual 185, 3) := by decide +kernel
theorem dX12_stands_19 : decode cX12_stands 19 = .ok (.ifCond .ne 5, 3) := by decide +kernel
theorem dX12_stands_22 : decode cX12_stands 22 = .ok (.iconst (-1), 1) := by decide +kernel
theorem dX12_stands_23 : decode cX12_stands 23 = .ok (.ireturn, 1) := by decide +kernel
theorem dX12_stands_24 : decode cX12_stands 24 = .ok (.aload_n 0, 1) := by decide +kernel
theorem dX12_stands_25 : decode cX12_stands 25 = .ok (.invokevirtual 202, 3) := by decide +kernel
theorem dX12_stands_28 : decode cX12_stands 28 = .ok (.aload_n 0, 1) := by decide +kernel
theorem dX12_stands_29 : decode cX12_stands 29 = .ok (.getfield 19, 3) := by decide +kernel
theorem dX12_stands_32 : decode cX12_stands 32 = .ok (.iconst 1, 1) := by decide +kernel
theorem dX12_stands_33 : decode cX12_stands 33 = .ok (.iload_n 1, 1) := by decide +kernel
theorem dX12_stands_34 : decode cX12_stands 34 = .ok (.iadd, 1) := by decide +kernel
theorem dX12_stands_35 : decode cX12_stands 35 = .ok (.iaload, 1) := by decide +kernel
theorem dX12_stands_36 : decode cX12_stands 36 = .ok (.istore_n 3, 1) := by decide +kernel
theorem dX12_stands_37 : decode cX12_stands 37 = .ok (.aload_n 0, 1) := by decide +kernel
theorem dX12_stands_38 : decode cX12_stands 38 = .ok (.getfield 19, 3) := by decide +kernel
theorem dX12_stands_41 : decode cX12_stands 41 = .ok (.iconst 1, 1) := by decide +kernel
theorem dX12_stands_42 : decode cX12_stands 42 = .ok (.iload_n 1, 1) := by decide +kernel
theorem dX12_stands_43 : decode cX12_stands 43 = .ok (.iadd, 1) := by decide +kernel
theorem dX12_stands_44 : decode cX12_stands 44 = .ok (.iload_n 2, 1) := by decide +kernel
theorem dX12_stands_45 : decode cX12_stands 45 = .ok (.iastore, 1) := by decide +kernel
theorem dX12_stands_46 : decode cX12_stands 46 = .ok (.iload_n 3, 1) := by decide +kernel
theorem dX12_stands_47 : decode cX12_stands 47 = .ok (.ireturn, 1) := by decide +kernel
theorem dX12_gale_0 : decode cX12_gale 0 = .ok (.iload_n 1, 1) := by decide +kernel
theorem dX12_gale_1 : decode cX12_gale 1 = .ok (.invokestatic 205, 3) := by decide +kernel
theorem dX12_gale_4 : decode cX12_gale 4 = .ok (.ifCond .ne 5, 3) := by decide +kernel
theorem dX12_gale_7 : decode cX12_gale 7 = .ok (.iconst (-1), 1) := by decide +kernel
theorem dX12_gale_8 : decode cX12_gale 8 = .ok (.ireturn, 1) := by decide +kernel
theorem dX12_gale_9 : decode cX12_gale 9 = .ok (.aload_n 0, 1) := by decide +kernel
theorem dX12_gale_10 : decode cX12_gale 10 = .ok (.getfield 19, 3) := by decide +kernel
theorem dX12_gale_13 : decode cX12_gale 13 = .ok (.iconst 0, 1) := by decide +kernel
theorem dX12_gale_14 : decode cX12_gale 14 = .ok (.iaload, 1) := by decide +kernel
theorem dX12_gale_15 : decode cX12_gale 15 = .ok (.sipush 999, 3) := by decide +kernel
theorem dX12_gale_18 : decode cX12_gale 18 = .ok (.if_icmp .ne 6, 3) := by decide +kernel
theorem dX12_gale_21 : decode cX12_gale 21 = .ok (.bipush (-2), 2) := by decide +kernel
theorem dX12_gale_23 : decode cX12_gale 23 = .ok (.ireturn, 1) := by decide +kernel
theorem dX12_gale_24 : decode cX12_gale 24 = .ok (.aload_n 0, 1) := by decide +kernel
theorem dX12_gale_25 : decode cX12_gale 25 = .ok (.invokevirtual 202, 3) := by decide +kernel
theorem dX12_gale_28 : decode cX12_gale 28 = .ok (.aload_n 0, 1) := by decide +kernel
theorem dX12_gale_29 : decode cX12_gale 29 = .ok (.aload_n 0, 1) := by decide +kernel
theorem dX12_gale_30 : decode cX12_gale 30 = .ok (.getfield 19, 3) := by decide +kernel
theorem dX12_gale_33 : decode cX12_gale 33 = .ok (.bipush 6, 2) := by decide +kernel
theorem dX12_gale_35 : decode cX12_gale 35 = .ok (.iload_n 1, 1) := by decide +kernel
theorem dX12_gale_36 : decode cX12_gale 36 = .ok (.invokevirtual 208, 3) := by decide +kernel
theorem dX12_gale_39 : decode cX12_gale 39 = .ok (.aload_n 0, 1) := by decide +kernel
theorem dX12_gale_40 : decode cX12_gale 40 = .ok (.getfield 19, 3) := by decide +kernel
theorem dX12_gale_43 : decode cX12_gale 43 = .ok (.iconst 0, 1) := by decide +kernel
theorem dX12_gale_44 : decode cX12_gale 44 = .ok (.dup2, 1) := by decide +kernel
theorem dX12_gale_45 : decode cX12_gale 45 = .ok (.iaload, 1) := by decide +kernel
theorem dX12_gale_46 : decode cX12_gale 46 = .ok (.iconst 1, 1) := by decide +kernel
theorem dX12_gale_47 : decode cX12_gale 47 = .ok (.iadd, 1) := by decide +kernel
theorem dX12_gale_48 : decode cX12_gale 48 = .ok (.iastore, 1) := by decide +kernel
theorem dX12_gale_49 : decode cX12_gale 49 = .ok (.aload_n 0, 1) := by decide +kernel
theorem dX12_gale_50 : decode cX12_gale 50 = .ok (.aload_n 0, 1) := by decide +kernel
theorem dX12_gale_51 : decode cX12_gale 51 = .ok (.getfield 19, 3) := by decide +kernel
theorem dX12_gale_54 : decode cX12_gale 54 = .ok (.bipush 6, 2) := by decide +kernel
theorem dX12_gale_56 : decode cX12_gale 56 = .ok (.invokevirtual 212, 3) := by decide +kernel
theorem dX12_gale_59 : decode cX12_gale 59 = .ok (.ireturn, 1) := by decide +kernel
theorem dX12_join_0 : decode cX12_join 0 = .ok (.aload_n 0, 1) := by decide +kernel
theorem dX12_join_1 : decode cX12_join 1 = .ok (.iload_n 1, 1) := by decide +kernel
theorem dX12_join_2 : decode cX12_join 2 = .ok (.invokevirtual 185, 3) := by decide +kernel
theorem dX12_join_5 : decode cX12_join 5 = .ok (.ifCond .eq 21, 3) := by decide +kernel
theorem dX12_join_8 : decode cX12_join 8 = .ok (.iload_n 2, 1) := by decide +kernel
theorem dX12_join_9 : decode cX12_join 9 = .ok (.iconst 0, 1) := by decide +kernel
theorem dX12_join_10 : decode cX12_join 10 = .ok (.iconst 1, 1) := by decide +kernel
theorem dX12_join_11 : decode cX12_join 11 = .ok (.invokestatic 73, 3) := by decide +kernel
theorem dX12_join_14 : decode cX12_join 14 = .ok (.ifCond .eq 12, 3) := by decide +kernel
theorem dX12_join_17 : decode cX12_join 17 = .ok (.iload_n 3, 1) := by decide +kernel
theorem dX12_join_18 : decode cX12_join 18 = .ok (.iconst 0, 1) := by decide +kernel
theorem dX12_join_19 : decode cX12_join 19 = .ok (.iconst 3, 1) := by decide +kernel
theorem dX12_join_20 : decode cX12_join 20 = .ok (.invokestatic 73, 3) := by decide +kernel
theorem dX12_join_23 : decode cX12_join 23 = .ok (.ifCond .ne 5, 3) := by decide +kernel
theorem dX12_join_26 : decode cX12_join 26 = .ok (.iconst (-1), 1) := by decide +kernel
theorem dX12_join_27 : decode cX12_join 27 = .ok (.ireturn, 1) := by decide +kernel
theorem dX12_join_28 : decode cX12_join 28 = .ok (.aload_n 0, 1) := by decide +kernel
theorem dX12_join_29 : decode cX12_join 29 = .ok (.invokevirtual 202, 3) := by decide +kernel
theorem dX12_join_32 : decode cX12_join 32 = .ok (.iload_n 1, 1) := by decide +kernel
theorem dX12_join_33 : decode cX12_join 33 = .ok (.iload_n 2, 1) := by decide +kernel
theorem dX12_join_34 : decode cX12_join 34 = .ok (.invokestatic 188, 3) := by decide +kernel
theorem dX12_join_37 : decode cX12_join 37 = .ok (.istore 4, 2) := by decide +kernel
theorem dX12_join_39 : decode cX12_join 39 = .ok (.aload_n 0, 1) := by decide +kernel
theorem dX12_join_40 : decode cX12_join 40 = .ok (.getfield 19, 3) := by decide +kernel
theorem dX12_join_43 : decode cX12_join 43 = .ok (.iload 4, 2) := by decide +kernel
theorem dX12_join_45 : decode cX12_join 45 = .ok (.iaload, 1) := by decide +kernel
theorem dX12_join_46 : decode cX12_join 46 = .ok (.istore 5, 2) := by decide +kernel
theorem dX12_join_48 : decode cX12_join 48 = .ok (.aload_n 0, 1) := by decide +kernel
theorem dX12_join_49 : decode cX12_join 49 = .ok (.getfield 19, 3) := by decide +kernel
theorem dX12_join_52 : decode cX12_join 52 = .ok (.iload 4, 2) := by decide +kernel
theorem dX12_join_54 : decode cX12_join 54 = .ok (.iload_n 3, 1) := by decide +kernel
theorem dX12_join_55 : decode cX12_join 55 = .ok (.iastore, 1) := by decide +kernel
theorem dX12_join_56 : decode cX12_join 56 = .ok (.aload_n 0, 1) := by decide +kernel
theorem dX12_join_57 : decode cX12_join 57 = .ok (.getfield 19, 3) := by decide +kernel
theorem dX12_join_60 : decode cX12_join 60 = .ok (.iload 4, 2) := by decide +kernel
theorem dX12_join_62 : decode cX12_join 62 = .ok (.iconst 1, 1) := by decide +kernel
theorem dX12_join_63 : decode cX12_join 63 = .ok (.iadd, 1) := by decide +kernel
theorem dX12_join_64 : decode cX12_join 64 = .ok (.iconst 0, 1) := by decide +kernel
theorem dX12_join_65 : decode cX12_join 65 = .ok (.iastore, 1) := by decide +kernel
theorem dX12_join_66 : decode cX12_join 66 = .ok (.aload_n 0, 1) := by decide +kernel
theorem dX12_join_67 : decode cX12_join 67 = .ok (.getfield 19, 3) := by decide +kernel
theorem dX12_join_70 : decode cX12_join 70 = .ok (.iload 4, 2) := by decide +kernel
theorem dX12_join_72 : decode cX12_join 72 = .ok (.iconst 2, 1) := by decide +kernel
theorem dX12_join_73 : decode cX12_join 73 = .ok (.iadd, 1) := by decide +kernel
theorem dX12_join_74 : decode cX12_join 74 = .ok (.iconst 0, 1) := by decide +kernel
theorem dX12_join_75 : decode cX12_join 75 = .ok (.iastore, 1) := by decide +kernel
theorem dX12_join_76 : decode cX12_join 76 = .ok (.iload 5, 2) := by decide +kernel
theorem dX12_join_78 : decode cX12_join 78 = .ok (.ireturn, 1) := by decide +kernel
theorem dX12_spring_0 : decode cX12_spring 0 = .ok (.aload_n 0, 1) := by decide +kernel
theorem dX12_spring_1 : decode cX12_spring 1 = .ok (.invokevirtual 202, 3) := by decide +kernel
theorem dX12_spring_4 : decode cX12_spring 4 = .ok (.iconst 0, 1) := by decide +kernel
theorem dX12_spring_5 : decode cX12_spring 5 = .ok (.istore_n 1, 1) := by decide +kernel
theorem dX12_spring_6 : decode cX12_spring 6 = .ok (.iconst 0, 1) := by decide +kernel
theorem dX12_spring_7 : decode cX12_spring 7 = .ok (.istore_n 2, 1) := by decide +kernel
theorem dX12_spring_8 : decode cX12_spring 8 = .ok (.iload_n 2, 1) := by decide +kernel
theorem dX12_spring_9 : decode cX12_spring 9 = .ok (.iconst 2, 1) := by decide +kernel
theorem dX12_spring_10 : decode cX12_spring 10 = .ok (.aload_n 0, 1) := by decide +kernel
theorem dX12_spring_11 : decode cX12_spring 11 = .ok (.getfield 77, 3) := by decide +kernel
theorem dX12_spring_14 : decode cX12_spring 14 = .ok (.imul, 1) := by decide +kernel
theorem dX12_spring_15 : decode cX12_spring 15 = .ok (.if_icmp .ge 85, 3) := by decide +kernel
theorem dX12_spring_18 : decode cX12_spring 18 = .ok (.bipush 6, 2) := by decide +kernel
theorem dX12_spring_20 : decode cX12_spring 20 = .ok (.iconst 3, 1) := by decide +kernel
theorem dX12_spring_21 : decode cX12_spring 21 = .ok (.iload_n 2, 1) := by decide +kernel
theorem dX12_spring_22 : decode cX12_spring 22 = .ok (.imul, 1) := by decide +kernel
theorem dX12_spring_23 : decode cX12_spring 23 = .ok (.iadd, 1) := by decide +kernel
theorem dX12_spring_24 : decode cX12_spring 24 = .ok (.istore_n 3, 1) := by decide +kernel
theorem dX12_spring_25 : decode cX12_spring 25 = .ok (.aload_n 0, 1) := by decide +kernel
theorem dX12_spring_26 : decode cX12_spring 26 = .ok (.getfield 19, 3) := by decide +kernel
theorem dX12_spring_29 : decode cX12_spring 29 = .ok (.iload_n 3, 1) := by decide +kernel
theorem dX12_spring_30 : decode cX12_spring 30 = .ok (.iaload, 1) := by decide +kernel
theorem dX12_spring_31 : decode cX12_spring 31 = .ok (.iconst 1, 1) := by decide +kernel
theorem dX12_spring_32 : decode cX12_spring 32 = .ok (.if_icmp .ne 62, 3) := by decide +kernel
theorem dX12_spring_35 : decode cX12_spring 35 = .ok (.aload_n 0, 1) := by decide +kernel
theorem dX12_spring_36 : decode cX12_spring 36 = .ok (.getfield 19, 3) := by decide +kernel
theorem dX12_spring_39 : decode cX12_spring 39 = .ok (.iload_n 3, 1) := by decide +kernel
theorem dX12_spring_40 : decode cX12_spring 40 = .ok (.iconst 2, 1) := by decide +kernel
theorem dX12_spring_41 : decode cX12_spring 41 = .ok (.iadd, 1) := by decide +kernel
theorem dX12_spring_42 : decode cX12_spring 42 = .ok (.iaload, 1) := by decide +kernel
theorem dX12_spring_43 : decode cX12_spring 43 = .ok (.ifCond .ne 51, 3) := by decide +kernel
theorem dX12_spring_46 : decode cX12_spring 46 = .ok (.aload_n 0, 1) := by decide +kernel
theorem dX12_spring_47 : decode cX12_spring 47 = .ok (.getfield 19, 3) := by decide +kernel
theorem dX12_spring_50 : decode cX12_spring 50 = .ok (.iload_n 3, 1) := by decide +kernel
theorem dX12_spring_51 : decode cX12_spring 51 = .ok (.iconst 1, 1) := by decide +kernel
theorem dX12_spring_52 : decode cX12_spring 52 = .ok (.iadd, 1) := by decide +kernel
theorem dX12_spring_53 : decode cX12_spring 53 = .ok (.iaload, 1) := by decide +kernel
theorem dX12_spring_54 : decode cX12_spring 54 = .ok (.ifCond .le 40, 3) := by decide +kernel
theorem dX12_spring_57 : decode cX12_spring 57 = .ok (.aload_n 0, 1) := by decide +kernel
theorem dX12_spring_58 : decode cX12_spring 58 = .ok (.getfield 19, 3) := by decide +kernel
theorem dX12_spring_61 : decode cX12_spring 61 = .ok (.iload_n 3, 1) := by decide +kernel
theorem dX12_spring_62 : decode cX12_spring 62 = .ok (.iconst 1, 1) := by decide +kernel
theorem dX12_spring_63 : decode cX12_spring 63 = .ok (.iadd, 1) := by decide +kernel
theorem dX12_spring_64 : decode cX12_spring 64 = .ok (.aload_n 0, 1) := by decide +kernel
theorem dX12_spring_65 : decode cX12_spring 65 = .ok (.getfield 19, 3) := by decide +kernel
theorem dX12_spring_68 : decode cX12_spring 68 = .ok (.iload_n 3, 1) := by decide +kernel
theorem dX12_spring_69 : decode cX12_spring 69 = .ok (.iconst 1, 1) := by decide +kernel
theorem dX12_spring_70 : decode cX12_spring 70 = .ok (.iadd, 1) := by decide +kernel
theorem dX12_spring_71 : decode cX12_spring 71 = .ok (.iaload, 1) := by decide +kernel
theorem dX12_spring_72 : decode cX12_spring 72 = .ok (.iconst 2, 1) := by decide +kernel
theorem dX12_spring_73 : decode cX12_spring 73 = .ok (.if_icmp .le 16, 3) := by decide +kernel
theorem dX12_spring_76 : decode cX12_spring 76 = .ok (.aload_n 0, 1) := by decide +kernel
theorem dX12_spring_77 : decode cX12_spring 77 = .ok (.getfield 19, 3) := by decide +kernel
theorem dX12_spring_80 : decode cX12_spring 80 = .ok (.iload_n 3, 1) := by decide +kernel
theorem dX12_spring_81 : decode cX12_spring 81 = .ok (.iconst 1, 1) := by decide +kernel
theorem dX12_spring_82 : decode cX12_spring 82 = .ok (.iadd, 1) := by decide +kernel
theorem dX12_spring_83 : decode cX12_spring 83 = .ok (.iaload, 1) := by decide +kernel
theorem dX12_spring_84 : decode cX12_spring 84 = .ok (.iconst 2, 1) := by decide +kernel
theorem dX12_spring_85 : decode cX12_spring 85 = .ok (.isub, 1) := by decide +kernel
theorem dX12_spring_86 : decode cX12_spring 86 = .ok (.goto 4, 3) := by decide +kernel
theorem dX12_spring_89 : decode cX12_spring 89 = .ok (.iconst 0, 1) := by decide +kernel
theorem dX12_spring_90 : decode cX12_spring 90 = .ok (.iastore, 1) := by decide +kernel
theorem dX12_spring_91 : decode cX12_spring 91 = .ok (.iinc 1 1, 3) := by decide +kernel
theorem dX12_spring_94 : decode cX12_spring 94 = .ok (.iinc 2 1, 3) := by decide +kernel
theorem dX12_spring_97 : decode cX12_spring 97 = .ok (.goto (-89), 3) := by decide +kernel
theorem dX12_spring_100 : decode cX12_spring 100 = .ok (.iload_n 1, 1) := by decide +kernel
theorem dX12_spring_101 : decode cX12_spring 101 = .ok (.ireturn, 1) := by decide +kernel
theorem dX12_undo_0 : decode cX12_undo 0 = .ok (.aload_n 0, 1) := by decide +kernel
theorem dX12_undo_1 : decode cX12_undo 1 = .ok (.getfield 142, 3) := by decide +kernel
theorem dX12_undo_4 : decode cX12_undo 4 = .ok (.ifCond .ne 6, 3) := by decide +kernel
theorem dX12_undo_7 : decode cX12_undo 7 = .ok (.bipush (-2), 2) := by decide +kernel
theorem dX12_undo_9 : decode cX12_undo 9 = .ok (.ireturn, 1) := by decide +kernel
theorem dX12_undo_10 : decode cX12_undo 10 = .ok (.aload_n 0, 1) := by decide +kernel
theorem dX12_undo_11 : decode cX12_undo 11 = .ok (.dup, 1) := by decide +kernel
theorem dX12_undo_12 : decode cX12_undo 12 = .ok (.getfield 142, 3) := by decide +kernel
theorem dX12_undo_15 : decode cX12_undo 15 = .ok (.iconst 1, 1) := by decide +kernel
theorem dX12_undo_16 : decode cX12_undo 16 = .ok (.isub, 1) := by decide +kernel
theorem dX12_undo_17 : decode cX12_undo 17 = .ok (.putfield 142, 3) := by decide +kernel
theorem dX12_undo_20 : decode cX12_undo 20 = .ok (.iconst 0, 1) := by decide +kernel
theorem dX12_undo_21 : decode cX12_undo 21 = .ok (.istore_n 1, 1) := by decide +kernel
theorem dX12_undo_22 : decode cX12_undo 22 = .ok (.iload_n 1, 1) := by decide +kernel
theorem dX12_undo_23 : decode cX12_undo 23 = .ok (.bipush 42, 2) := by decide +kernel
theorem dX12_undo_25 : decode cX12_undo 25 = .ok (.if_icmp .ge 29, 3) := by decide +kernel
theorem dX12_undo_28 : decode cX12_undo 28 = .ok (.aload_n 0, 1) := by decide +kernel
theorem dX12_undo_29 : decode cX12_undo 29 = .ok (.getfield 19, 3) := by decide +kernel
theorem dX12_undo_32 : decode cX12_undo 32 = .ok (.iload_n 1, 1) := by decide +kernel
theorem dX12_undo_33 : decode cX12_undo 33 = .ok (.aload_n 0, 1) := by decide +kernel
theorem dX12_undo_34 : decode cX12_undo 34 = .ok (.getfield 22, 3) := by decide +kernel
theorem dX12_undo_37 : decode cX12_undo 37 = .ok (.bipush 42, 2) := by decide +kernel
theorem dX12_undo_39 : decode cX12_undo 39 = .ok (.aload_n 0, 1) := by decide +kernel
theorem dX12_undo_40 : decode cX12_undo 40 = .ok (.getfield 142, 3) := by decide +kernel
theorem dX12_undo_43 : decode cX12_undo 43 = .ok (.imul, 1) := by decide +kernel
theorem dX12_undo_44 : decode cX12_undo 44 = .ok (.iload_n 1, 1) := by decide +kernel
theorem dX12_undo_45 : decode cX12_undo 45 = .ok (.iadd, 1) := by decide +kernel
theorem dX12_undo_46 : decode cX12_undo 46 = .ok (.iaload, 1) := by decide +kernel
theorem dX12_undo_47 : decode cX12_undo 47 = .ok (.iastore, 1) := by decide +kernel
theorem dX12_undo_48 : decode cX12_undo 48 = .ok (.iinc 1 1, 3) := by decide +kernel
theorem dX12_undo_51 : decode cX12_undo 51 = .ok (.goto (-29), 3) := by decide +kernel
theorem dX12_undo_54 : decode cX12_undo 54 = .ok (.aload_n 0, 1) := by decide +kernel
theorem dX12_undo_55 : decode cX12_undo 55 = .ok (.getfield 142, 3) := by decide +kernel
theorem dX12_undo_58 : decode cX12_undo 58 = .ok (.ireturn, 1) := by decide +kernel
theorem dX12_lays_0 : decode cX12_lays 0 = .ok (.iload_n 1, 1) := by decide +kernel
theorem dX12_lays_1 : decode cX12_lays 1 = .ok (.istore_n 2, 1) := by decide +kernel
theorem dX12_lays_2 : decode cX12_lays 2 = .ok (.aload_n 0, 1) := by decide +kernel
theorem dX12_lays_3 : decode cX12_lays 3 = .ok (.getfield 80, 3) := by decide +kernel
theorem dX12_lays_6 : decode cX12_lays 6 = .ok (.iconst 1, 1) := by decide +kernel
theorem dX12_lays_7 : decode cX12_lays 7 = .ok (.isub, 1) := by decide +kernel
theorem dX12_lays_8 : decode cX12_lays 8 = .ok (.istore_n 3, 1) := by decide +kernel
theorem dX12_lays_9 : decode cX12_lays 9 = .ok (.iload_n 3, 1) := by decide +kernel
theorem dX12_lays_10 : decode cX12_lays 10 = .ok (.ifCond .lt 50, 3) := by decide +kernel
theorem dX12_lays_13 : decode cX12_lays 13 = .ok (.iload_n 2, 1) := by decide +kernel
theorem dX12_lays_14 : decode cX12_lays 14 = .ok (.aload_n 0, 1) := by decide +kernel
theorem dX12_lays_15 : decode cX12_lays 15 = .ok (.getfield 77, 3) := by decide +kernel
theorem dX12_lays_18 : decode cX12_lays 18 = .ok (.iconst 1, 1) := by decide +kernel
theorem dX12_lays_19 : decode cX12_lays 19 = .ok (.iadd, 1) := by decide +kernel
theorem dX12_lays_20 : decode cX12_lays 20 = .ok (.irem, 1) := by decide +kernel
theorem dX12_lays_21 : decode cX12_lays 21 = .ok (.istore 4, 2) := by decide +kernel
theorem dX12_lays_23 : decode cX12_lays 23 = .ok (.aload_n 0, 1) := by decide +kernel
theorem dX12_lays_24 : decode cX12_lays 24 = .ok (.getfield 47, 3) := by decide +kernel
theorem dX12_lays_27 : decode cX12_lays 27 = .ok (.iload_n 3, 1) := by decide +kernel
theorem dX12_lays_28 : decode cX12_lays 28 = .ok (.iload 4, 2) := by decide +kernel
theorem dX12_lays_30 : decode cX12_lays 30 = .ok (.aload_n 0, 1) := by decide +kernel
theorem dX12_lays_31 : decode cX12_lays 31 = .ok (.getfield 77, 3) := by decide +kernel
theorem dX12_lays_34 : decode cX12_lays 34 = .ok (.if_icmp .ne 8, 3) := by decide +kernel
theorem dX12_lays_37 : decode cX12_lays 37 = .ok (.bipush (-9), 2) := by decide +kernel
theorem dX12_lays_39 : decode cX12_lays 39 = .ok (.goto 5, 3) := by decide +kernel
theorem dX12_lays_42 : decode cX12_lays 42 = .ok (.iload 4, 2) := by decide +kernel
theorem dX12_lays_44 : decode cX12_lays 44 = .ok (.iastore, 1) := by decide +kernel
theorem dX12_lays_45 : decode cX12_lays 45 = .ok (.iload_n 2, 1) := by decide +kernel
theorem dX12_lays_46 : decode cX12_lays 46 = .ok (.aload_n 0, 1) := by decide +kernel
theorem dX12_lays_47 : decode cX12_lays 47 = .ok (.getfield 77, 3) := by decide +kernel
theorem dX12_lays_50 : decode cX12_lays 50 = .ok (.iconst 1, 1) := by decide +kernel
theorem dX12_lays_51 : decode cX12_lays 51 = .ok (.iadd, 1) := by decide +kernel
theorem dX12_lays_52 : decode cX12_lays 52 = .ok (.idiv, 1) := by decide +kernel
theorem dX12_lays_53 : decode cX12_lays 53 = .ok (.istore_n 2, 1) := by decide +kernel
theorem dX12_lays_54 : decode cX12_lays 54 = .ok (.iinc 3 (-1), 3) := by decide +kernel
theorem dX12_lays_57 : decode cX12_lays 57 = .ok (.goto (-48), 3) := by decide +kernel
theorem dX12_lays_60 : decode cX12_lays 60 = .ok (.aload_n 0, 1) := by decide +kernel
theorem dX12_lays_61 : decode cX12_lays 61 = .ok (.invokevirtual 151, 3) := by decide +kernel
theorem dX12_lays_64 : decode cX12_lays 64 = .ok (.return_, 1) := by decide +kernel
theorem dX12_standing_0 : decode cX12_standing 0 = .ok (.iconst 0, 1) := by decide +kernel
theorem dX12_standing_1 : decode cX12_standing 1 = .ok (.istore_n 1, 1) := by decide +kernel
theorem dX12_standing_2 : decode cX12_standing 2 = .ok (.iconst 0, 1) := by decide +kernel
theorem dX12_standing_3 : decode cX12_standing 3 = .ok (.istore_n 2, 1) := by decide +kernel
theorem dX12_standing_4 : decode cX12_standing 4 = .ok (.iload_n 2, 1) := by decide +kernel
theorem dX12_standing_5 : decode cX12_standing 5 = .ok (.aload_n 0, 1) := by decide +kernel
theorem dX12_standing_6 : decode cX12_standing 6 = .ok (.getfield 80, 3) := by decide +kernel
theorem dX12_standing_9 : decode cX12_standing 9 = .ok (.if_icmp .ge 28, 3) := by decide +kernel
theorem dX12_standing_12 : decode cX12_standing 12 = .ok (.iload_n 1, 1) := by decide +kernel
theorem dX12_standing_13 : decode cX12_standing 13 = .ok (.aload_n 0, 1) := by decide +kernel
theorem dX12_standing_14 : decode cX12_standing 14 = .ok (.getfield 47, 3) := by decide +kernel
theorem dX12_standing_17 : decode cX12_standing 17 = .ok (.iload_n 2, 1) := by decide +kernel
theorem dX12_standing_18 : decode cX12_standing 18 = .ok (.iaload, 1) := by decide +kernel
theorem dX12_standing_19 : decode cX12_standing 19 = .ok (.bipush (-9), 2) := by decide +kernel
theorem dX12_standing_21 : decode cX12_standing 21 = .ok (.if_icmp .ne 7, 3) := by decide +kernel
theorem dX12_standing_24 : decode cX12_standing 24 = .ok (.iconst 0, 1) := by decide +kernel
theorem dX12_standing_25 : decode cX12_standing 25 = .ok (.goto 4, 3) := by decide +kernel
theorem dX12_standing_28 : decode cX12_standing 28 = .ok (.iconst 1, 1) := by decide +kernel
theorem dX12_standing_29 : decode cX12_standing 29 = .ok (.iadd, 1) := by decide +kernel
theorem dX12_standing_30 : decode cX12_standing 30 = .ok (.istore_n 1, 1) := by decide +kernel
theorem dX12_standing_31 : decode cX12_standing 31 = .ok (.iinc 2 1, 3) := by decide +kernel
theorem dX12_standing_34 : decode cX12_standing 34 = .ok (.goto (-30), 3) := by decide +kernel
theorem dX12_standing_37 : decode cX12_standing 37 = .ok (.iload_n 1, 1) := by decide +kernel
theorem dX12_standing_38 : decode cX12_standing 38 = .ok (.ireturn, 1) := by decide +kernel
theorem dX12_paid_0 : decode cX12_paid 0 = .ok (.iconst 0, 1) := by decide +kernel
theorem dX12_paid_1 : decode cX12_paid 1 = .ok (.istore_n 1, 1) := by decide +kernel
theorem dX12_paid_2 : decode cX12_paid 2 = .ok (.iconst 0, 1) := by decide +kernel
theorem dX12_paid_3 : decode cX12_paid 3 = .ok (.istore_n 2, 1) := by decide +kernel
theorem dX12_paid_4 : decode cX12_paid 4 = .ok (.iload_n 2, 1) := by decide +kernel
theorem dX12_paid_5 : decode cX12_paid 5 = .ok (.aload_n 0, 1) := by decide +kernel
theorem dX12_paid_6 : decode cX12_paid 6 = .ok (.getfield 80, 3) := by decide +kernel
theorem dX12_paid_9 : decode cX12_paid 9 = .ok (.if_icmp .ge 37, 3) := by decide +kernel
theorem dX12_paid_12 : decode cX12_paid 12 = .ok (.iload_n 1, 1) := by decide +kernel
theorem dX12_paid_13 : decode cX12_paid 13 = .ok (.aload_n 0, 1) := by decide +kernel
theorem dX12_paid_14 : decode cX12_paid 14 = .ok (.getfield 47, 3) := by decide +kernel
theorem dX12_paid_17 : decode cX12_paid 17 = .ok (.iload_n 2, 1) := by decide +kernel
theorem dX12_paid_18 : decode cX12_paid 18 = .ok (.iaload, 1) := by decide +kernel
theorem dX12_paid_19 : decode cX12_paid 19 = .ok (.bipush (-9), 2) := by decide +kernel
theorem dX12_paid_21 : decode cX12_paid 21 = .ok (.if_icmp .ne 7, 3) := by decide +kernel
theorem dX12_paid_24 : decode cX12_paid 24 = .ok (.iconst 0, 1) := by decide +kernel
theorem dX12_paid_25 : decode cX12_paid 25 = .ok (.goto 13, 3) := by decide +kernel
theorem dX12_paid_28 : decode cX12_paid 28 = .ok (.aload_n 0, 1) := by decide +kernel
theorem dX12_paid_29 : decode cX12_paid 29 = .ok (.getfield 16, 3) := by decide +kernel
theorem dX12_paid_32 : decode cX12_paid 32 = .ok (.iconst 2, 1) := by decide +kernel
theorem dX12_paid_33 : decode cX12_paid 33 = .ok (.iload_n 2, 1) := by decide +kernel
theorem dX12_paid_34 : decode cX12_paid 34 = .ok (.imul, 1) := by decide +kernel
theorem dX12_paid_35 : decode cX12_paid 35 = .ok (.iconst 1, 1) := by decide +kernel
theorem dX12_paid_36 : decode cX12_paid 36 = .ok (.iadd, 1) := by decide +kernel
theorem dX12_paid_37 : decode cX12_paid 37 = .ok (.iaload, 1) := by decide +kernel
theorem dX12_paid_38 : decode cX12_paid 38 = .ok (.iadd, 1) := by decide +kernel
theorem dX12_paid_39 : decode cX12_paid 39 = .ok (.istore_n 1, 1) := by decide +kernel
theorem dX12_paid_40 : decode cX12_paid 40 = .ok (.iinc 2 1, 3) := by decide +kernel
theorem dX12_paid_43 : decode cX12_paid 43 = .ok (.goto (-39), 3) := by decide +kernel
theorem dX12_paid_46 : decode cX12_paid 46 = .ok (.iload_n 1, 1) := by decide +kernel
theorem dX12_paid_47 : decode cX12_paid 47 = .ok (.ireturn, 1) := by decide +kernel
theorem dX12_worth_0 : decode cX12_worth 0 = .ok (.iload_n 1, 1) := by decide +kernel
theorem dX12_worth_1 : decode cX12_worth 1 = .ok (.ifCond .eq 21, 3) := by decide +kernel
theorem dX12_worth_4 : decode cX12_worth 4 = .ok (.bipush 10, 2) := by decide +kernel
theorem dX12_worth_6 : decode cX12_worth 6 = .ok (.aload_n 0, 1) := by decide +kernel
theorem dX12_worth_7 : decode cX12_worth 7 = .ok (.invokevirtual 216, 3) := by decide +kernel
theorem dX12_worth_10 : decode cX12_worth 10 = .ok (.imul, 1) := by decide +kernel
theorem dX12_worth_11 : decode cX12_worth 11 = .ok (.bipush 9, 2) := by decide +kernel
theorem dX12_worth_13 : decode cX12_worth 13 = .ok (.iadd, 1) := by decide +kernel
theorem dX12_worth_14 : decode cX12_worth 14 = .ok (.aload_n 0, 1) := by decide +kernel
theorem dX12_worth_15 : decode cX12_worth 15 = .ok (.invokevirtual 219, 3) := by decide +kernel
theorem dX12_worth_18 : decode cX12_worth 18 = .ok (.isub, 1) := by decide +kernel
theorem dX12_worth_19 : decode cX12_worth 19 = .ok (.goto 7, 3) := by decide +kernel
theorem dX12_worth_22 : decode cX12_worth 22 = .ok (.aload_n 0, 1) := by decide +kernel
theorem dX12_worth_23 : decode cX12_worth 23 = .ok (.invokevirtual 219, 3) := by decide +kernel
theorem dX12_worth_26 : decode cX12_worth 26 = .ok (.ireturn, 1) := by decide +kernel
theorem dX12_bestRow_0 : decode cX12_bestRow 0 = .ok (.aload_n 0, 1) := by decide +kernel
theorem dX12_bestRow_1 : decode cX12_bestRow 1 = .ok (.invokevirtual 195, 3) := by decide +kernel
theorem dX12_bestRow_4 : decode cX12_bestRow 4 = .ok (.iconst 1, 1) := by decide +kernel
theorem dX12_bestRow_5 : decode cX12_bestRow 5 = .ok (.istore_n 2, 1) := by decide +kernel
theorem dX12_bestRow_6 : decode cX12_bestRow 6 = .ok (.iconst 0, 1) := by decide +kernel
theorem dX12_bestRow_7 : decode cX12_bestRow 7 = .ok (.istore_n 3, 1) := by decide +kernel
theorem dX12_bestRow_8 : decode cX12_bestRow 8 = .ok (.iload_n 3, 1) := by decide +kernel
theorem dX12_bestRow_9 : decode cX12_bestRow 9 = .ok (.aload_n 0, 1) := by decide +kernel
theorem dX12_bestRow_10 : decode cX12_bestRow 10 = .ok (.getfield 80, 3) := by decide +kernel
theorem dX12_bestRow_13 : decode cX12_bestRow 13 = .ok (.if_icmp .ge 18, 3) := by decide +kernel
theorem dX12_bestRow_16 : decode cX12_bestRow 16 = .ok (.iload_n 2, 1) := by decide +kernel
theorem dX12_bestRow_17 : decode cX12_bestRow 17 = .ok (.aload_n 0, 1) := by decide +kernel
theorem dX12_bestRow_18 : decode cX12_bestRow 18 = .ok (.getfield 77, 3) := by decide +kernel
theorem dX12_bestRow_21 : decode cX12_bestRow 21 = .ok (.iconst 1, 1) := by decide +kernel
theorem dX12_bestRow_22 : decode cX12_bestRow 22 = .ok (.iadd, 1) := by decide +kernel
theorem dX12_bestRow_23 : decode cX12_bestRow 23 = .ok (.imul, 1) := by decide +kernel
theorem dX12_bestRow_24 : decode cX12_bestRow 24 = .ok (.istore_n 2, 1) := by decide +kernel
theorem dX12_bestRow_25 : decode cX12_bestRow 25 = .ok (.iinc 3 1, 3) := by decide +kernel
theorem dX12_bestRow_28 : decode cX12_bestRow 28 = .ok (.goto (-20), 3) := by decide +kernel
theorem dX12_bestRow_31 : decode cX12_bestRow 31 = .ok (.iconst 0, 1) := by decide +kernel
theorem dX12_bestRow_32 : decode cX12_bestRow 32 = .ok (.istore_n 3, 1) := by decide +kernel
theorem dX12_bestRow_33 : decode cX12_bestRow 33 = .ok (.iconst (-1), 1) := by decide +kernel
theorem dX12_bestRow_34 : decode cX12_bestRow 34 = .ok (.istore 4, 2) := by decide +kernel
theorem dX12_bestRow_36 : decode cX12_bestRow 36 = .ok (.iconst 0, 1) := by decide +kernel
theorem dX12_bestRow_37 : decode cX12_bestRow 37 = .ok (.istore 5, 2) := by decide +kernel
theorem dX12_bestRow_39 : decode cX12_bestRow 39 = .ok (.iload 5, 2) := by decide +kernel
theorem dX12_bestRow_41 : decode cX12_bestRow 41 = .ok (.iload_n 2, 1) := by decide +kernel
theorem dX12_bestRow_42 : decode cX12_bestRow 42 = .ok (.if_icmp .ge 43, 3) := by decide +kernel
theorem dX12_bestRow_45 : decode cX12_bestRow 45 = .ok (.aload_n 0, 1) := by decide +kernel
theorem dX12_bestRow_46 : decode cX12_bestRow 46 = .ok (.iload 5, 2) := by decide +kernel
theorem dX12_bestRow_48 : decode cX12_bestRow 48 = .ok (.invokevirtual 222, 3) := by decide +kernel
theorem dX12_bestRow_51 : decode cX12_bestRow 51 = .ok (.aload_n 0, 1) := by decide +kernel
theorem dX12_bestRow_52 : decode cX12_bestRow 52 = .ok (.iload_n 1, 1) := by decide +kernel
theorem dX12_bestRow_53 : decode cX12_bestRow 53 = .ok (.invokevirtual 226, 3) := by decide +kernel
theorem dX12_bestRow_56 : decode cX12_bestRow 56 = .ok (.istore 6, 2) := by decide +kernel
theorem dX12_bestRow_58 : decode cX12_bestRow 58 = .ok (.iload 6, 2) := by decide +kernel
theorem dX12_bestRow_60 : decode cX12_bestRow 60 = .ok (.iload 4, 2) := by decide +kernel
theorem dX12_bestRow_62 : decode cX12_bestRow 62 = .ok (.if_icmp .le 17, 3) := by decide +kernel
theorem dX12_bestRow_65 : decode cX12_bestRow 65 = .ok (.aload_n 0, 1) := by decide +kernel
theorem dX12_bestRow_66 : decode cX12_bestRow 66 = .ok (.invokevirtual 198, 3) := by decide +kernel
theorem dX12_bestRow_69 : decode cX12_bestRow 69 = .ok (.ifCond .eq 10, 3) := by decide +kernel
end
section
theorem dX12_bestRow_72 : decode cX12_bestRow 72 = .ok (.iload 5, 2) := by decide +kernel
theorem dX12_bestRow_74 : decode cX12_bestRow 74 = .ok (.istore_n 3, 1) := by decide +kernel
theorem dX12_bestRow_75 : decode cX12_bestRow 75 = .ok (.iload 6, 2) := by decide +kernel
theorem dX12_bestRow_77 : decode cX12_bestRow 77 = .ok (.istore 4, 2) := by decide +kernel
theorem dX12_bestRow_79 : decode cX12_bestRow 79 = .ok (.iinc 5 1, 3) := by decide +kernel
theorem dX12_bestRow_82 : decode cX12_bestRow 82 = .ok (.goto (-43), 3) := by decide +kernel
theorem dX12_bestRow_85 : decode cX12_bestRow 85 = .ok (.iload_n 3, 1) := by decide +kernel
theorem dX12_bestRow_86 : decode cX12_bestRow 86 = .ok (.ireturn, 1) := by decide +kernel
theorem dX12_tells_0 : decode cX12_tells 0 = .ok (.iload_n 1, 1) := by decide +kernel
theorem dX12_tells_1 : decode cX12_tells 1 = .ok (.bipush (-9), 2) := by decide +kernel
theorem dX12_tells_3 : decode cX12_tells 3 = .ok (.if_icmp .eq 13, 3) := by decide +kernel
theorem dX12_tells_6 : decode cX12_tells 6 = .ok (.aload_n 0, 1) := by decide +kernel
theorem dX12_tells_7 : decode cX12_tells 7 = .ok (.iload_n 1, 1) := by decide +kernel
theorem dX12_tells_8 : decode cX12_tells 8 = .ok (.invokevirtual 192, 3) := by decide +kernel
theorem dX12_tells_11 : decode cX12_tells 11 = .ok (.ifCond .ne 5, 3) := by decide +kernel
theorem dX12_tells_14 : decode cX12_tells 14 = .ok (.iconst (-1), 1) := by decide +kernel
theorem dX12_tells_15 : decode cX12_tells 15 = .ok (.ireturn, 1) := by decide +kernel
theorem dX12_tells_16 : decode cX12_tells 16 = .ok (.aload_n 0, 1) := by decide +kernel
theorem dX12_tells_17 : decode cX12_tells 17 = .ok (.aload_n 0, 1) := by decide +kernel
theorem dX12_tells_18 : decode cX12_tells 18 = .ok (.iload_n 2, 1) := by decide +kernel
theorem dX12_tells_19 : decode cX12_tells 19 = .ok (.invokevirtual 230, 3) := by decide +kernel
theorem dX12_tells_22 : decode cX12_tells 22 = .ok (.invokevirtual 222, 3) := by decide +kernel
theorem dX12_tells_25 : decode cX12_tells 25 = .ok (.iload_n 1, 1) := by decide +kernel
theorem dX12_tells_26 : decode cX12_tells 26 = .ok (.bipush (-9), 2) := by decide +kernel
theorem dX12_tells_28 : decode cX12_tells 28 = .ok (.if_icmp .ne 19, 3) := by decide +kernel
theorem dX12_tells_31 : decode cX12_tells 31 = .ok (.iload_n 2, 1) := by decide +kernel
theorem dX12_tells_32 : decode cX12_tells 32 = .ok (.ifCond .eq 10, 3) := by decide +kernel
theorem dX12_tells_35 : decode cX12_tells 35 = .ok (.aload_n 0, 1) := by decide +kernel
theorem dX12_tells_36 : decode cX12_tells 36 = .ok (.invokevirtual 216, 3) := by decide +kernel
theorem dX12_tells_39 : decode cX12_tells 39 = .ok (.goto 7, 3) := by decide +kernel
theorem dX12_tells_42 : decode cX12_tells 42 = .ok (.aload_n 0, 1) := by decide +kernel
theorem dX12_tells_43 : decode cX12_tells 43 = .ok (.invokevirtual 219, 3) := by decide +kernel
theorem dX12_tells_46 : decode cX12_tells 46 = .ok (.ireturn, 1) := by decide +kernel
theorem dX12_tells_47 : decode cX12_tells 47 = .ok (.aload_n 0, 1) := by decide +kernel
theorem dX12_tells_48 : decode cX12_tells 48 = .ok (.getfield 47, 3) := by decide +kernel
theorem dX12_tells_51 : decode cX12_tells 51 = .ok (.iload_n 1, 1) := by decide +kernel
theorem dX12_tells_52 : decode cX12_tells 52 = .ok (.iaload, 1) := by decide +kernel
theorem dX12_tells_53 : decode cX12_tells 53 = .ok (.bipush (-9), 2) := by decide +kernel
theorem dX12_tells_55 : decode cX12_tells 55 = .ok (.if_icmp .ne 8, 3) := by decide +kernel
theorem dX12_tells_58 : decode cX12_tells 58 = .ok (.bipush (-5), 2) := by decide +kernel
theorem dX12_tells_60 : decode cX12_tells 60 = .ok (.goto 9, 3) := by decide +kernel
theorem dX12_tells_63 : decode cX12_tells 63 = .ok (.aload_n 0, 1) := by decide +kernel
theorem dX12_tells_64 : decode cX12_tells 64 = .ok (.getfield 47, 3) := by decide +kernel
theorem dX12_tells_67 : decode cX12_tells 67 = .ok (.iload_n 1, 1) := by decide +kernel
theorem dX12_tells_68 : decode cX12_tells 68 = .ok (.iaload, 1) := by decide +kernel
theorem dX12_tells_69 : decode cX12_tells 69 = .ok (.ireturn, 1) := by decide +kernel
theorem dX12_most_0 : decode cX12_most 0 = .ok (.aload_n 0, 1) := by decide +kernel
theorem dX12_most_1 : decode cX12_most 1 = .ok (.iload_n 1, 1) := by decide +kernel
theorem dX12_most_2 : decode cX12_most 2 = .ok (.iconst 0, 1) := by decide +kernel
theorem dX12_most_3 : decode cX12_most 3 = .ok (.invokevirtual 233, 3) := by decide +kernel
theorem dX12_most_6 : decode cX12_most 6 = .ok (.ireturn, 1) := by decide +kernel
theorem dX12_richest_0 : decode cX12_richest 0 = .ok (.aload_n 0, 1) := by decide +kernel
theorem dX12_richest_1 : decode cX12_richest 1 = .ok (.iload_n 1, 1) := by decide +kernel
theorem dX12_richest_2 : decode cX12_richest 2 = .ok (.iconst 1, 1) := by decide +kernel
theorem dX12_richest_3 : decode cX12_richest 3 = .ok (.invokevirtual 233, 3) := by decide +kernel
theorem dX12_richest_6 : decode cX12_richest 6 = .ok (.ireturn, 1) := by decide +kernel
theorem dX12_firstNew_0 : decode cX12_firstNew 0 = .ok (.bipush (-9), 2) := by decide +kernel
theorem dX12_firstNew_2 : decode cX12_firstNew 2 = .ok (.istore_n 1, 1) := by decide +kernel
theorem dX12_firstNew_3 : decode cX12_firstNew 3 = .ok (.iconst 2, 1) := by decide +kernel
theorem dX12_firstNew_4 : decode cX12_firstNew 4 = .ok (.aload_n 0, 1) := by decide +kernel
theorem dX12_firstNew_5 : decode cX12_firstNew 5 = .ok (.getfield 77, 3) := by decide +kernel
theorem dX12_firstNew_8 : decode cX12_firstNew 8 = .ok (.imul, 1) := by decide +kernel
theorem dX12_firstNew_9 : decode cX12_firstNew 9 = .ok (.iconst 1, 1) := by decide +kernel
theorem dX12_firstNew_10 : decode cX12_firstNew 10 = .ok (.isub, 1) := by decide +kernel
theorem dX12_firstNew_11 : decode cX12_firstNew 11 = .ok (.istore_n 2, 1) := by decide +kernel
theorem dX12_firstNew_12 : decode cX12_firstNew 12 = .ok (.iload_n 2, 1) := by decide +kernel
theorem dX12_firstNew_13 : decode cX12_firstNew 13 = .ok (.ifCond .lt 41, 3) := by decide +kernel
theorem dX12_firstNew_16 : decode cX12_firstNew 16 = .ok (.aload_n 0, 1) := by decide +kernel
theorem dX12_firstNew_17 : decode cX12_firstNew 17 = .ok (.getfield 56, 3) := by decide +kernel
theorem dX12_firstNew_20 : decode cX12_firstNew 20 = .ok (.iconst 3, 1) := by decide +kernel
theorem dX12_firstNew_21 : decode cX12_firstNew 21 = .ok (.iload_n 2, 1) := by decide +kernel
theorem dX12_firstNew_22 : decode cX12_firstNew 22 = .ok (.imul, 1) := by decide +kernel
theorem dX12_firstNew_23 : decode cX12_firstNew 23 = .ok (.iconst 2, 1) := by decide +kernel
theorem dX12_firstNew_24 : decode cX12_firstNew 24 = .ok (.iadd, 1) := by decide +kernel
theorem dX12_firstNew_25 : decode cX12_firstNew 25 = .ok (.iaload, 1) := by decide +kernel
theorem dX12_firstNew_26 : decode cX12_firstNew 26 = .ok (.aload_n 0, 1) := by decide +kernel
theorem dX12_firstNew_27 : decode cX12_firstNew 27 = .ok (.getfield 19, 3) := by decide +kernel
theorem dX12_firstNew_30 : decode cX12_firstNew 30 = .ok (.bipush 6, 2) := by decide +kernel
theorem dX12_firstNew_32 : decode cX12_firstNew 32 = .ok (.iconst 3, 1) := by decide +kernel
theorem dX12_firstNew_33 : decode cX12_firstNew 33 = .ok (.iload_n 2, 1) := by decide +kernel
theorem dX12_firstNew_34 : decode cX12_firstNew 34 = .ok (.imul, 1) := by decide +kernel
theorem dX12_firstNew_35 : decode cX12_firstNew 35 = .ok (.iadd, 1) := by decide +kernel
theorem dX12_firstNew_36 : decode cX12_firstNew 36 = .ok (.iconst 2, 1) := by decide +kernel
theorem dX12_firstNew_37 : decode cX12_firstNew 37 = .ok (.iadd, 1) := by decide +kernel
theorem dX12_firstNew_38 : decode cX12_firstNew 38 = .ok (.iaload, 1) := by decide +kernel
theorem dX12_firstNew_39 : decode cX12_firstNew 39 = .ok (.if_icmp .le 7, 3) := by decide +kernel
theorem dX12_firstNew_42 : decode cX12_firstNew 42 = .ok (.iload_n 2, 1) := by decide +kernel
theorem dX12_firstNew_43 : decode cX12_firstNew 43 = .ok (.goto 4, 3) := by decide +kernel
theorem dX12_firstNew_46 : decode cX12_firstNew 46 = .ok (.iload_n 1, 1) := by decide +kernel
theorem dX12_firstNew_47 : decode cX12_firstNew 47 = .ok (.istore_n 1, 1) := by decide +kernel
theorem dX12_firstNew_48 : decode cX12_firstNew 48 = .ok (.iinc 2 (-1), 3) := by decide +kernel
theorem dX12_firstNew_51 : decode cX12_firstNew 51 = .ok (.goto (-39), 3) := by decide +kernel
theorem dX12_firstNew_54 : decode cX12_firstNew 54 = .ok (.iload_n 1, 1) := by decide +kernel
theorem dX12_firstNew_55 : decode cX12_firstNew 55 = .ok (.ireturn, 1) := by decide +kernel
theorem dX12_firstOut_0 : decode cX12_firstOut 0 = .ok (.iload_n 1, 1) := by decide +kernel
theorem dX12_firstOut_1 : decode cX12_firstOut 1 = .ok (.invokestatic 205, 3) := by decide +kernel
theorem dX12_firstOut_4 : decode cX12_firstOut 4 = .ok (.ifCond .eq 12, 3) := by decide +kernel
theorem dX12_firstOut_7 : decode cX12_firstOut 7 = .ok (.iload_n 2, 1) := by decide +kernel
theorem dX12_firstOut_8 : decode cX12_firstOut 8 = .ok (.iconst 0, 1) := by decide +kernel
theorem dX12_firstOut_9 : decode cX12_firstOut 9 = .ok (.iconst 1, 1) := by decide +kernel
theorem dX12_firstOut_10 : decode cX12_firstOut 10 = .ok (.invokestatic 73, 3) := by decide +kernel
theorem dX12_firstOut_13 : decode cX12_firstOut 13 = .ok (.ifCond .ne 5, 3) := by decide +kernel
theorem dX12_firstOut_16 : decode cX12_firstOut 16 = .ok (.iconst (-1), 1) := by decide +kernel
theorem dX12_firstOut_17 : decode cX12_firstOut 17 = .ok (.ireturn, 1) := by decide +kernel
theorem dX12_firstOut_18 : decode cX12_firstOut 18 = .ok (.aload_n 0, 1) := by decide +kernel
theorem dX12_firstOut_19 : decode cX12_firstOut 19 = .ok (.invokevirtual 195, 3) := by decide +kernel
theorem dX12_firstOut_22 : decode cX12_firstOut 22 = .ok (.iconst 1, 1) := by decide +kernel
theorem dX12_firstOut_23 : decode cX12_firstOut 23 = .ok (.istore_n 3, 1) := by decide +kernel
theorem dX12_firstOut_24 : decode cX12_firstOut 24 = .ok (.iload_n 3, 1) := by decide +kernel
theorem dX12_firstOut_25 : decode cX12_firstOut 25 = .ok (.bipush 60, 2) := by decide +kernel
theorem dX12_firstOut_27 : decode cX12_firstOut 27 = .ok (.if_icmp .gt 41, 3) := by decide +kernel
theorem dX12_firstOut_30 : decode cX12_firstOut 30 = .ok (.aload_n 0, 1) := by decide +kernel
theorem dX12_firstOut_31 : decode cX12_firstOut 31 = .ok (.aload_n 0, 1) := by decide +kernel
theorem dX12_firstOut_32 : decode cX12_firstOut 32 = .ok (.getfield 56, 3) := by decide +kernel
theorem dX12_firstOut_35 : decode cX12_firstOut 35 = .ok (.iconst 0, 1) := by decide +kernel
theorem dX12_firstOut_36 : decode cX12_firstOut 36 = .ok (.iload_n 1, 1) := by decide +kernel
theorem dX12_firstOut_37 : decode cX12_firstOut 37 = .ok (.invokevirtual 208, 3) := by decide +kernel
theorem dX12_firstOut_40 : decode cX12_firstOut 40 = .ok (.aload_n 0, 1) := by decide +kernel
theorem dX12_firstOut_41 : decode cX12_firstOut 41 = .ok (.invokevirtual 237, 3) := by decide +kernel
theorem dX12_firstOut_44 : decode cX12_firstOut 44 = .ok (.bipush (-9), 2) := by decide +kernel
theorem dX12_firstOut_46 : decode cX12_firstOut 46 = .ok (.if_icmp .eq 16, 3) := by decide +kernel
theorem dX12_firstOut_49 : decode cX12_firstOut 49 = .ok (.iload_n 2, 1) := by decide +kernel
theorem dX12_firstOut_50 : decode cX12_firstOut 50 = .ok (.ifCond .ne 7, 3) := by decide +kernel
theorem dX12_firstOut_53 : decode cX12_firstOut 53 = .ok (.iload_n 3, 1) := by decide +kernel
theorem dX12_firstOut_54 : decode cX12_firstOut 54 = .ok (.goto 7, 3) := by decide +kernel
theorem dX12_firstOut_57 : decode cX12_firstOut 57 = .ok (.aload_n 0, 1) := by decide +kernel
theorem dX12_firstOut_58 : decode cX12_firstOut 58 = .ok (.invokevirtual 237, 3) := by decide +kernel
theorem dX12_firstOut_61 : decode cX12_firstOut 61 = .ok (.ireturn, 1) := by decide +kernel
theorem dX12_firstOut_62 : decode cX12_firstOut 62 = .ok (.iinc 3 1, 3) := by decide +kernel
theorem dX12_firstOut_65 : decode cX12_firstOut 65 = .ok (.goto (-41), 3) := by decide +kernel
theorem dX12_firstOut_68 : decode cX12_firstOut 68 = .ok (.bipush (-9), 2) := by decide +kernel
theorem dX12_firstOut_70 : decode cX12_firstOut 70 = .ok (.ireturn, 1) := by decide +kernel
theorem dX12_holdsFor_0 : decode cX12_holdsFor 0 = .ok (.iload_n 1, 1) := by decide +kernel
theorem dX12_holdsFor_1 : decode cX12_holdsFor 1 = .ok (.invokestatic 205, 3) := by decide +kernel
theorem dX12_holdsFor_4 : decode cX12_holdsFor 4 = .ok (.ifCond .ne 5, 3) := by decide +kernel
theorem dX12_holdsFor_7 : decode cX12_holdsFor 7 = .ok (.iconst (-1), 1) := by decide +kernel
theorem dX12_holdsFor_8 : decode cX12_holdsFor 8 = .ok (.ireturn, 1) := by decide +kernel
theorem dX12_holdsFor_9 : decode cX12_holdsFor 9 = .ok (.aload_n 0, 1) := by decide +kernel
theorem dX12_holdsFor_10 : decode cX12_holdsFor 10 = .ok (.invokevirtual 182, 3) := by decide +kernel
theorem dX12_holdsFor_13 : decode cX12_holdsFor 13 = .ok (.aload_n 0, 1) := by decide +kernel
theorem dX12_holdsFor_14 : decode cX12_holdsFor 14 = .ok (.invokevirtual 195, 3) := by decide +kernel
theorem dX12_holdsFor_17 : decode cX12_holdsFor 17 = .ok (.iconst 0, 1) := by decide +kernel
theorem dX12_holdsFor_18 : decode cX12_holdsFor 18 = .ok (.istore_n 2, 1) := by decide +kernel
theorem dX12_holdsFor_19 : decode cX12_holdsFor 19 = .ok (.iload_n 2, 1) := by decide +kernel
theorem dX12_holdsFor_20 : decode cX12_holdsFor 20 = .ok (.bipush 60, 2) := by decide +kernel
theorem dX12_holdsFor_22 : decode cX12_holdsFor 22 = .ok (.if_icmp .gt 28, 3) := by decide +kernel
theorem dX12_holdsFor_25 : decode cX12_holdsFor 25 = .ok (.aload_n 0, 1) := by decide +kernel
theorem dX12_holdsFor_26 : decode cX12_holdsFor 26 = .ok (.invokevirtual 198, 3) := by decide +kernel
theorem dX12_holdsFor_29 : decode cX12_holdsFor 29 = .ok (.ifCond .ne 5, 3) := by decide +kernel
theorem dX12_holdsFor_32 : decode cX12_holdsFor 32 = .ok (.iload_n 2, 1) := by decide +kernel
theorem dX12_holdsFor_33 : decode cX12_holdsFor 33 = .ok (.ireturn, 1) := by decide +kernel
theorem dX12_holdsFor_34 : decode cX12_holdsFor 34 = .ok (.aload_n 0, 1) := by decide +kernel
theorem dX12_holdsFor_35 : decode cX12_holdsFor 35 = .ok (.aload_n 0, 1) := by decide +kernel
theorem dX12_holdsFor_36 : decode cX12_holdsFor 36 = .ok (.getfield 56, 3) := by decide +kernel
theorem dX12_holdsFor_39 : decode cX12_holdsFor 39 = .ok (.iconst 0, 1) := by decide +kernel
theorem dX12_holdsFor_40 : decode cX12_holdsFor 40 = .ok (.iload_n 1, 1) := by decide +kernel
theorem dX12_holdsFor_41 : decode cX12_holdsFor 41 = .ok (.invokevirtual 208, 3) := by decide +kernel
theorem dX12_holdsFor_44 : decode cX12_holdsFor 44 = .ok (.iinc 2 1, 3) := by decide +kernel
theorem dX12_holdsFor_47 : decode cX12_holdsFor 47 = .ok (.goto (-28), 3) := by decide +kernel
theorem dX12_holdsFor_50 : decode cX12_holdsFor 50 = .ok (.bipush (-9), 2) := by decide +kernel
theorem dX12_holdsFor_52 : decode cX12_holdsFor 52 = .ok (.ireturn, 1) := by decide +kernel
theorem dX12_outSet_0 : decode cX12_outSet 0 = .ok (.iconst 0, 1) := by decide +kernel
theorem dX12_outSet_1 : decode cX12_outSet 1 = .ok (.istore_n 1, 1) := by decide +kernel
theorem dX12_outSet_2 : decode cX12_outSet 2 = .ok (.iconst 0, 1) := by decide +kernel
theorem dX12_outSet_3 : decode cX12_outSet 3 = .ok (.istore_n 2, 1) := by decide +kernel
theorem dX12_outSet_4 : decode cX12_outSet 4 = .ok (.iload_n 2, 1) := by decide +kernel
theorem dX12_outSet_5 : decode cX12_outSet 5 = .ok (.iconst 2, 1) := by decide +kernel
theorem dX12_outSet_6 : decode cX12_outSet 6 = .ok (.aload_n 0, 1) := by decide +kernel
theorem dX12_outSet_7 : decode cX12_outSet 7 = .ok (.getfield 77, 3) := by decide +kernel
theorem dX12_outSet_10 : decode cX12_outSet 10 = .ok (.imul, 1) := by decide +kernel
theorem dX12_outSet_11 : decode cX12_outSet 11 = .ok (.if_icmp .ge 45, 3) := by decide +kernel
theorem dX12_outSet_14 : decode cX12_outSet 14 = .ok (.iload_n 1, 1) := by decide +kernel
theorem dX12_outSet_15 : decode cX12_outSet 15 = .ok (.aload_n 0, 1) := by decide +kernel
theorem dX12_outSet_16 : decode cX12_outSet 16 = .ok (.getfield 56, 3) := by decide +kernel
theorem dX12_outSet_19 : decode cX12_outSet 19 = .ok (.iconst 3, 1) := by decide +kernel
theorem dX12_outSet_20 : decode cX12_outSet 20 = .ok (.iload_n 2, 1) := by decide +kernel
theorem dX12_outSet_21 : decode cX12_outSet 21 = .ok (.imul, 1) := by decide +kernel
theorem dX12_outSet_22 : decode cX12_outSet 22 = .ok (.iconst 2, 1) := by decide +kernel
theorem dX12_outSet_23 : decode cX12_outSet 23 = .ok (.iadd, 1) := by decide +kernel
theorem dX12_outSet_24 : decode cX12_outSet 24 = .ok (.iaload, 1) := by decide +kernel
theorem dX12_outSet_25 : decode cX12_outSet 25 = .ok (.aload_n 0, 1) := by decide +kernel
theorem dX12_outSet_26 : decode cX12_outSet 26 = .ok (.getfield 19, 3) := by decide +kernel
theorem dX12_outSet_29 : decode cX12_outSet 29 = .ok (.bipush 6, 2) := by decide +kernel
theorem dX12_outSet_31 : decode cX12_outSet 31 = .ok (.iconst 3, 1) := by decide +kernel
theorem dX12_outSet_32 : decode cX12_outSet 32 = .ok (.iload_n 2, 1) := by decide +kernel
theorem dX12_outSet_33 : decode cX12_outSet 33 = .ok (.imul, 1) := by decide +kernel
theorem dX12_outSet_34 : decode cX12_outSet 34 = .ok (.iadd, 1) := by decide +kernel
theorem dX12_outSet_35 : decode cX12_outSet 35 = .ok (.iconst 2, 1) := by decide +kernel
theorem dX12_outSet_36 : decode cX12_outSet 36 = .ok (.iadd, 1) := by decide +kernel
theorem dX12_outSet_37 : decode cX12_outSet 37 = .ok (.iaload, 1) := by decide +kernel
theorem dX12_outSet_38 : decode cX12_outSet 38 = .ok (.if_icmp .le 9, 3) := by decide +kernel
theorem dX12_outSet_41 : decode cX12_outSet 41 = .ok (.iconst 1, 1) := by decide +kernel
theorem dX12_outSet_42 : decode cX12_outSet 42 = .ok (.iload_n 2, 1) := by decide +kernel
theorem dX12_outSet_43 : decode cX12_outSet 43 = .ok (.ishl, 1) := by decide +kernel
theorem dX12_outSet_44 : decode cX12_outSet 44 = .ok (.goto 4, 3) := by decide +kernel
theorem dX12_outSet_47 : decode cX12_outSet 47 = .ok (.iconst 0, 1) := by decide +kernel
theorem dX12_outSet_48 : decode cX12_outSet 48 = .ok (.ior, 1) := by decide +kernel
theorem dX12_outSet_49 : decode cX12_outSet 49 = .ok (.istore_n 1, 1) := by decide +kernel
theorem dX12_outSet_50 : decode cX12_outSet 50 = .ok (.iinc 2 1, 3) := by decide +kernel
theorem dX12_outSet_53 : decode cX12_outSet 53 = .ok (.goto (-49), 3) := by decide +kernel
theorem dX12_outSet_56 : decode cX12_outSet 56 = .ok (.iload_n 1, 1) := by decide +kernel
theorem dX12_outSet_57 : decode cX12_outSet 57 = .ok (.ireturn, 1) := by decide +kernel
theorem dX12_bolts_0 : decode cX12_bolts 0 = .ok (.iload_n 1, 1) := by decide +kernel
theorem dX12_bolts_1 : decode cX12_bolts 1 = .ok (.invokestatic 205, 3) := by decide +kernel
theorem dX12_bolts_4 : decode cX12_bolts 4 = .ok (.ifCond .eq 22, 3) := by decide +kernel
theorem dX12_bolts_7 : decode cX12_bolts 7 = .ok (.iload_n 2, 1) := by decide +kernel
theorem dX12_bolts_8 : decode cX12_bolts 8 = .ok (.iconst 1, 1) := by decide +kernel
theorem dX12_bolts_9 : decode cX12_bolts 9 = .ok (.bipush 30, 2) := by decide +kernel
theorem dX12_bolts_11 : decode cX12_bolts 11 = .ok (.invokestatic 73, 3) := by decide +kernel
theorem dX12_bolts_14 : decode cX12_bolts 14 = .ok (.ifCond .eq 12, 3) := by decide +kernel
theorem dX12_bolts_17 : decode cX12_bolts 17 = .ok (.iload_n 3, 1) := by decide +kernel
theorem dX12_bolts_18 : decode cX12_bolts 18 = .ok (.iconst 0, 1) := by decide +kernel
theorem dX12_bolts_19 : decode cX12_bolts 19 = .ok (.iconst 1, 1) := by decide +kernel
theorem dX12_bolts_20 : decode cX12_bolts 20 = .ok (.invokestatic 73, 3) := by decide +kernel
theorem dX12_bolts_23 : decode cX12_bolts 23 = .ok (.ifCond .ne 5, 3) := by decide +kernel
theorem dX12_bolts_26 : decode cX12_bolts 26 = .ok (.iconst (-1), 1) := by decide +kernel
theorem dX12_bolts_27 : decode cX12_bolts 27 = .ok (.ireturn, 1) := by decide +kernel
theorem dX12_bolts_28 : decode cX12_bolts 28 = .ok (.aload_n 0, 1) := by decide +kernel
theorem dX12_bolts_29 : decode cX12_bolts 29 = .ok (.invokevirtual 195, 3) := by decide +kernel
theorem dX12_bolts_32 : decode cX12_bolts 32 = .ok (.iconst 0, 1) := by decide +kernel
theorem dX12_bolts_33 : decode cX12_bolts 33 = .ok (.istore 4, 2) := by decide +kernel
theorem dX12_bolts_35 : decode cX12_bolts 35 = .ok (.iload 4, 2) := by decide +kernel
theorem dX12_bolts_37 : decode cX12_bolts 37 = .ok (.iload_n 2, 1) := by decide +kernel
theorem dX12_bolts_38 : decode cX12_bolts 38 = .ok (.if_icmp .ge 19, 3) := by decide +kernel
theorem dX12_bolts_41 : decode cX12_bolts 41 = .ok (.aload_n 0, 1) := by decide +kernel
theorem dX12_bolts_42 : decode cX12_bolts 42 = .ok (.aload_n 0, 1) := by decide +kernel
theorem dX12_bolts_43 : decode cX12_bolts 43 = .ok (.getfield 56, 3) := by decide +kernel
theorem dX12_bolts_46 : decode cX12_bolts 46 = .ok (.iconst 0, 1) := by decide +kernel
theorem dX12_bolts_47 : decode cX12_bolts 47 = .ok (.iload_n 1, 1) := by decide +kernel
theorem dX12_bolts_48 : decode cX12_bolts 48 = .ok (.invokevirtual 208, 3) := by decide +kernel
theorem dX12_bolts_51 : decode cX12_bolts 51 = .ok (.iinc 4 1, 3) := by decide +kernel
theorem dX12_bolts_54 : decode cX12_bolts 54 = .ok (.goto (-19), 3) := by decide +kernel
theorem dX12_bolts_57 : decode cX12_bolts 57 = .ok (.aload_n 0, 1) := by decide +kernel
theorem dX12_bolts_58 : decode cX12_bolts 58 = .ok (.invokevirtual 240, 3) := by decide +kernel
theorem dX12_bolts_61 : decode cX12_bolts 61 = .ok (.istore 4, 2) := by decide +kernel
theorem dX12_bolts_63 : decode cX12_bolts 63 = .ok (.iload_n 3, 1) := by decide +kernel
theorem dX12_bolts_64 : decode cX12_bolts 64 = .ok (.ifCond .ne 6, 3) := by decide +kernel
theorem dX12_bolts_67 : decode cX12_bolts 67 = .ok (.iload 4, 2) := by decide +kernel
theorem dX12_bolts_69 : decode cX12_bolts 69 = .ok (.ireturn, 1) := by decide +kernel
theorem dX12_bolts_70 : decode cX12_bolts 70 = .ok (.aload_n 0, 1) := by decide +kernel
theorem dX12_bolts_71 : decode cX12_bolts 71 = .ok (.invokevirtual 195, 3) := by decide +kernel
theorem dX12_bolts_74 : decode cX12_bolts 74 = .ok (.iconst 0, 1) := by decide +kernel
theorem dX12_bolts_75 : decode cX12_bolts 75 = .ok (.istore 5, 2) := by decide +kernel
theorem dX12_bolts_77 : decode cX12_bolts 77 = .ok (.iload 5, 2) := by decide +kernel
theorem dX12_bolts_79 : decode cX12_bolts 79 = .ok (.iconst 2, 1) := by decide +kernel
theorem dX12_bolts_80 : decode cX12_bolts 80 = .ok (.aload_n 0, 1) := by decide +kernel
theorem dX12_bolts_81 : decode cX12_bolts 81 = .ok (.getfield 77, 3) := by decide +kernel
theorem dX12_bolts_84 : decode cX12_bolts 84 = .ok (.imul, 1) := by decide +kernel
theorem dX12_bolts_85 : decode cX12_bolts 85 = .ok (.if_icmp .ge 45, 3) := by decide +kernel
theorem dX12_bolts_88 : decode cX12_bolts 88 = .ok (.aload_n 0, 1) := by decide +kernel
theorem dX12_bolts_89 : decode cX12_bolts 89 = .ok (.getfield 56, 3) := by decide +kernel
theorem dX12_bolts_92 : decode cX12_bolts 92 = .ok (.iconst 3, 1) := by decide +kernel
theorem dX12_bolts_93 : decode cX12_bolts 93 = .ok (.iload 5, 2) := by decide +kernel
theorem dX12_bolts_95 : decode cX12_bolts 95 = .ok (.imul, 1) := by decide +kernel
theorem dX12_bolts_96 : decode cX12_bolts 96 = .ok (.iconst 2, 1) := by decide +kernel
theorem dX12_bolts_97 : decode cX12_bolts 97 = .ok (.iadd, 1) := by decide +kernel
theorem dX12_bolts_98 : decode cX12_bolts 98 = .ok (.iaload, 1) := by decide +kernel
theorem dX12_bolts_99 : decode cX12_bolts 99 = .ok (.ifCond .ne 25, 3) := by decide +kernel
theorem dX12_bolts_102 : decode cX12_bolts 102 = .ok (.aload_n 0, 1) := by decide +kernel
theorem dX12_bolts_103 : decode cX12_bolts 103 = .ok (.getfield 56, 3) := by decide +kernel
theorem dX12_bolts_106 : decode cX12_bolts 106 = .ok (.iconst 3, 1) := by decide +kernel
theorem dX12_bolts_107 : decode cX12_bolts 107 = .ok (.iload 5, 2) := by decide +kernel
theorem dX12_bolts_109 : decode cX12_bolts 109 = .ok (.imul, 1) := by decide +kernel
theorem dX12_bolts_110 : decode cX12_bolts 110 = .ok (.iconst 3, 1) := by decide +kernel
theorem dX12_bolts_111 : decode cX12_bolts 111 = .ok (.iastore, 1) := by decide +kernel
theorem dX12_bolts_112 : decode cX12_bolts 112 = .ok (.aload_n 0, 1) := by decide +kernel
theorem dX12_bolts_113 : decode cX12_bolts 113 = .ok (.getfield 56, 3) := by decide +kernel
theorem dX12_bolts_116 : decode cX12_bolts 116 = .ok (.iconst 3, 1) := by decide +kernel
theorem dX12_bolts_117 : decode cX12_bolts 117 = .ok (.iload 5, 2) := by decide +kernel
theorem dX12_bolts_119 : decode cX12_bolts 119 = .ok (.imul, 1) := by decide +kernel
theorem dX12_bolts_120 : decode cX12_bolts 120 = .ok (.iconst 1, 1) := by decide +kernel
theorem dX12_bolts_121 : decode cX12_bolts 121 = .ok (.iadd, 1) := by decide +kernel
theorem dX12_bolts_122 : decode cX12_bolts 122 = .ok (.iconst 0, 1) := by decide +kernel
theorem dX12_bolts_123 : decode cX12_bolts 123 = .ok (.iastore, 1) := by decide +kernel
theorem dX12_bolts_124 : decode cX12_bolts 124 = .ok (.iinc 5 1, 3) := by decide +kernel
theorem dX12_bolts_127 : decode cX12_bolts 127 = .ok (.goto (-50), 3) := by decide +kernel
theorem dX12_bolts_130 : decode cX12_bolts 130 = .ok (.iconst 0, 1) := by decide +kernel
theorem dX12_bolts_131 : decode cX12_bolts 131 = .ok (.istore 5, 2) := by decide +kernel
theorem dX12_bolts_133 : decode cX12_bolts 133 = .ok (.iload 5, 2) := by decide +kernel
theorem dX12_bolts_135 : decode cX12_bolts 135 = .ok (.iload_n 2, 1) := by decide +kernel
theorem dX12_bolts_136 : decode cX12_bolts 136 = .ok (.if_icmp .ge 19, 3) := by decide +kernel
theorem dX12_bolts_139 : decode cX12_bolts 139 = .ok (.aload_n 0, 1) := by decide +kernel
theorem dX12_bolts_140 : decode cX12_bolts 140 = .ok (.aload_n 0, 1) := by decide +kernel
theorem dX12_bolts_141 : decode cX12_bolts 141 = .ok (.getfield 56, 3) := by decide +kernel
theorem dX12_bolts_144 : decode cX12_bolts 144 = .ok (.iconst 0, 1) := by decide +kernel
theorem dX12_bolts_145 : decode cX12_bolts 145 = .ok (.iload_n 1, 1) := by decide +kernel
theorem dX12_bolts_146 : decode cX12_bolts 146 = .ok (.invokevirtual 208, 3) := by decide +kernel
theorem dX12_bolts_149 : decode cX12_bolts 149 = .ok (.iinc 5 1, 3) := by decide +kernel
theorem dX12_bolts_152 : decode cX12_bolts 152 = .ok (.goto (-19), 3) := by decide +kernel
theorem dX12_bolts_155 : decode cX12_bolts 155 = .ok (.iload 4, 2) := by decide +kernel
theorem dX12_bolts_157 : decode cX12_bolts 157 = .ok (.aload_n 0, 1) := by decide +kernel
theorem dX12_bolts_158 : decode cX12_bolts 158 = .ok (.invokevirtual 240, 3) := by decide +kernel
theorem dX12_bolts_161 : decode cX12_bolts 161 = .ok (.iconst (-1), 1) := by decide +kernel
theorem dX12_bolts_162 : decode cX12_bolts 162 = .ok (.ixor, 1) := by decide +kernel
theorem dX12_bolts_163 : decode cX12_bolts 163 = .ok (.iand, 1) := by decide +kernel
theorem dX12_bolts_164 : decode cX12_bolts 164 = .ok (.ireturn, 1) := by decide +kernel
theorem dX12_stays_0 : decode cX12_stays 0 = .ok (.iconst 0, 1) := by decide +kernel
theorem dX12_stays_1 : decode cX12_stays 1 = .ok (.istore 5, 2) := by decide +kernel
theorem dX12_stays_3 : decode cX12_stays 3 = .ok (.iload 5, 2) := by decide +kernel
theorem dX12_stays_5 : decode cX12_stays 5 = .ok (.bipush 64, 2) := by decide +kernel
theorem dX12_stays_7 : decode cX12_stays 7 = .ok (.if_icmp .ge 27, 3) := by decide +kernel
theorem dX12_stays_10 : decode cX12_stays 10 = .ok (.aload_n 0, 1) := by decide +kernel
theorem dX12_stays_11 : decode cX12_stays 11 = .ok (.getfield 59, 3) := by decide +kernel
theorem dX12_stays_14 : decode cX12_stays 14 = .ok (.iload 5, 2) := by decide +kernel
theorem dX12_stays_16 : decode cX12_stays 16 = .ok (.iload 5, 2) := by decide +kernel
theorem dX12_stays_18 : decode cX12_stays 18 = .ok (.iload_n 2, 1) := by decide +kernel
theorem dX12_stays_19 : decode cX12_stays 19 = .ok (.if_icmp .ne 7, 3) := by decide +kernel
theorem dX12_stays_22 : decode cX12_stays 22 = .ok (.lconst 1, 1) := by decide +kernel
theorem dX12_stays_23 : decode cX12_stays 23 = .ok (.goto 4, 3) := by decide +kernel
theorem dX12_stays_26 : decode cX12_stays 26 = .ok (.lconst 0, 1) := by decide +kernel
theorem dX12_stays_27 : decode cX12_stays 27 = .ok (.lastore, 1) := by decide +kernel
theorem dX12_stays_28 : decode cX12_stays 28 = .ok (.iinc 5 1, 3) := by decide +kernel
theorem dX12_stays_31 : decode cX12_stays 31 = .ok (.goto (-28), 3) := by decide +kernel
theorem dX12_stays_34 : decode cX12_stays 34 = .ok (.iconst 0, 1) := by decide +kernel
theorem dX12_stays_35 : decode cX12_stays 35 = .ok (.istore 5, 2) := by decide +kernel
theorem dX12_stays_37 : decode cX12_stays 37 = .ok (.iload 5, 2) := by decide +kernel
theorem dX12_stays_39 : decode cX12_stays 39 = .ok (.iload 4, 2) := by decide +kernel
theorem dX12_stays_41 : decode cX12_stays 41 = .ok (.if_icmp .ge 139, 3) := by decide +kernel
theorem dX12_stays_44 : decode cX12_stays 44 = .ok (.iconst 0, 1) := by decide +kernel
theorem dX12_stays_45 : decode cX12_stays 45 = .ok (.istore 6, 2) := by decide +kernel
theorem dX12_stays_47 : decode cX12_stays 47 = .ok (.iload 6, 2) := by decide +kernel
theorem dX12_stays_49 : decode cX12_stays 49 = .ok (.bipush 64, 2) := by decide +kernel
theorem dX12_stays_51 : decode cX12_stays 51 = .ok (.if_icmp .ge 17, 3) := by decide +kernel
theorem dX12_stays_54 : decode cX12_stays 54 = .ok (.aload_n 0, 1) := by decide +kernel
theorem dX12_stays_55 : decode cX12_stays 55 = .ok (.getfield 63, 3) := by decide +kernel
theorem dX12_stays_58 : decode cX12_stays 58 = .ok (.iload 6, 2) := by decide +kernel
theorem dX12_stays_60 : decode cX12_stays 60 = .ok (.lconst 0, 1) := by decide +kernel
theorem dX12_stays_61 : decode cX12_stays 61 = .ok (.lastore, 1) := by decide +kernel
theorem dX12_stays_62 : decode cX12_stays 62 = .ok (.iinc 6 1, 3) := by decide +kernel
theorem dX12_stays_65 : decode cX12_stays 65 = .ok (.goto (-18), 3) := by decide +kernel
theorem dX12_stays_68 : decode cX12_stays 68 = .ok (.iconst 0, 1) := by decide +kernel
theorem dX12_stays_69 : decode cX12_stays 69 = .ok (.istore 6, 2) := by decide +kernel
theorem dX12_stays_71 : decode cX12_stays 71 = .ok (.iload 6, 2) := by decide +kernel
theorem dX12_stays_73 : decode cX12_stays 73 = .ok (.iload_n 1, 1) := by decide +kernel
theorem dX12_stays_74 : decode cX12_stays 74 = .ok (.invokestatic 168, 3) := by decide +kernel
theorem dX12_stays_77 : decode cX12_stays 77 = .ok (.if_icmp .ge 54, 3) := by decide +kernel
theorem dX12_stays_80 : decode cX12_stays 80 = .ok (.iconst 1, 1) := by decide +kernel
theorem dX12_stays_81 : decode cX12_stays 81 = .ok (.istore 7, 2) := by decide +kernel
theorem dX12_stays_83 : decode cX12_stays 83 = .ok (.iload 7, 2) := by decide +kernel
theorem dX12_stays_85 : decode cX12_stays 85 = .ok (.bipush 7, 2) := by decide +kernel
theorem dX12_stays_87 : decode cX12_stays 87 = .ok (.if_icmp .ge 38, 3) := by decide +kernel
theorem dX12_stays_90 : decode cX12_stays 90 = .ok (.iload 6, 2) := by decide +kernel
theorem dX12_stays_92 : decode cX12_stays 92 = .ok (.iload_n 1, 1) := by decide +kernel
theorem dX12_stays_93 : decode cX12_stays 93 = .ok (.iload_n 3, 1) := by decide +kernel
theorem dX12_stays_94 : decode cX12_stays 94 = .ok (.iload 7, 2) := by decide +kernel
theorem dX12_stays_96 : decode cX12_stays 96 = .ok (.invokestatic 164, 3) := by decide +kernel
theorem dX12_stays_99 : decode cX12_stays 99 = .ok (.iadd, 1) := by decide +kernel
theorem dX12_stays_100 : decode cX12_stays 100 = .ok (.istore 8, 2) := by decide +kernel
theorem dX12_stays_102 : decode cX12_stays 102 = .ok (.aload_n 0, 1) := by decide +kernel
theorem dX12_stays_103 : decode cX12_stays 103 = .ok (.getfield 63, 3) := by decide +kernel
theorem dX12_stays_106 : decode cX12_stays 106 = .ok (.iload 8, 2) := by decide +kernel
theorem dX12_stays_108 : decode cX12_stays 108 = .ok (.dup2, 1) := by decide +kernel
theorem dX12_stays_109 : decode cX12_stays 109 = .ok (.laload, 1) := by decide +kernel
theorem dX12_stays_110 : decode cX12_stays 110 = .ok (.aload_n 0, 1) := by decide +kernel
theorem dX12_stays_111 : decode cX12_stays 111 = .ok (.getfield 59, 3) := by decide +kernel
theorem dX12_stays_114 : decode cX12_stays 114 = .ok (.iload 6, 2) := by decide +kernel
theorem dX12_stays_116 : decode cX12_stays 116 = .ok (.laload, 1) := by decide +kernel
theorem dX12_stays_117 : decode cX12_stays 117 = .ok (.ladd, 1) := by decide +kernel
theorem dX12_stays_118 : decode cX12_stays 118 = .ok (.lastore, 1) := by decide +kernel
theorem dX12_stays_119 : decode cX12_stays 119 = .ok (.iinc 7 1, 3) := by decide +kernel
theorem dX12_stays_122 : decode cX12_stays 122 = .ok (.goto (-39), 3) := by decide +kernel
theorem dX12_stays_125 : decode cX12_stays 125 = .ok (.iinc 6 1, 3) := by decide +kernel
theorem dX12_stays_128 : decode cX12_stays 128 = .ok (.goto (-57), 3) := by decide +kernel
theorem dX12_stays_131 : decode cX12_stays 131 = .ok (.iconst 0, 1) := by decide +kernel
theorem dX12_stays_132 : decode cX12_stays 132 = .ok (.istore 6, 2) := by decide +kernel
theorem dX12_stays_134 : decode cX12_stays 134 = .ok (.iload 6, 2) := by decide +kernel
theorem dX12_stays_136 : decode cX12_stays 136 = .ok (.bipush 64, 2) := by decide +kernel
theorem dX12_stays_138 : decode cX12_stays 138 = .ok (.if_icmp .ge 36, 3) := by decide +kernel
theorem dX12_stays_141 : decode cX12_stays 141 = .ok (.aload_n 0, 1) := by decide +kernel
theorem dX12_stays_142 : decode cX12_stays 142 = .ok (.getfield 59, 3) := by decide +kernel
theorem dX12_stays_145 : decode cX12_stays 145 = .ok (.iload 6, 2) := by decide +kernel
theorem dX12_stays_147 : decode cX12_stays 147 = .ok (.iload 6, 2) := by decide +kernel
theorem dX12_stays_149 : decode cX12_stays 149 = .ok (.iload_n 1, 1) := by decide +kernel
theorem dX12_stays_150 : decode cX12_stays 150 = .ok (.invokestatic 168, 3) := by decide +kernel
theorem dX12_stays_153 : decode cX12_stays 153 = .ok (.if_icmp .ge 13, 3) := by decide +kernel
theorem dX12_stays_156 : decode cX12_stays 156 = .ok (.aload_n 0, 1) := by decide +kernel
theorem dX12_stays_157 : decode cX12_stays 157 = .ok (.getfield 63, 3) := by decide +kernel
theorem dX12_stays_160 : decode cX12_stays 160 = .ok (.iload 6, 2) := by decide +kernel
theorem dX12_stays_162 : decode cX12_stays 162 = .ok (.laload, 1) := by decide +kernel
theorem dX12_stays_163 : decode cX12_stays 163 = .ok (.goto 4, 3) := by decide +kernel
theorem dX12_stays_166 : decode cX12_stays 166 = .ok (.lconst 0, 1) := by decide +kernel
theorem dX12_stays_167 : decode cX12_stays 167 = .ok (.lastore, 1) := by decide +kernel
theorem dX12_stays_168 : decode cX12_stays 168 = .ok (.iinc 6 1, 3) := by decide +kernel
theorem dX12_stays_171 : decode cX12_stays 171 = .ok (.goto (-37), 3) := by decide +kernel
theorem dX12_stays_174 : decode cX12_stays 174 = .ok (.iinc 5 1, 3) := by decide +kernel
theorem dX12_stays_177 : decode cX12_stays 177 = .ok (.goto (-140), 3) := by decide +kernel
theorem dX12_stays_180 : decode cX12_stays 180 = .ok (.lconst 0, 1) := by decide +kernel
theorem dX12_stays_181 : decode cX12_stays 181 = .ok (.lstore 5, 2) := by decide +kernel
theorem dX12_stays_183 : decode cX12_stays 183 = .ok (.iconst 0, 1) := by decide +kernel
theorem dX12_stays_184 : decode cX12_stays 184 = .ok (.istore 7, 2) := by decide +kernel
theorem dX12_stays_186 : decode cX12_stays 186 = .ok (.iload 7, 2) := by decide +kernel
theorem dX12_stays_188 : decode cX12_stays 188 = .ok (.bipush 64, 2) := by decide +kernel
theorem dX12_stays_190 : decode cX12_stays 190 = .ok (.if_icmp .ge 21, 3) := by decide +kernel
theorem dX12_stays_193 : decode cX12_stays 193 = .ok (.lload 5, 2) := by decide +kernel
theorem dX12_stays_195 : decode cX12_stays 195 = .ok (.aload_n 0, 1) := by decide +kernel
theorem dX12_stays_196 : decode cX12_stays 196 = .ok (.getfield 59, 3) := by decide +kernel
theorem dX12_stays_199 : decode cX12_stays 199 = .ok (.iload 7, 2) := by decide +kernel
theorem dX12_stays_201 : decode cX12_stays 201 = .ok (.laload, 1) := by decide +kernel
theorem dX12_stays_202 : decode cX12_stays 202 = .ok (.ladd, 1) := by decide +kernel
theorem dX12_stays_203 : decode cX12_stays 203 = .ok (.lstore 5, 2) := by decide +kernel
theorem dX12_stays_205 : decode cX12_stays 205 = .ok (.iinc 7 1, 3) := by decide +kernel
theorem dX12_stays_208 : decode cX12_stays 208 = .ok (.goto (-22), 3) := by decide +kernel
theorem dX12_stays_211 : decode cX12_stays 211 = .ok (.lload 5, 2) := by decide +kernel
theorem dX12_stays_213 : decode cX12_stays 213 = .ok (.lreturn, 1) := by decide +kernel
theorem dX12_odds_0 : decode cX12_odds 0 = .ok (.aload_n 0, 1) := by decide +kernel
theorem dX12_odds_1 : decode cX12_odds 1 = .ok (.iload_n 1, 1) := by decide +kernel
theorem dX12_odds_2 : decode cX12_odds 2 = .ok (.invokevirtual 185, 3) := by decide +kernel
theorem dX12_odds_5 : decode cX12_odds 5 = .ok (.ifCond .eq 32, 3) := by decide +kernel
theorem dX12_odds_8 : decode cX12_odds 8 = .ok (.iload_n 2, 1) := by decide +kernel
theorem dX12_odds_9 : decode cX12_odds 9 = .ok (.iconst 0, 1) := by decide +kernel
theorem dX12_odds_10 : decode cX12_odds 10 = .ok (.iconst 1, 1) := by decide +kernel
theorem dX12_odds_11 : decode cX12_odds 11 = .ok (.invokestatic 73, 3) := by decide +kernel
theorem dX12_odds_14 : decode cX12_odds 14 = .ok (.ifCond .eq 23, 3) := by decide +kernel
theorem dX12_odds_17 : decode cX12_odds 17 = .ok (.iload_n 3, 1) := by decide +kernel
theorem dX12_odds_18 : decode cX12_odds 18 = .ok (.iconst 0, 1) := by decide +kernel
theorem dX12_odds_19 : decode cX12_odds 19 = .ok (.bipush 6, 2) := by decide +kernel
theorem dX12_odds_21 : decode cX12_odds 21 = .ok (.invokestatic 73, 3) := by decide +kernel
theorem dX12_odds_24 : decode cX12_odds 24 = .ok (.ifCond .eq 13, 3) := by decide +kernel
theorem dX12_odds_27 : decode cX12_odds 27 = .ok (.iload 4, 2) := by decide +kernel
theorem dX12_odds_29 : decode cX12_odds 29 = .ok (.iconst 0, 1) := by decide +kernel
theorem dX12_odds_30 : decode cX12_odds 30 = .ok (.iconst 1, 1) := by decide +kernel
theorem dX12_odds_31 : decode cX12_odds 31 = .ok (.invokestatic 73, 3) := by decide +kernel
theorem dX12_odds_34 : decode cX12_odds 34 = .ok (.ifCond .ne 7, 3) := by decide +kernel
theorem dX12_odds_37 : decode cX12_odds 37 = .ok (.ldc2_w 243, 3) := by decide +kernel
theorem dX12_odds_40 : decode cX12_odds 40 = .ok (.lreturn, 1) := by decide +kernel
theorem dX12_odds_41 : decode cX12_odds 41 = .ok (.iload_n 1, 1) := by decide +kernel
theorem dX12_odds_42 : decode cX12_odds 42 = .ok (.iload_n 2, 1) := by decide +kernel
theorem dX12_odds_43 : decode cX12_odds 43 = .ok (.invokestatic 188, 3) := by decide +kernel
theorem dX12_odds_46 : decode cX12_odds 46 = .ok (.istore 5, 2) := by decide +kernel
theorem dX12_odds_48 : decode cX12_odds 48 = .ok (.aload_n 0, 1) := by decide +kernel
theorem dX12_odds_49 : decode cX12_odds 49 = .ok (.getfield 19, 3) := by decide +kernel
theorem dX12_odds_52 : decode cX12_odds 52 = .ok (.iload 5, 2) := by decide +kernel
theorem dX12_odds_54 : decode cX12_odds 54 = .ok (.iconst 2, 1) := by decide +kernel
theorem dX12_odds_55 : decode cX12_odds 55 = .ok (.iadd, 1) := by decide +kernel
theorem dX12_odds_56 : decode cX12_odds 56 = .ok (.iaload, 1) := by decide +kernel
theorem dX12_odds_57 : decode cX12_odds 57 = .ok (.iconst 1, 1) := by decide +kernel
theorem dX12_odds_58 : decode cX12_odds 58 = .ok (.if_icmp .ne 7, 3) := by decide +kernel
theorem dX12_odds_61 : decode cX12_odds 61 = .ok (.ldc2_w 245, 3) := by decide +kernel
theorem dX12_odds_64 : decode cX12_odds 64 = .ok (.lreturn, 1) := by decide +kernel
theorem dX12_odds_65 : decode cX12_odds 65 = .ok (.lconst 1, 1) := by decide +kernel
theorem dX12_odds_66 : decode cX12_odds 66 = .ok (.lstore 6, 2) := by decide +kernel
theorem dX12_odds_68 : decode cX12_odds 68 = .ok (.iconst 0, 1) := by decide +kernel
theorem dX12_odds_69 : decode cX12_odds 69 = .ok (.istore 8, 2) := by decide +kernel
theorem dX12_odds_71 : decode cX12_odds 71 = .ok (.iload 8, 2) := by decide +kernel
theorem dX12_odds_73 : decode cX12_odds 73 = .ok (.iload_n 3, 1) := by decide +kernel
theorem dX12_odds_74 : decode cX12_odds 74 = .ok (.if_icmp .ge 17, 3) := by decide +kernel
theorem dX12_odds_77 : decode cX12_odds 77 = .ok (.lload 6, 2) := by decide +kernel
theorem dX12_odds_79 : decode cX12_odds 79 = .ok (.ldc2_w 247, 3) := by decide +kernel
theorem dX12_odds_82 : decode cX12_odds 82 = .ok (.lmul, 1) := by decide +kernel
theorem dX12_odds_83 : decode cX12_odds 83 = .ok (.lstore 6, 2) := by decide +kernel
theorem dX12_odds_85 : decode cX12_odds 85 = .ok (.iinc 8 1, 3) := by decide +kernel
theorem dX12_odds_88 : decode cX12_odds 88 = .ok (.goto (-17), 3) := by decide +kernel
theorem dX12_odds_91 : decode cX12_odds 91 = .ok (.aload_n 0, 1) := by decide +kernel
theorem dX12_odds_92 : decode cX12_odds 92 = .ok (.getfield 19, 3) := by decide +kernel
theorem dX12_odds_95 : decode cX12_odds 95 = .ok (.iload 5, 2) := by decide +kernel
theorem dX12_odds_97 : decode cX12_odds 97 = .ok (.iaload, 1) := by decide +kernel
theorem dX12_odds_98 : decode cX12_odds 98 = .ok (.ifCond .ne 8, 3) := by decide +kernel
theorem dX12_odds_101 : decode cX12_odds 101 = .ok (.lload 6, 2) := by decide +kernel
theorem dX12_odds_103 : decode cX12_odds 103 = .ok (.goto 33, 3) := by decide +kernel
theorem dX12_odds_106 : decode cX12_odds 106 = .ok (.aload_n 0, 1) := by decide +kernel
theorem dX12_odds_107 : decode cX12_odds 107 = .ok (.aload_n 0, 1) := by decide +kernel
theorem dX12_odds_108 : decode cX12_odds 108 = .ok (.getfield 19, 3) := by decide +kernel
theorem dX12_odds_111 : decode cX12_odds 111 = .ok (.iload 5, 2) := by decide +kernel
theorem dX12_odds_113 : decode cX12_odds 113 = .ok (.iaload, 1) := by decide +kernel
theorem dX12_odds_114 : decode cX12_odds 114 = .ok (.aload_n 0, 1) := by decide +kernel
theorem dX12_odds_115 : decode cX12_odds 115 = .ok (.getfield 19, 3) := by decide +kernel
theorem dX12_odds_118 : decode cX12_odds 118 = .ok (.iload 5, 2) := by decide +kernel
theorem dX12_odds_120 : decode cX12_odds 120 = .ok (.iconst 1, 1) := by decide +kernel
theorem dX12_odds_121 : decode cX12_odds 121 = .ok (.iadd, 1) := by decide +kernel
theorem dX12_odds_122 : decode cX12_odds 122 = .ok (.iaload, 1) := by decide +kernel
theorem dX12_odds_123 : decode cX12_odds 123 = .ok (.aload_n 0, 1) := by decide +kernel
theorem dX12_odds_124 : decode cX12_odds 124 = .ok (.iconst 2, 1) := by decide +kernel
theorem dX12_odds_125 : decode cX12_odds 125 = .ok (.iload_n 1, 1) := by decide +kernel
theorem dX12_odds_126 : decode cX12_odds 126 = .ok (.imul, 1) := by decide +kernel
theorem dX12_odds_127 : decode cX12_odds 127 = .ok (.iload_n 2, 1) := by decide +kernel
theorem dX12_odds_128 : decode cX12_odds 128 = .ok (.iadd, 1) := by decide +kernel
theorem dX12_odds_129 : decode cX12_odds 129 = .ok (.invokevirtual 171, 3) := by decide +kernel
theorem dX12_odds_132 : decode cX12_odds 132 = .ok (.iload_n 3, 1) := by decide +kernel
theorem dX12_odds_133 : decode cX12_odds 133 = .ok (.invokevirtual 249, 3) := by decide +kernel
theorem dX12_odds_136 : decode cX12_odds 136 = .ok (.lstore 8, 2) := by decide +kernel
theorem dX12_odds_138 : decode cX12_odds 138 = .ok (.lload 8, 2) := by decide +kernel
theorem dX12_odds_140 : decode cX12_odds 140 = .ok (.lstore 10, 2) := by decide +kernel
theorem dX12_odds_142 : decode cX12_odds 142 = .ok (.lload 6, 2) := by decide +kernel
theorem dX12_odds_144 : decode cX12_odds 144 = .ok (.lstore 12, 2) := by decide +kernel
theorem dX12_odds_146 : decode cX12_odds 146 = .ok (.lload 12, 2) := by decide +kernel
theorem dX12_odds_148 : decode cX12_odds 148 = .ok (.lconst 0, 1) := by decide +kernel
theorem dX12_odds_149 : decode cX12_odds 149 = .ok (.lcmp, 1) := by decide +kernel
theorem dX12_odds_150 : decode cX12_odds 150 = .ok (.ifCond .le 21, 3) := by decide +kernel
theorem dX12_odds_153 : decode cX12_odds 153 = .ok (.lload 10, 2) := by decide +kernel
theorem dX12_odds_155 : decode cX12_odds 155 = .ok (.lload 12, 2) := by decide +kernel
theorem dX12_odds_157 : decode cX12_odds 157 = .ok (.lrem, 1) := by decide +kernel
theorem dX12_odds_158 : decode cX12_odds 158 = .ok (.lstore 14, 2) := by decide +kernel
theorem dX12_odds_160 : decode cX12_odds 160 = .ok (.lload 12, 2) := by decide +kernel
theorem dX12_odds_162 : decode cX12_odds 162 = .ok (.lstore 10, 2) := by decide +kernel
theorem dX12_odds_164 : decode cX12_odds 164 = .ok (.lload 14, 2) := by decide +kernel
theorem dX12_odds_166 : decode cX12_odds 166 = .ok (.lstore 12, 2) := by decide +kernel
theorem dX12_odds_168 : decode cX12_odds 168 = .ok (.goto (-22), 3) := by decide +kernel
theorem dX12_odds_171 : decode cX12_odds 171 = .ok (.iload 4, 2) := by decide +kernel
theorem dX12_odds_173 : decode cX12_odds 173 = .ok (.ifCond .ne 8, 3) := by decide +kernel
theorem dX12_odds_176 : decode cX12_odds 176 = .ok (.lload 8, 2) := by decide +kernel
theorem dX12_odds_178 : decode cX12_odds 178 = .ok (.goto 5, 3) := by decide +kernel
theorem dX12_odds_181 : decode cX12_odds 181 = .ok (.lload 6, 2) := by decide +kernel
theorem dX12_odds_183 : decode cX12_odds 183 = .ok (.lload 10, 2) := by decide +kernel
theorem dX12_odds_185 : decode cX12_odds 185 = .ok (.ldiv, 1) := by decide +kernel
theorem dX12_odds_186 : decode cX12_odds 186 = .ok (.lreturn, 1) := by decide +kernel
theorem dX12_mayLay_0 : decode cX12_mayLay 0 = .ok (.iconst 1, 1) := by decide +kernel
theorem dX12_mayLay_1 : decode cX12_mayLay 1 = .ok (.istore_n 3, 1) := by decide +kernel
theorem dX12_mayLay_2 : decode cX12_mayLay 2 = .ok (.iconst 0, 1) := by decide +kernel
theorem dX12_mayLay_3 : decode cX12_mayLay 3 = .ok (.istore 4, 2) := by decide +kernel
theorem dX12_mayLay_5 : decode cX12_mayLay 5 = .ok (.iload 4, 2) := by decide +kernel
theorem dX12_mayLay_7 : decode cX12_mayLay 7 = .ok (.aload_n 0, 1) := by decide +kernel
theorem dX12_mayLay_8 : decode cX12_mayLay 8 = .ok (.getfield 77, 3) := by decide +kernel
theorem dX12_mayLay_11 : decode cX12_mayLay 11 = .ok (.if_icmp .ge 50, 3) := by decide +kernel
theorem dX12_mayLay_14 : decode cX12_mayLay 14 = .ok (.iload_n 3, 1) := by decide +kernel
theorem dX12_mayLay_15 : decode cX12_mayLay 15 = .ok (.iload_n 1, 1) := by decide +kernel
theorem dX12_mayLay_16 : decode cX12_mayLay 16 = .ok (.iload 4, 2) := by decide +kernel
theorem dX12_mayLay_18 : decode cX12_mayLay 18 = .ok (.invokestatic 253, 3) := by decide +kernel
theorem dX12_mayLay_21 : decode cX12_mayLay 21 = .ok (.ifCond .eq 31, 3) := by decide +kernel
theorem dX12_mayLay_24 : decode cX12_mayLay 24 = .ok (.iconst 1, 1) := by decide +kernel
theorem dX12_mayLay_25 : decode cX12_mayLay 25 = .ok (.aload_n 0, 1) := by decide +kernel
theorem dX12_mayLay_26 : decode cX12_mayLay 26 = .ok (.getfield 13, 3) := by decide +kernel
theorem dX12_mayLay_29 : decode cX12_mayLay 29 = .ok (.iconst 3, 1) := by decide +kernel
theorem dX12_mayLay_30 : decode cX12_mayLay 30 = .ok (.iload 4, 2) := by decide +kernel
theorem dX12_mayLay_32 : decode cX12_mayLay 32 = .ok (.imul, 1) := by decide +kernel
theorem dX12_mayLay_33 : decode cX12_mayLay 33 = .ok (.iaload, 1) := by decide +kernel
theorem dX12_mayLay_34 : decode cX12_mayLay 34 = .ok (.ishl, 1) := by decide +kernel
theorem dX12_mayLay_35 : decode cX12_mayLay 35 = .ok (.iconst 1, 1) := by decide +kernel
theorem dX12_mayLay_36 : decode cX12_mayLay 36 = .ok (.aload_n 0, 1) := by decide +kernel
theorem dX12_mayLay_37 : decode cX12_mayLay 37 = .ok (.getfield 13, 3) := by decide +kernel
theorem dX12_mayLay_40 : decode cX12_mayLay 40 = .ok (.iconst 3, 1) := by decide +kernel
theorem dX12_mayLay_41 : decode cX12_mayLay 41 = .ok (.iload 4, 2) := by decide +kernel
theorem dX12_mayLay_43 : decode cX12_mayLay 43 = .ok (.imul, 1) := by decide +kernel
theorem dX12_mayLay_44 : decode cX12_mayLay 44 = .ok (.iconst 1, 1) := by decide +kernel
theorem dX12_mayLay_45 : decode cX12_mayLay 45 = .ok (.iadd, 1) := by decide +kernel
theorem dX12_mayLay_46 : decode cX12_mayLay 46 = .ok (.iaload, 1) := by decide +kernel
theorem dX12_mayLay_47 : decode cX12_mayLay 47 = .ok (.ishl, 1) := by decide +kernel
theorem dX12_mayLay_48 : decode cX12_mayLay 48 = .ok (.ior, 1) := by decide +kernel
theorem dX12_mayLay_49 : decode cX12_mayLay 49 = .ok (.goto 4, 3) := by decide +kernel
theorem dX12_mayLay_52 : decode cX12_mayLay 52 = .ok (.iconst 0, 1) := by decide +kernel
theorem dX12_mayLay_53 : decode cX12_mayLay 53 = .ok (.ior, 1) := by decide +kernel
theorem dX12_mayLay_54 : decode cX12_mayLay 54 = .ok (.istore_n 3, 1) := by decide +kernel
theorem dX12_mayLay_55 : decode cX12_mayLay 55 = .ok (.iinc 4 1, 3) := by decide +kernel
theorem dX12_mayLay_58 : decode cX12_mayLay 58 = .ok (.goto (-53), 3) := by decide +kernel
theorem dX12_mayLay_61 : decode cX12_mayLay 61 = .ok (.iload_n 1, 1) := by decide +kernel
theorem dX12_mayLay_62 : decode cX12_mayLay 62 = .ok (.iload_n 2, 1) := by decide +kernel
theorem dX12_mayLay_63 : decode cX12_mayLay 63 = .ok (.invokestatic 253, 3) := by decide +kernel
theorem dX12_mayLay_66 : decode cX12_mayLay 66 = .ok (.ifCond .ne 39, 3) := by decide +kernel
theorem dX12_mayLay_69 : decode cX12_mayLay 69 = .ok (.iload_n 3, 1) := by decide +kernel
theorem dX12_mayLay_70 : decode cX12_mayLay 70 = .ok (.aload_n 0, 1) := by decide +kernel
theorem dX12_mayLay_71 : decode cX12_mayLay 71 = .ok (.getfield 13, 3) := by decide +kernel
theorem dX12_mayLay_74 : decode cX12_mayLay 74 = .ok (.iconst 3, 1) := by decide +kernel
theorem dX12_mayLay_75 : decode cX12_mayLay 75 = .ok (.iload_n 2, 1) := by decide +kernel
theorem dX12_mayLay_76 : decode cX12_mayLay 76 = .ok (.imul, 1) := by decide +kernel
theorem dX12_mayLay_77 : decode cX12_mayLay 77 = .ok (.iaload, 1) := by decide +kernel
theorem dX12_mayLay_78 : decode cX12_mayLay 78 = .ok (.invokestatic 253, 3) := by decide +kernel
theorem dX12_mayLay_81 : decode cX12_mayLay 81 = .ok (.ifCond .ne 20, 3) := by decide +kernel
theorem dX12_mayLay_84 : decode cX12_mayLay 84 = .ok (.iload_n 3, 1) := by decide +kernel
theorem dX12_mayLay_85 : decode cX12_mayLay 85 = .ok (.aload_n 0, 1) := by decide +kernel
theorem dX12_mayLay_86 : decode cX12_mayLay 86 = .ok (.getfield 13, 3) := by decide +kernel
theorem dX12_mayLay_89 : decode cX12_mayLay 89 = .ok (.iconst 3, 1) := by decide +kernel
theorem dX12_mayLay_90 : decode cX12_mayLay 90 = .ok (.iload_n 2, 1) := by decide +kernel
theorem dX12_mayLay_91 : decode cX12_mayLay 91 = .ok (.imul, 1) := by decide +kernel
theorem dX12_mayLay_92 : decode cX12_mayLay 92 = .ok (.iconst 1, 1) := by decide +kernel
theorem dX12_mayLay_93 : decode cX12_mayLay 93 = .ok (.iadd, 1) := by decide +kernel
theorem dX12_mayLay_94 : decode cX12_mayLay 94 = .ok (.iaload, 1) := by decide +kernel
theorem dX12_mayLay_95 : decode cX12_mayLay 95 = .ok (.invokestatic 253, 3) := by decide +kernel
theorem dX12_mayLay_98 : decode cX12_mayLay 98 = .ok (.ifCond .eq 7, 3) := by decide +kernel
theorem dX12_mayLay_101 : decode cX12_mayLay 101 = .ok (.iconst 1, 1) := by decide +kernel
theorem dX12_mayLay_102 : decode cX12_mayLay 102 = .ok (.goto 4, 3) := by decide +kernel
theorem dX12_mayLay_105 : decode cX12_mayLay 105 = .ok (.iconst 0, 1) := by decide +kernel
theorem dX12_mayLay_106 : decode cX12_mayLay 106 = .ok (.ireturn, 1) := by decide +kernel
theorem dX12_findOrders_0 : decode cX12_findOrders 0 = .ok (.iconst 1, 1) := by decide +kernel
theorem dX12_findOrders_1 : decode cX12_findOrders 1 = .ok (.aload_n 0, 1) := by decide +kernel
theorem dX12_findOrders_2 : decode cX12_findOrders 2 = .ok (.getfield 77, 3) := by decide +kernel
theorem dX12_findOrders_5 : decode cX12_findOrders 5 = .ok (.ishl, 1) := by decide +kernel
theorem dX12_findOrders_6 : decode cX12_findOrders 6 = .ok (.iconst 1, 1) := by decide +kernel
theorem dX12_findOrders_7 : decode cX12_findOrders 7 = .ok (.isub, 1) := by decide +kernel
theorem dX12_findOrders_8 : decode cX12_findOrders 8 = .ok (.istore_n 1, 1) := by decide +kernel
theorem dX12_findOrders_9 : decode cX12_findOrders 9 = .ok (.aload_n 0, 1) := by decide +kernel
theorem dX12_findOrders_10 : decode cX12_findOrders 10 = .ok (.getfield 66, 3) := by decide +kernel
theorem dX12_findOrders_13 : decode cX12_findOrders 13 = .ok (.iload_n 1, 1) := by decide +kernel
theorem dX12_findOrders_14 : decode cX12_findOrders 14 = .ok (.iconst 1, 1) := by decide +kernel
theorem dX12_findOrders_15 : decode cX12_findOrders 15 = .ok (.iastore, 1) := by decide +kernel
theorem dX12_findOrders_16 : decode cX12_findOrders 16 = .ok (.iload_n 1, 1) := by decide +kernel
theorem dX12_findOrders_17 : decode cX12_findOrders 17 = .ok (.iconst 1, 1) := by decide +kernel
theorem dX12_findOrders_18 : decode cX12_findOrders 18 = .ok (.isub, 1) := by decide +kernel
theorem dX12_findOrders_19 : decode cX12_findOrders 19 = .ok (.istore_n 2, 1) := by decide +kernel
theorem dX12_findOrders_20 : decode cX12_findOrders 20 = .ok (.iload_n 2, 1) := by decide +kernel
theorem dX12_findOrders_21 : decode cX12_findOrders 21 = .ok (.ifCond .lt 64, 3) := by decide +kernel
theorem dX12_findOrders_24 : decode cX12_findOrders 24 = .ok (.iconst 0, 1) := by decide +kernel
theorem dX12_findOrders_25 : decode cX12_findOrders 25 = .ok (.istore_n 3, 1) := by decide +kernel
theorem dX12_findOrders_26 : decode cX12_findOrders 26 = .ok (.iconst 0, 1) := by decide +kernel
theorem dX12_findOrders_27 : decode cX12_findOrders 27 = .ok (.istore 4, 2) := by decide +kernel
theorem dX12_findOrders_29 : decode cX12_findOrders 29 = .ok (.iload 4, 2) := by decide +kernel
theorem dX12_findOrders_31 : decode cX12_findOrders 31 = .ok (.aload_n 0, 1) := by decide +kernel
theorem dX12_findOrders_32 : decode cX12_findOrders 32 = .ok (.getfield 77, 3) := by decide +kernel
theorem dX12_findOrders_35 : decode cX12_findOrders 35 = .ok (.if_icmp .ge 37, 3) := by decide +kernel
theorem dX12_findOrders_38 : decode cX12_findOrders 38 = .ok (.iload_n 3, 1) := by decide +kernel
theorem dX12_findOrders_39 : decode cX12_findOrders 39 = .ok (.aload_n 0, 1) := by decide +kernel
theorem dX12_findOrders_40 : decode cX12_findOrders 40 = .ok (.iload_n 2, 1) := by decide +kernel
theorem dX12_findOrders_41 : decode cX12_findOrders 41 = .ok (.iload 4, 2) := by decide +kernel
theorem dX12_findOrders_43 : decode cX12_findOrders 43 = .ok (.invokevirtual 256, 3) := by decide +kernel
theorem dX12_findOrders_46 : decode cX12_findOrders 46 = .ok (.ifCond .eq 17, 3) := by decide +kernel
theorem dX12_findOrders_49 : decode cX12_findOrders 49 = .ok (.aload_n 0, 1) := by decide +kernel
theorem dX12_findOrders_50 : decode cX12_findOrders 50 = .ok (.getfield 66, 3) := by decide +kernel
theorem dX12_findOrders_53 : decode cX12_findOrders 53 = .ok (.iload_n 2, 1) := by decide +kernel
theorem dX12_findOrders_54 : decode cX12_findOrders 54 = .ok (.iconst 1, 1) := by decide +kernel
theorem dX12_findOrders_55 : decode cX12_findOrders 55 = .ok (.iload 4, 2) := by decide +kernel
theorem dX12_findOrders_57 : decode cX12_findOrders 57 = .ok (.ishl, 1) := by decide +kernel
theorem dX12_findOrders_58 : decode cX12_findOrders 58 = .ok (.ior, 1) := by decide +kernel
theorem dX12_findOrders_59 : decode cX12_findOrders 59 = .ok (.iaload, 1) := by decide +kernel
theorem dX12_findOrders_60 : decode cX12_findOrders 60 = .ok (.goto 4, 3) := by decide +kernel
theorem dX12_findOrders_63 : decode cX12_findOrders 63 = .ok (.iconst 0, 1) := by decide +kernel
theorem dX12_findOrders_64 : decode cX12_findOrders 64 = .ok (.iadd, 1) := by decide +kernel
theorem dX12_findOrders_65 : decode cX12_findOrders 65 = .ok (.istore_n 3, 1) := by decide +kernel
theorem dX12_findOrders_66 : decode cX12_findOrders 66 = .ok (.iinc 4 1, 3) := by decide +kernel
theorem dX12_findOrders_69 : decode cX12_findOrders 69 = .ok (.goto (-40), 3) := by decide +kernel
theorem dX12_findOrders_72 : decode cX12_findOrders 72 = .ok (.aload_n 0, 1) := by decide +kernel
theorem dX12_findOrders_73 : decode cX12_findOrders 73 = .ok (.getfield 66, 3) := by decide +kernel
theorem dX12_findOrders_76 : decode cX12_findOrders 76 = .ok (.iload_n 2, 1) := by decide +kernel
theorem dX12_findOrders_77 : decode cX12_findOrders 77 = .ok (.iload_n 3, 1) := by decide +kernel
theorem dX12_findOrders_78 : decode cX12_findOrders 78 = .ok (.iastore, 1) := by decide +kernel
theorem dX12_findOrders_79 : decode cX12_findOrders 79 = .ok (.iinc 2 (-1), 3) := by decide +kernel
theorem dX12_findOrders_82 : decode cX12_findOrders 82 = .ok (.goto (-62), 3) := by decide +kernel
theorem dX12_findOrders_85 : decode cX12_findOrders 85 = .ok (.return_, 1) := by decide +kernel
theorem dX12_orders_0 : decode cX12_orders 0 = .ok (.iload_n 1, 1) := by decide +kernel
theorem dX12_orders_1 : decode cX12_orders 1 = .ok (.iconst (-1), 1) := by decide +kernel
theorem dX12_orders_2 : decode cX12_orders 2 = .ok (.if_icmp .ge 5, 3) := by decide +kernel
theorem dX12_orders_5 : decode cX12_orders 5 = .ok (.iconst (-1), 1) := by decide +kernel
theorem dX12_orders_6 : decode cX12_orders 6 = .ok (.ireturn, 1) := by decide +kernel
theorem dX12_orders_7 : decode cX12_orders 7 = .ok (.aload_n 0, 1) := by decide +kernel
theorem dX12_orders_8 : decode cX12_orders 8 = .ok (.invokevirtual 259, 3) := by decide +kernel
theorem dX12_orders_11 : decode cX12_orders 11 = .ok (.iload_n 1, 1) := by decide +kernel
theorem dX12_orders_12 : decode cX12_orders 12 = .ok (.ifCond .ge 10, 3) := by decide +kernel
theorem dX12_orders_15 : decode cX12_orders 15 = .ok (.aload_n 0, 1) := by decide +kernel
theorem dX12_orders_16 : decode cX12_orders 16 = .ok (.getfield 66, 3) := by decide +kernel
theorem dX12_orders_19 : decode cX12_orders 19 = .ok (.iconst 0, 1) := by decide +kernel
theorem dX12_orders_20 : decode cX12_orders 20 = .ok (.iaload, 1) := by decide +kernel
theorem dX12_orders_21 : decode cX12_orders 21 = .ok (.ireturn, 1) := by decide +kernel
theorem dX12_orders_22 : decode cX12_orders 22 = .ok (.aload_n 0, 1) := by decide +kernel
theorem dX12_orders_23 : decode cX12_orders 23 = .ok (.getfield 66, 3) := by decide +kernel
theorem dX12_orders_26 : decode cX12_orders 26 = .ok (.iconst 0, 1) := by decide +kernel
theorem dX12_orders_27 : decode cX12_orders 27 = .ok (.iaload, 1) := by decide +kernel
theorem dX12_orders_28 : decode cX12_orders 28 = .ok (.ifCond .ne 6, 3) := by decide +kernel
theorem dX12_orders_31 : decode cX12_orders 31 = .ok (.bipush (-9), 2) := by decide +kernel
theorem dX12_orders_33 : decode cX12_orders 33 = .ok (.ireturn, 1) := by decide +kernel
theorem dX12_orders_34 : decode cX12_orders 34 = .ok (.iload_n 1, 1) := by decide +kernel
theorem dX12_orders_35 : decode cX12_orders 35 = .ok (.aload_n 0, 1) := by decide +kernel
theorem dX12_orders_36 : decode cX12_orders 36 = .ok (.getfield 77, 3) := by decide +kernel
theorem dX12_orders_39 : decode cX12_orders 39 = .ok (.if_icmp .lt 6, 3) := by decide +kernel
theorem dX12_orders_42 : decode cX12_orders 42 = .ok (.bipush (-5), 2) := by decide +kernel
theorem dX12_orders_44 : decode cX12_orders 44 = .ok (.ireturn, 1) := by decide +kernel
theorem dX12_orders_45 : decode cX12_orders 45 = .ok (.iconst 0, 1) := by decide +kernel
theorem dX12_orders_46 : decode cX12_orders 46 = .ok (.istore_n 2, 1) := by decide +kernel
theorem dX12_orders_47 : decode cX12_orders 47 = .ok (.iconst 0, 1) := by decide +kernel
theorem dX12_orders_48 : decode cX12_orders 48 = .ok (.istore_n 3, 1) := by decide +kernel
theorem dX12_orders_49 : decode cX12_orders 49 = .ok (.iconst 0, 1) := by decide +kernel
theorem dX12_orders_50 : decode cX12_orders 50 = .ok (.istore 4, 2) := by decide +kernel
theorem dX12_orders_52 : decode cX12_orders 52 = .ok (.iload 4, 2) := by decide +kernel
theorem dX12_orders_54 : decode cX12_orders 54 = .ok (.iload_n 1, 1) := by decide +kernel
theorem dX12_orders_55 : decode cX12_orders 55 = .ok (.if_icmp .gt 45, 3) := by decide +kernel
theorem dX12_orders_58 : decode cX12_orders 58 = .ok (.iconst 0, 1) := by decide +kernel
theorem dX12_orders_59 : decode cX12_orders 59 = .ok (.istore_n 3, 1) := by decide +kernel
theorem dX12_orders_60 : decode cX12_orders 60 = .ok (.aload_n 0, 1) := by decide +kernel
theorem dX12_orders_61 : decode cX12_orders 61 = .ok (.iload_n 2, 1) := by decide +kernel
theorem dX12_orders_62 : decode cX12_orders 62 = .ok (.iload_n 3, 1) := by decide +kernel
theorem dX12_orders_63 : decode cX12_orders 63 = .ok (.invokevirtual 256, 3) := by decide +kernel
theorem dX12_orders_66 : decode cX12_orders 66 = .ok (.ifCond .eq 16, 3) := by decide +kernel
theorem dX12_orders_69 : decode cX12_orders 69 = .ok (.aload_n 0, 1) := by decide +kernel
theorem dX12_orders_70 : decode cX12_orders 70 = .ok (.getfield 66, 3) := by decide +kernel
theorem dX12_orders_73 : decode cX12_orders 73 = .ok (.iload_n 2, 1) := by decide +kernel
theorem dX12_orders_74 : decode cX12_orders 74 = .ok (.iconst 1, 1) := by decide +kernel
theorem dX12_orders_75 : decode cX12_orders 75 = .ok (.iload_n 3, 1) := by decide +kernel
theorem dX12_orders_76 : decode cX12_orders 76 = .ok (.ishl, 1) := by decide +kernel
theorem dX12_orders_77 : decode cX12_orders 77 = .ok (.ior, 1) := by decide +kernel
theorem dX12_orders_78 : decode cX12_orders 78 = .ok (.iaload, 1) := by decide +kernel
theorem dX12_orders_79 : decode cX12_orders 79 = .ok (.ifCond .ne 9, 3) := by decide +kernel
theorem dX12_orders_82 : decode cX12_orders 82 = .ok (.iinc 3 1, 3) := by decide +kernel
theorem dX12_orders_85 : decode cX12_orders 85 = .ok (.goto (-25), 3) := by decide +kernel
theorem dX12_orders_88 : decode cX12_orders 88 = .ok (.iload_n 2, 1) := by decide +kernel
theorem dX12_orders_89 : decode cX12_orders 89 = .ok (.iconst 1, 1) := by decide +kernel
theorem dX12_orders_90 : decode cX12_orders 90 = .ok (.iload_n 3, 1) := by decide +kernel
theorem dX12_orders_91 : decode cX12_orders 91 = .ok (.ishl, 1) := by decide +kernel
theorem dX12_orders_92 : decode cX12_orders 92 = .ok (.ior, 1) := by decide +kernel
theorem dX12_orders_93 : decode cX12_orders 93 = .ok (.istore_n 2, 1) := by decide +kernel
theorem dX12_orders_94 : decode cX12_orders 94 = .ok (.iinc 4 1, 3) := by decide +kernel
theorem dX12_orders_97 : decode cX12_orders 97 = .ok (.goto (-45), 3) := by decide +kernel
theorem dX12_orders_100 : decode cX12_orders 100 = .ok (.iload_n 3, 1) := by decide +kernel
theorem dX12_orders_101 : decode cX12_orders 101 = .ok (.ireturn, 1) := by decide +kernel
theorem dX12_barred_0 : decode cX12_barred 0 = .ok (.iconst 0, 1) := by decide +kernel
theorem dX12_barred_1 : decode cX12_barred 1 = .ok (.istore_n 1, 1) := by decide +kernel
theorem dX12_barred_2 : decode cX12_barred 2 = .ok (.iconst 0, 1) := by decide +kernel
theorem dX12_barred_3 : decode cX12_barred 3 = .ok (.istore_n 2, 1) := by decide +kernel
theorem dX12_barred_4 : decode cX12_barred 4 = .ok (.iload_n 2, 1) := by decide +kernel
theorem dX12_barred_5 : decode cX12_barred 5 = .ok (.aload_n 0, 1) := by decide +kernel
theorem dX12_barred_6 : decode cX12_barred 6 = .ok (.getfield 77, 3) := by decide +kernel
theorem dX12_barred_9 : decode cX12_barred 9 = .ok (.if_icmp .ge 52, 3) := by decide +kernel
theorem dX12_barred_12 : decode cX12_barred 12 = .ok (.iload_n 1, 1) := by decide +kernel
theorem dX12_barred_13 : decode cX12_barred 13 = .ok (.istore_n 3, 1) := by decide +kernel
theorem dX12_barred_14 : decode cX12_barred 14 = .ok (.iconst 0, 1) := by decide +kernel
theorem dX12_barred_15 : decode cX12_barred 15 = .ok (.istore 4, 2) := by decide +kernel
theorem dX12_barred_17 : decode cX12_barred 17 = .ok (.iload 4, 2) := by decide +kernel
theorem dX12_barred_19 : decode cX12_barred 19 = .ok (.aload_n 0, 1) := by decide +kernel
theorem dX12_barred_20 : decode cX12_barred 20 = .ok (.getfield 77, 3) := by decide +kernel
theorem dX12_barred_23 : decode cX12_barred 23 = .ok (.if_icmp .ge 30, 3) := by decide +kernel
theorem dX12_barred_26 : decode cX12_barred 26 = .ok (.iload_n 3, 1) := by decide +kernel
theorem dX12_barred_27 : decode cX12_barred 27 = .ok (.aload_n 0, 1) := by decide +kernel
theorem dX12_barred_28 : decode cX12_barred 28 = .ok (.iload_n 1, 1) := by decide +kernel
theorem dX12_barred_29 : decode cX12_barred 29 = .ok (.iload 4, 2) := by decide +kernel
theorem dX12_barred_31 : decode cX12_barred 31 = .ok (.invokevirtual 256, 3) := by decide +kernel
theorem dX12_barred_34 : decode cX12_barred 34 = .ok (.ifCond .eq 10, 3) := by decide +kernel
theorem dX12_barred_37 : decode cX12_barred 37 = .ok (.iconst 1, 1) := by decide +kernel
theorem dX12_barred_38 : decode cX12_barred 38 = .ok (.iload 4, 2) := by decide +kernel
theorem dX12_barred_40 : decode cX12_barred 40 = .ok (.ishl, 1) := by decide +kernel
theorem dX12_barred_41 : decode cX12_barred 41 = .ok (.goto 4, 3) := by decide +kernel
theorem dX12_barred_44 : decode cX12_barred 44 = .ok (.iconst 0, 1) := by decide +kernel
theorem dX12_barred_45 : decode cX12_barred 45 = .ok (.ior, 1) := by decide +kernel
theorem dX12_barred_46 : decode cX12_barred 46 = .ok (.istore_n 3, 1) := by decide +kernel
theorem dX12_barred_47 : decode cX12_barred 47 = .ok (.iinc 4 1, 3) := by decide +kernel
theorem dX12_barred_50 : decode cX12_barred 50 = .ok (.goto (-33), 3) := by decide +kernel
theorem dX12_barred_53 : decode cX12_barred 53 = .ok (.iload_n 3, 1) := by decide +kernel
theorem dX12_barred_54 : decode cX12_barred 54 = .ok (.istore_n 1, 1) := by decide +kernel
theorem dX12_barred_55 : decode cX12_barred 55 = .ok (.iinc 2 1, 3) := by decide +kernel
theorem dX12_barred_58 : decode cX12_barred 58 = .ok (.goto (-54), 3) := by decide +kernel
theorem dX12_barred_61 : decode cX12_barred 61 = .ok (.iconst 1, 1) := by decide +kernel
theorem dX12_barred_62 : decode cX12_barred 62 = .ok (.aload_n 0, 1) := by decide +kernel
theorem dX12_barred_63 : decode cX12_barred 63 = .ok (.getfield 77, 3) := by decide +kernel
theorem dX12_barred_66 : decode cX12_barred 66 = .ok (.ishl, 1) := by decide +kernel
theorem dX12_barred_67 : decode cX12_barred 67 = .ok (.iconst 1, 1) := by decide +kernel
theorem dX12_barred_68 : decode cX12_barred 68 = .ok (.isub, 1) := by decide +kernel
theorem dX12_barred_69 : decode cX12_barred 69 = .ok (.iload_n 1, 1) := by decide +kernel
theorem dX12_barred_70 : decode cX12_barred 70 = .ok (.iconst (-1), 1) := by decide +kernel
theorem dX12_barred_71 : decode cX12_barred 71 = .ok (.ixor, 1) := by decide +kernel
theorem dX12_barred_72 : decode cX12_barred 72 = .ok (.iand, 1) := by decide +kernel
theorem dX12_barred_73 : decode cX12_barred 73 = .ok (.ireturn, 1) := by decide +kernel
theorem dX12_hoist_0 : decode cX12_hoist 0 = .ok (.aload_n 0, 1) := by decide +kernel
theorem dX12_hoist_1 : decode cX12_hoist 1 = .ok (.iload_n 1, 1) := by decide +kernel
theorem dX12_hoist_2 : decode cX12_hoist 2 = .ok (.invokevirtual 178, 3) := by decide +kernel
theorem dX12_hoist_5 : decode cX12_hoist 5 = .ok (.ifCond .eq 13, 3) := by decide +kernel
theorem dX12_hoist_8 : decode cX12_hoist 8 = .ok (.iload_n 2, 1) := by decide +kernel
theorem dX12_hoist_9 : decode cX12_hoist 9 = .ok (.iconst 1, 1) := by decide +kernel
theorem dX12_hoist_10 : decode cX12_hoist 10 = .ok (.bipush 60, 2) := by decide +kernel
theorem dX12_hoist_12 : decode cX12_hoist 12 = .ok (.invokestatic 73, 3) := by decide +kernel
theorem dX12_hoist_15 : decode cX12_hoist 15 = .ok (.ifCond .ne 5, 3) := by decide +kernel
theorem dX12_hoist_18 : decode cX12_hoist 18 = .ok (.iconst (-1), 1) := by decide +kernel
theorem dX12_hoist_19 : decode cX12_hoist 19 = .ok (.ireturn, 1) := by decide +kernel
theorem dX12_hoist_20 : decode cX12_hoist 20 = .ok (.aload_n 0, 1) := by decide +kernel
theorem dX12_hoist_21 : decode cX12_hoist 21 = .ok (.invokevirtual 182, 3) := by decide +kernel
theorem dX12_hoist_24 : decode cX12_hoist 24 = .ok (.bipush (-9), 2) := by decide +kernel
theorem dX12_hoist_26 : decode cX12_hoist 26 = .ok (.istore_n 3, 1) := by decide +kernel
theorem dX12_hoist_27 : decode cX12_hoist 27 = .ok (.iconst 0, 1) := by decide +kernel
theorem dX12_hoist_28 : decode cX12_hoist 28 = .ok (.istore 4, 2) := by decide +kernel
theorem dX12_hoist_30 : decode cX12_hoist 30 = .ok (.iload 4, 2) := by decide +kernel
theorem dX12_hoist_32 : decode cX12_hoist 32 = .ok (.iconst 1, 1) := by decide +kernel
theorem dX12_hoist_33 : decode cX12_hoist 33 = .ok (.aload_n 0, 1) := by decide +kernel
theorem dX12_hoist_34 : decode cX12_hoist 34 = .ok (.getfield 80, 3) := by decide +kernel
theorem dX12_hoist_37 : decode cX12_hoist 37 = .ok (.ishl, 1) := by decide +kernel
theorem dX12_hoist_38 : decode cX12_hoist 38 = .ok (.if_icmp .ge 136, 3) := by decide +kernel
theorem dX12_hoist_41 : decode cX12_hoist 41 = .ok (.iconst 0, 1) := by decide +kernel
theorem dX12_hoist_42 : decode cX12_hoist 42 = .ok (.istore 5, 2) := by decide +kernel
theorem dX12_hoist_44 : decode cX12_hoist 44 = .ok (.iconst 0, 1) := by decide +kernel
theorem dX12_hoist_45 : decode cX12_hoist 45 = .ok (.istore 6, 2) := by decide +kernel
theorem dX12_hoist_47 : decode cX12_hoist 47 = .ok (.iload 6, 2) := by decide +kernel
theorem dX12_hoist_49 : decode cX12_hoist 49 = .ok (.aload_n 0, 1) := by decide +kernel
theorem dX12_hoist_50 : decode cX12_hoist 50 = .ok (.getfield 80, 3) := by decide +kernel
theorem dX12_hoist_53 : decode cX12_hoist 53 = .ok (.if_icmp .ge 37, 3) := by decide +kernel
theorem dX12_hoist_56 : decode cX12_hoist 56 = .ok (.iload 5, 2) := by decide +kernel
theorem dX12_hoist_58 : decode cX12_hoist 58 = .ok (.iload 4, 2) := by decide +kernel
theorem dX12_hoist_60 : decode cX12_hoist 60 = .ok (.iload 6, 2) := by decide +kernel
theorem dX12_hoist_62 : decode cX12_hoist 62 = .ok (.invokestatic 253, 3) := by decide +kernel
theorem dX12_hoist_65 : decode cX12_hoist 65 = .ok (.ifCond .eq 15, 3) := by decide +kernel
theorem dX12_hoist_68 : decode cX12_hoist 68 = .ok (.aload_n 0, 1) := by decide +kernel
theorem dX12_hoist_69 : decode cX12_hoist 69 = .ok (.getfield 16, 3) := by decide +kernel
theorem dX12_hoist_72 : decode cX12_hoist 72 = .ok (.iconst 2, 1) := by decide +kernel
theorem dX12_hoist_73 : decode cX12_hoist 73 = .ok (.iload 6, 2) := by decide +kernel
theorem dX12_hoist_75 : decode cX12_hoist 75 = .ok (.imul, 1) := by decide +kernel
theorem dX12_hoist_76 : decode cX12_hoist 76 = .ok (.iaload, 1) := by decide +kernel
theorem dX12_hoist_77 : decode cX12_hoist 77 = .ok (.goto 4, 3) := by decide +kernel
theorem dX12_hoist_80 : decode cX12_hoist 80 = .ok (.iconst 0, 1) := by decide +kernel
theorem dX12_hoist_81 : decode cX12_hoist 81 = .ok (.iadd, 1) := by decide +kernel
theorem dX12_hoist_82 : decode cX12_hoist 82 = .ok (.istore 5, 2) := by decide +kernel
theorem dX12_hoist_84 : decode cX12_hoist 84 = .ok (.iinc 6 1, 3) := by decide +kernel
theorem dX12_hoist_87 : decode cX12_hoist 87 = .ok (.goto (-40), 3) := by decide +kernel
theorem dX12_hoist_90 : decode cX12_hoist 90 = .ok (.iload 5, 2) := by decide +kernel
theorem dX12_hoist_92 : decode cX12_hoist 92 = .ok (.iload_n 2, 1) := by decide +kernel
theorem dX12_hoist_93 : decode cX12_hoist 93 = .ok (.aload_n 0, 1) := by decide +kernel
theorem dX12_hoist_94 : decode cX12_hoist 94 = .ok (.getfield 7, 3) := by decide +kernel
theorem dX12_hoist_97 : decode cX12_hoist 97 = .ok (.iconst 3, 1) := by decide +kernel
theorem dX12_hoist_98 : decode cX12_hoist 98 = .ok (.iload_n 1, 1) := by decide +kernel
theorem dX12_hoist_99 : decode cX12_hoist 99 = .ok (.imul, 1) := by decide +kernel
theorem dX12_hoist_100 : decode cX12_hoist 100 = .ok (.iaload, 1) := by decide +kernel
theorem dX12_hoist_101 : decode cX12_hoist 101 = .ok (.iconst 4, 1) := by decide +kernel
theorem dX12_hoist_102 : decode cX12_hoist 102 = .ok (.idiv, 1) := by decide +kernel
theorem dX12_hoist_103 : decode cX12_hoist 103 = .ok (.iadd, 1) := by decide +kernel
theorem dX12_hoist_104 : decode cX12_hoist 104 = .ok (.if_icmp .lt 31, 3) := by decide +kernel
theorem dX12_hoist_107 : decode cX12_hoist 107 = .ok (.aload_n 0, 1) := by decide +kernel
theorem dX12_hoist_108 : decode cX12_hoist 108 = .ok (.getfield 53, 3) := by decide +kernel
theorem dX12_hoist_111 : decode cX12_hoist 111 = .ok (.iload_n 1, 1) := by decide +kernel
theorem dX12_hoist_112 : decode cX12_hoist 112 = .ok (.iaload, 1) := by decide +kernel
theorem dX12_hoist_113 : decode cX12_hoist 113 = .ok (.iload_n 2, 1) := by decide +kernel
theorem dX12_hoist_114 : decode cX12_hoist 114 = .ok (.iadd, 1) := by decide +kernel
theorem dX12_hoist_115 : decode cX12_hoist 115 = .ok (.iload 5, 2) := by decide +kernel
theorem dX12_hoist_117 : decode cX12_hoist 117 = .ok (.iadd, 1) := by decide +kernel
theorem dX12_hoist_118 : decode cX12_hoist 118 = .ok (.aload_n 0, 1) := by decide +kernel
theorem dX12_hoist_119 : decode cX12_hoist 119 = .ok (.getfield 7, 3) := by decide +kernel
theorem dX12_hoist_122 : decode cX12_hoist 122 = .ok (.iconst 3, 1) := by decide +kernel
theorem dX12_hoist_123 : decode cX12_hoist 123 = .ok (.iload_n 1, 1) := by decide +kernel
theorem dX12_hoist_124 : decode cX12_hoist 124 = .ok (.imul, 1) := by decide +kernel
theorem dX12_hoist_125 : decode cX12_hoist 125 = .ok (.iconst 1, 1) := by decide +kernel
theorem dX12_hoist_126 : decode cX12_hoist 126 = .ok (.iadd, 1) := by decide +kernel
theorem dX12_hoist_127 : decode cX12_hoist 127 = .ok (.iaload, 1) := by decide +kernel
theorem dX12_hoist_128 : decode cX12_hoist 128 = .ok (.if_icmp .gt 7, 3) := by decide +kernel
theorem dX12_hoist_131 : decode cX12_hoist 131 = .ok (.iconst 1, 1) := by decide +kernel
theorem dX12_hoist_132 : decode cX12_hoist 132 = .ok (.goto 4, 3) := by decide +kernel
theorem dX12_hoist_135 : decode cX12_hoist 135 = .ok (.iconst 0, 1) := by decide +kernel
theorem dX12_hoist_136 : decode cX12_hoist 136 = .ok (.istore 6, 2) := by decide +kernel
theorem dX12_hoist_138 : decode cX12_hoist 138 = .ok (.iload 6, 2) := by decide +kernel
theorem dX12_hoist_140 : decode cX12_hoist 140 = .ok (.ifCond .eq 26, 3) := by decide +kernel
theorem dX12_hoist_143 : decode cX12_hoist 143 = .ok (.iload_n 3, 1) := by decide +kernel
theorem dX12_hoist_144 : decode cX12_hoist 144 = .ok (.bipush (-9), 2) := by decide +kernel
theorem dX12_hoist_146 : decode cX12_hoist 146 = .ok (.if_icmp .eq 15, 3) := by decide +kernel
theorem dX12_hoist_149 : decode cX12_hoist 149 = .ok (.iload 4, 2) := by decide +kernel
theorem dX12_hoist_151 : decode cX12_hoist 151 = .ok (.invokestatic 262, 3) := by decide +kernel
theorem dX12_hoist_154 : decode cX12_hoist 154 = .ok (.iload_n 3, 1) := by decide +kernel
theorem dX12_hoist_155 : decode cX12_hoist 155 = .ok (.invokestatic 262, 3) := by decide +kernel
theorem dX12_hoist_158 : decode cX12_hoist 158 = .ok (.if_icmp .ge 8, 3) := by decide +kernel
theorem dX12_hoist_161 : decode cX12_hoist 161 = .ok (.iload 4, 2) := by decide +kernel
theorem dX12_hoist_163 : decode cX12_hoist 163 = .ok (.goto 4, 3) := by decide +kernel
theorem dX12_hoist_166 : decode cX12_hoist 166 = .ok (.iload_n 3, 1) := by decide +kernel
theorem dX12_hoist_167 : decode cX12_hoist 167 = .ok (.istore_n 3, 1) := by decide +kernel
theorem dX12_hoist_168 : decode cX12_hoist 168 = .ok (.iinc 4 1, 3) := by decide +kernel
theorem dX12_hoist_171 : decode cX12_hoist 171 = .ok (.goto (-141), 3) := by decide +kernel
theorem dX12_hoist_174 : decode cX12_hoist 174 = .ok (.iload_n 3, 1) := by decide +kernel
theorem dX12_hoist_175 : decode cX12_hoist 175 = .ok (.ireturn, 1) := by decide +kernel
theorem dX12_test_0 : decode cX12_test 0 = .ok (.aload_n 0, 1) := by decide +kernel
theorem dX12_test_1 : decode cX12_test 1 = .ok (.iload_n 1, 1) := by decide +kernel
theorem dX12_test_2 : decode cX12_test 2 = .ok (.invokevirtual 185, 3) := by decide +kernel
theorem dX12_test_5 : decode cX12_test 5 = .ok (.ifCond .eq 22, 3) := by decide +kernel
theorem dX12_test_8 : decode cX12_test 8 = .ok (.iload_n 2, 1) := by decide +kernel
theorem dX12_test_9 : decode cX12_test 9 = .ok (.iconst 1, 1) := by decide +kernel
theorem dX12_test_10 : decode cX12_test 10 = .ok (.bipush 60, 2) := by decide +kernel
theorem dX12_test_12 : decode cX12_test 12 = .ok (.invokestatic 73, 3) := by decide +kernel
theorem dX12_test_15 : decode cX12_test 15 = .ok (.ifCond .eq 12, 3) := by decide +kernel
theorem dX12_test_18 : decode cX12_test 18 = .ok (.iload_n 3, 1) := by decide +kernel
theorem dX12_test_19 : decode cX12_test 19 = .ok (.iconst 0, 1) := by decide +kernel
theorem dX12_test_20 : decode cX12_test 20 = .ok (.iconst 1, 1) := by decide +kernel
theorem dX12_test_21 : decode cX12_test 21 = .ok (.invokestatic 73, 3) := by decide +kernel
theorem dX12_test_24 : decode cX12_test 24 = .ok (.ifCond .ne 5, 3) := by decide +kernel
theorem dX12_test_27 : decode cX12_test 27 = .ok (.iconst (-1), 1) := by decide +kernel
theorem dX12_test_28 : decode cX12_test 28 = .ok (.ireturn, 1) := by decide +kernel
theorem dX12_test_29 : decode cX12_test 29 = .ok (.aload_n 0, 1) := by decide +kernel
theorem dX12_test_30 : decode cX12_test 30 = .ok (.getfield 145, 3) := by decide +kernel
theorem dX12_test_33 : decode cX12_test 33 = .ok (.bipush 6, 2) := by decide +kernel
theorem dX12_test_35 : decode cX12_test 35 = .ok (.if_icmp .ne 6, 3) := by decide +kernel
theorem dX12_test_38 : decode cX12_test 38 = .ok (.bipush (-3), 2) := by decide +kernel
theorem dX12_test_40 : decode cX12_test 40 = .ok (.ireturn, 1) := by decide +kernel
theorem dX12_test_41 : decode cX12_test 41 = .ok (.aload_n 0, 1) := by decide +kernel
theorem dX12_test_42 : decode cX12_test 42 = .ok (.getfield 32, 3) := by decide +kernel
theorem dX12_test_45 : decode cX12_test 45 = .ok (.iconst 3, 1) := by decide +kernel
theorem dX12_test_46 : decode cX12_test 46 = .ok (.aload_n 0, 1) := by decide +kernel
theorem dX12_test_47 : decode cX12_test 47 = .ok (.getfield 145, 3) := by decide +kernel
theorem dX12_test_50 : decode cX12_test 50 = .ok (.imul, 1) := by decide +kernel
theorem dX12_test_51 : decode cX12_test 51 = .ok (.iload_n 1, 1) := by decide +kernel
theorem dX12_test_52 : decode cX12_test 52 = .ok (.iastore, 1) := by decide +kernel
theorem dX12_test_53 : decode cX12_test 53 = .ok (.aload_n 0, 1) := by decide +kernel
theorem dX12_test_54 : decode cX12_test 54 = .ok (.getfield 32, 3) := by decide +kernel
theorem dX12_test_57 : decode cX12_test 57 = .ok (.iconst 3, 1) := by decide +kernel
theorem dX12_test_58 : decode cX12_test 58 = .ok (.aload_n 0, 1) := by decide +kernel
theorem dX12_test_59 : decode cX12_test 59 = .ok (.getfield 145, 3) := by decide +kernel
theorem dX12_test_62 : decode cX12_test 62 = .ok (.imul, 1) := by decide +kernel
theorem dX12_test_63 : decode cX12_test 63 = .ok (.iconst 1, 1) := by decide +kernel
theorem dX12_test_64 : decode cX12_test 64 = .ok (.iadd, 1) := by decide +kernel
theorem dX12_test_65 : decode cX12_test 65 = .ok (.iload_n 2, 1) := by decide +kernel
theorem dX12_test_66 : decode cX12_test 66 = .ok (.iastore, 1) := by decide +kernel
theorem dX12_test_67 : decode cX12_test 67 = .ok (.aload_n 0, 1) := by decide +kernel
theorem dX12_test_68 : decode cX12_test 68 = .ok (.getfield 32, 3) := by decide +kernel
theorem dX12_test_71 : decode cX12_test 71 = .ok (.iconst 3, 1) := by decide +kernel
theorem dX12_test_72 : decode cX12_test 72 = .ok (.aload_n 0, 1) := by decide +kernel
theorem dX12_test_73 : decode cX12_test 73 = .ok (.getfield 145, 3) := by decide +kernel
theorem dX12_test_76 : decode cX12_test 76 = .ok (.imul, 1) := by decide +kernel
theorem dX12_test_77 : decode cX12_test 77 = .ok (.iconst 2, 1) := by decide +kernel
theorem dX12_test_78 : decode cX12_test 78 = .ok (.iadd, 1) := by decide +kernel
theorem dX12_test_79 : decode cX12_test 79 = .ok (.iload_n 3, 1) := by decide +kernel
theorem dX12_test_80 : decode cX12_test 80 = .ok (.iastore, 1) := by decide +kernel
theorem dX12_test_81 : decode cX12_test 81 = .ok (.aload_n 0, 1) := by decide +kernel
theorem dX12_test_82 : decode cX12_test 82 = .ok (.dup, 1) := by decide +kernel
theorem dX12_test_83 : decode cX12_test 83 = .ok (.getfield 145, 3) := by decide +kernel
theorem dX12_test_86 : decode cX12_test 86 = .ok (.iconst 1, 1) := by decide +kernel
theorem dX12_test_87 : decode cX12_test 87 = .ok (.iadd, 1) := by decide +kernel
theorem dX12_test_88 : decode cX12_test 88 = .ok (.putfield 145, 3) := by decide +kernel
theorem dX12_test_91 : decode cX12_test 91 = .ok (.aload_n 0, 1) := by decide +kernel
theorem dX12_test_92 : decode cX12_test 92 = .ok (.getfield 145, 3) := by decide +kernel
theorem dX12_test_95 : decode cX12_test 95 = .ok (.ireturn, 1) := by decide +kernel
theorem dX12_forget_0 : decode cX12_forget 0 = .ok (.aload_n 0, 1) := by decide +kernel
theorem dX12_forget_1 : decode cX12_forget 1 = .ok (.getfield 145, 3) := by decide +kernel
theorem dX12_forget_4 : decode cX12_forget 4 = .ok (.istore_n 1, 1) := by decide +kernel
theorem dX12_forget_5 : decode cX12_forget 5 = .ok (.aload_n 0, 1) := by decide +kernel
theorem dX12_forget_6 : decode cX12_forget 6 = .ok (.iconst 0, 1) := by decide +kernel
theorem dX12_forget_7 : decode cX12_forget 7 = .ok (.putfield 145, 3) := by decide +kernel
theorem dX12_forget_10 : decode cX12_forget 10 = .ok (.iload_n 1, 1) := by decide +kernel
theorem dX12_forget_11 : decode cX12_forget 11 = .ok (.ireturn, 1) := by decide +kernel
theorem dX12_breaks_0 : decode cX12_breaks 0 = .ok (.iload_n 3, 1) := by decide +kernel
theorem dX12_breaks_1 : decode cX12_breaks 1 = .ok (.iload_n 2, 1) := by decide +kernel
theorem dX12_breaks_2 : decode cX12_breaks 2 = .ok (.iload_n 1, 1) := by decide +kernel
theorem dX12_breaks_3 : decode cX12_breaks 3 = .ok (.if_icmp .ne 18, 3) := by decide +kernel
theorem dX12_breaks_6 : decode cX12_breaks 6 = .ok (.aload_n 0, 1) := by decide +kernel
theorem dX12_breaks_7 : decode cX12_breaks 7 = .ok (.getfield 13, 3) := by decide +kernel
theorem dX12_breaks_10 : decode cX12_breaks 10 = .ok (.iconst 3, 1) := by decide +kernel
theorem dX12_breaks_11 : decode cX12_breaks 11 = .ok (.iload_n 2, 1) := by decide +kernel
theorem dX12_breaks_12 : decode cX12_breaks 12 = .ok (.imul, 1) := by decide +kernel
theorem dX12_breaks_13 : decode cX12_breaks 13 = .ok (.iconst 2, 1) := by decide +kernel
theorem dX12_breaks_14 : decode cX12_breaks 14 = .ok (.iadd, 1) := by decide +kernel
theorem dX12_breaks_15 : decode cX12_breaks 15 = .ok (.iaload, 1) := by decide +kernel
theorem dX12_breaks_16 : decode cX12_breaks 16 = .ok (.iconst 2, 1) := by decide +kernel
theorem dX12_breaks_17 : decode cX12_breaks 17 = .ok (.idiv, 1) := by decide +kernel
theorem dX12_breaks_18 : decode cX12_breaks 18 = .ok (.goto 13, 3) := by decide +kernel
theorem dX12_breaks_21 : decode cX12_breaks 21 = .ok (.aload_n 0, 1) := by decide +kernel
theorem dX12_breaks_22 : decode cX12_breaks 22 = .ok (.getfield 13, 3) := by decide +kernel
theorem dX12_breaks_25 : decode cX12_breaks 25 = .ok (.iconst 3, 1) := by decide +kernel
theorem dX12_breaks_26 : decode cX12_breaks 26 = .ok (.iload_n 2, 1) := by decide +kernel
theorem dX12_breaks_27 : decode cX12_breaks 27 = .ok (.imul, 1) := by decide +kernel
theorem dX12_breaks_28 : decode cX12_breaks 28 = .ok (.iconst 2, 1) := by decide +kernel
theorem dX12_breaks_29 : decode cX12_breaks 29 = .ok (.iadd, 1) := by decide +kernel
theorem dX12_breaks_30 : decode cX12_breaks 30 = .ok (.iaload, 1) := by decide +kernel
theorem dX12_breaks_31 : decode cX12_breaks 31 = .ok (.if_icmp .le 7, 3) := by decide +kernel
theorem dX12_breaks_34 : decode cX12_breaks 34 = .ok (.iconst 1, 1) := by decide +kernel
theorem dX12_breaks_35 : decode cX12_breaks 35 = .ok (.goto 4, 3) := by decide +kernel
theorem dX12_breaks_38 : decode cX12_breaks 38 = .ok (.iconst 0, 1) := by decide +kernel
theorem dX12_breaks_39 : decode cX12_breaks 39 = .ok (.ireturn, 1) := by decide +kernel
theorem dX12_mayBeNow_0 : decode cX12_mayBeNow 0 = .ok (.iconst 0, 1) := by decide +kernel
theorem dX12_mayBeNow_1 : decode cX12_mayBeNow 1 = .ok (.istore_n 1, 1) := by decide +kernel
theorem dX12_mayBeNow_2 : decode cX12_mayBeNow 2 = .ok (.iconst 0, 1) := by decide +kernel
theorem dX12_mayBeNow_3 : decode cX12_mayBeNow 3 = .ok (.istore_n 2, 1) := by decide +kernel
theorem dX12_mayBeNow_4 : decode cX12_mayBeNow 4 = .ok (.iload_n 2, 1) := by decide +kernel
theorem dX12_mayBeNow_5 : decode cX12_mayBeNow 5 = .ok (.aload_n 0, 1) := by decide +kernel
theorem dX12_mayBeNow_6 : decode cX12_mayBeNow 6 = .ok (.getfield 77, 3) := by decide +kernel
theorem dX12_mayBeNow_9 : decode cX12_mayBeNow 9 = .ok (.if_icmp .ge 101, 3) := by decide +kernel
theorem dX12_mayBeNow_12 : decode cX12_mayBeNow 12 = .ok (.iconst 1, 1) := by decide +kernel
theorem dX12_mayBeNow_13 : decode cX12_mayBeNow 13 = .ok (.istore_n 3, 1) := by decide +kernel
theorem dX12_mayBeNow_14 : decode cX12_mayBeNow 14 = .ok (.iconst 0, 1) := by decide +kernel
theorem dX12_mayBeNow_15 : decode cX12_mayBeNow 15 = .ok (.istore 4, 2) := by decide +kernel
theorem dX12_mayBeNow_17 : decode cX12_mayBeNow 17 = .ok (.iload 4, 2) := by decide +kernel
theorem dX12_mayBeNow_19 : decode cX12_mayBeNow 19 = .ok (.aload_n 0, 1) := by decide +kernel
theorem dX12_mayBeNow_20 : decode cX12_mayBeNow 20 = .ok (.getfield 145, 3) := by decide +kernel
theorem dX12_mayBeNow_23 : decode cX12_mayBeNow 23 = .ok (.if_icmp .ge 67, 3) := by decide +kernel
theorem dX12_mayBeNow_26 : decode cX12_mayBeNow 26 = .ok (.iload_n 3, 1) := by decide +kernel
theorem dX12_mayBeNow_27 : decode cX12_mayBeNow 27 = .ok (.ifCond .eq 55, 3) := by decide +kernel
theorem dX12_mayBeNow_30 : decode cX12_mayBeNow 30 = .ok (.aload_n 0, 1) := by decide +kernel
theorem dX12_mayBeNow_31 : decode cX12_mayBeNow 31 = .ok (.iload_n 2, 1) := by decide +kernel
theorem dX12_mayBeNow_32 : decode cX12_mayBeNow 32 = .ok (.aload_n 0, 1) := by decide +kernel
theorem dX12_mayBeNow_33 : decode cX12_mayBeNow 33 = .ok (.getfield 32, 3) := by decide +kernel
theorem dX12_mayBeNow_36 : decode cX12_mayBeNow 36 = .ok (.iconst 3, 1) := by decide +kernel
theorem dX12_mayBeNow_37 : decode cX12_mayBeNow 37 = .ok (.iload 4, 2) := by decide +kernel
theorem dX12_mayBeNow_39 : decode cX12_mayBeNow 39 = .ok (.imul, 1) := by decide +kernel
theorem dX12_mayBeNow_40 : decode cX12_mayBeNow 40 = .ok (.iaload, 1) := by decide +kernel
theorem dX12_mayBeNow_41 : decode cX12_mayBeNow 41 = .ok (.aload_n 0, 1) := by decide +kernel
theorem dX12_mayBeNow_42 : decode cX12_mayBeNow 42 = .ok (.getfield 32, 3) := by decide +kernel
theorem dX12_mayBeNow_45 : decode cX12_mayBeNow 45 = .ok (.iconst 3, 1) := by decide +kernel
theorem dX12_mayBeNow_46 : decode cX12_mayBeNow 46 = .ok (.iload 4, 2) := by decide +kernel
theorem dX12_mayBeNow_48 : decode cX12_mayBeNow 48 = .ok (.imul, 1) := by decide +kernel
theorem dX12_mayBeNow_49 : decode cX12_mayBeNow 49 = .ok (.iconst 1, 1) := by decide +kernel
theorem dX12_mayBeNow_50 : decode cX12_mayBeNow 50 = .ok (.iadd, 1) := by decide +kernel
theorem dX12_mayBeNow_51 : decode cX12_mayBeNow 51 = .ok (.iaload, 1) := by decide +kernel
theorem dX12_mayBeNow_52 : decode cX12_mayBeNow 52 = .ok (.invokevirtual 265, 3) := by decide +kernel
theorem dX12_mayBeNow_55 : decode cX12_mayBeNow 55 = .ok (.aload_n 0, 1) := by decide +kernel
theorem dX12_mayBeNow_56 : decode cX12_mayBeNow 56 = .ok (.getfield 32, 3) := by decide +kernel
theorem dX12_mayBeNow_59 : decode cX12_mayBeNow 59 = .ok (.iconst 3, 1) := by decide +kernel
theorem dX12_mayBeNow_60 : decode cX12_mayBeNow 60 = .ok (.iload 4, 2) := by decide +kernel
theorem dX12_mayBeNow_62 : decode cX12_mayBeNow 62 = .ok (.imul, 1) := by decide +kernel
theorem dX12_mayBeNow_63 : decode cX12_mayBeNow 63 = .ok (.iconst 2, 1) := by decide +kernel
theorem dX12_mayBeNow_64 : decode cX12_mayBeNow 64 = .ok (.iadd, 1) := by decide +kernel
theorem dX12_mayBeNow_65 : decode cX12_mayBeNow 65 = .ok (.iaload, 1) := by decide +kernel
theorem dX12_mayBeNow_66 : decode cX12_mayBeNow 66 = .ok (.iconst 1, 1) := by decide +kernel
theorem dX12_mayBeNow_67 : decode cX12_mayBeNow 67 = .ok (.if_icmp .ne 7, 3) := by decide +kernel
theorem dX12_mayBeNow_70 : decode cX12_mayBeNow 70 = .ok (.iconst 1, 1) := by decide +kernel
theorem dX12_mayBeNow_71 : decode cX12_mayBeNow 71 = .ok (.goto 4, 3) := by decide +kernel
theorem dX12_mayBeNow_74 : decode cX12_mayBeNow 74 = .ok (.iconst 0, 1) := by decide +kernel
theorem dX12_mayBeNow_75 : decode cX12_mayBeNow 75 = .ok (.if_icmp .ne 7, 3) := by decide +kernel
theorem dX12_mayBeNow_78 : decode cX12_mayBeNow 78 = .ok (.iconst 1, 1) := by decide +kernel
theorem dX12_mayBeNow_79 : decode cX12_mayBeNow 79 = .ok (.goto 4, 3) := by decide +kernel
theorem dX12_mayBeNow_82 : decode cX12_mayBeNow 82 = .ok (.iconst 0, 1) := by decide +kernel
theorem dX12_mayBeNow_83 : decode cX12_mayBeNow 83 = .ok (.istore_n 3, 1) := by decide +kernel
theorem dX12_mayBeNow_84 : decode cX12_mayBeNow 84 = .ok (.iinc 4 1, 3) := by decide +kernel
theorem dX12_mayBeNow_87 : decode cX12_mayBeNow 87 = .ok (.goto (-70), 3) := by decide +kernel
theorem dX12_mayBeNow_90 : decode cX12_mayBeNow 90 = .ok (.iload_n 1, 1) := by decide +kernel
theorem dX12_mayBeNow_91 : decode cX12_mayBeNow 91 = .ok (.iload_n 3, 1) := by decide +kernel
theorem dX12_mayBeNow_92 : decode cX12_mayBeNow 92 = .ok (.ifCond .eq 9, 3) := by decide +kernel
theorem dX12_mayBeNow_95 : decode cX12_mayBeNow 95 = .ok (.iconst 1, 1) := by decide +kernel
theorem dX12_mayBeNow_96 : decode cX12_mayBeNow 96 = .ok (.iload_n 2, 1) := by decide +kernel
theorem dX12_mayBeNow_97 : decode cX12_mayBeNow 97 = .ok (.ishl, 1) := by decide +kernel
theorem dX12_mayBeNow_98 : decode cX12_mayBeNow 98 = .ok (.goto 4, 3) := by decide +kernel
theorem dX12_mayBeNow_101 : decode cX12_mayBeNow 101 = .ok (.iconst 0, 1) := by decide +kernel
theorem dX12_mayBeNow_102 : decode cX12_mayBeNow 102 = .ok (.ior, 1) := by decide +kernel
theorem dX12_mayBeNow_103 : decode cX12_mayBeNow 103 = .ok (.istore_n 1, 1) := by decide +kernel
theorem dX12_mayBeNow_104 : decode cX12_mayBeNow 104 = .ok (.iinc 2 1, 3) := by decide +kernel
theorem dX12_mayBeNow_107 : decode cX12_mayBeNow 107 = .ok (.goto (-103), 3) := by decide +kernel
theorem dX12_mayBeNow_110 : decode cX12_mayBeNow 110 = .ok (.iload_n 1, 1) := by decide +kernel
theorem dX12_mayBeNow_111 : decode cX12_mayBeNow 111 = .ok (.ireturn, 1) := by decide +kernel
theorem dX12_mayBe_0 : decode cX12_mayBe 0 = .ok (.aload_n 0, 1) := by decide +kernel
theorem dX12_mayBe_1 : decode cX12_mayBe 1 = .ok (.invokevirtual 268, 3) := by decide +kernel
theorem dX12_mayBe_4 : decode cX12_mayBe 4 = .ok (.ireturn, 1) := by decide +kernel
theorem dX12_ask_0 : decode cX12_ask 0 = .ok (.iload_n 1, 1) := by decide +kernel
theorem dX12_ask_1 : decode cX12_ask 1 = .ok (.iconst 0, 1) := by decide +kernel
theorem dX12_ask_2 : decode cX12_ask 2 = .ok (.iconst 1, 1) := by decide +kernel
theorem dX12_ask_3 : decode cX12_ask 3 = .ok (.invokestatic 73, 3) := by decide +kernel
theorem dX12_ask_6 : decode cX12_ask 6 = .ok (.ifCond .ne 5, 3) := by decide +kernel
theorem dX12_ask_9 : decode cX12_ask 9 = .ok (.iconst (-1), 1) := by decide +kernel
theorem dX12_ask_10 : decode cX12_ask 10 = .ok (.ireturn, 1) := by decide +kernel
theorem dX12_ask_11 : decode cX12_ask 11 = .ok (.aload_n 0, 1) := by decide +kernel
theorem dX12_ask_12 : decode cX12_ask 12 = .ok (.invokevirtual 268, 3) := by decide +kernel
theorem dX12_ask_15 : decode cX12_ask 15 = .ok (.istore_n 2, 1) := by decide +kernel
theorem dX12_ask_16 : decode cX12_ask 16 = .ok (.bipush (-9), 2) := by decide +kernel
theorem dX12_ask_18 : decode cX12_ask 18 = .ok (.istore_n 3, 1) := by decide +kernel
theorem dX12_ask_19 : decode cX12_ask 19 = .ok (.bipush 7, 2) := by decide +kernel
theorem dX12_ask_21 : decode cX12_ask 21 = .ok (.istore 4, 2) := by decide +kernel
theorem dX12_ask_23 : decode cX12_ask 23 = .ok (.iconst 0, 1) := by decide +kernel
theorem dX12_ask_24 : decode cX12_ask 24 = .ok (.istore 5, 2) := by decide +kernel
theorem dX12_ask_26 : decode cX12_ask 26 = .ok (.iload 5, 2) := by decide +kernel
theorem dX12_ask_28 : decode cX12_ask 28 = .ok (.bipush 40, 2) := by decide +kernel
theorem dX12_ask_30 : decode cX12_ask 30 = .ok (.aload_n 0, 1) := by decide +kernel
theorem dX12_ask_31 : decode cX12_ask 31 = .ok (.getfield 77, 3) := by decide +kernel
theorem dX12_ask_34 : decode cX12_ask 34 = .ok (.imul, 1) := by decide +kernel
theorem dX12_ask_35 : decode cX12_ask 35 = .ok (.if_icmp .ge 125, 3) := by decide +kernel
theorem dX12_ask_38 : decode cX12_ask 38 = .ok (.iconst 0, 1) := by decide +kernel
theorem dX12_ask_39 : decode cX12_ask 39 = .ok (.istore 6, 2) := by decide +kernel
theorem dX12_ask_41 : decode cX12_ask 41 = .ok (.iconst 0, 1) := by decide +kernel
theorem dX12_ask_42 : decode cX12_ask 42 = .ok (.istore 7, 2) := by decide +kernel
theorem dX12_ask_44 : decode cX12_ask 44 = .ok (.iload 7, 2) := by decide +kernel
theorem dX12_ask_46 : decode cX12_ask 46 = .ok (.aload_n 0, 1) := by decide +kernel
theorem dX12_ask_47 : decode cX12_ask 47 = .ok (.getfield 77, 3) := by decide +kernel
theorem dX12_ask_50 : decode cX12_ask 50 = .ok (.if_icmp .ge 49, 3) := by decide +kernel
theorem dX12_ask_53 : decode cX12_ask 53 = .ok (.iload 6, 2) := by decide +kernel
theorem dX12_ask_55 : decode cX12_ask 55 = .ok (.iload_n 2, 1) := by decide +kernel
theorem dX12_ask_56 : decode cX12_ask 56 = .ok (.iload 7, 2) := by decide +kernel
theorem dX12_ask_58 : decode cX12_ask 58 = .ok (.invokestatic 253, 3) := by decide +kernel
theorem dX12_ask_61 : decode cX12_ask 61 = .ok (.ifCond .eq 28, 3) := by decide +kernel
theorem dX12_ask_64 : decode cX12_ask 64 = .ok (.aload_n 0, 1) := by decide +kernel
theorem dX12_ask_65 : decode cX12_ask 65 = .ok (.iload 7, 2) := by decide +kernel
theorem dX12_ask_67 : decode cX12_ask 67 = .ok (.iload 5, 2) := by decide +kernel
theorem dX12_ask_69 : decode cX12_ask 69 = .ok (.bipush 40, 2) := by decide +kernel
theorem dX12_ask_71 : decode cX12_ask 71 = .ok (.idiv, 1) := by decide +kernel
theorem dX12_ask_72 : decode cX12_ask 72 = .ok (.iload 5, 2) := by decide +kernel
theorem dX12_ask_74 : decode cX12_ask 74 = .ok (.bipush 40, 2) := by decide +kernel
theorem dX12_ask_76 : decode cX12_ask 76 = .ok (.irem, 1) := by decide +kernel
theorem dX12_ask_77 : decode cX12_ask 77 = .ok (.iconst 1, 1) := by decide +kernel
theorem dX12_ask_78 : decode cX12_ask 78 = .ok (.iadd, 1) := by decide +kernel
theorem dX12_ask_79 : decode cX12_ask 79 = .ok (.invokevirtual 265, 3) := by decide +kernel
theorem dX12_ask_82 : decode cX12_ask 82 = .ok (.ifCond .eq 7, 3) := by decide +kernel
theorem dX12_ask_85 : decode cX12_ask 85 = .ok (.iconst 1, 1) := by decide +kernel
theorem dX12_ask_86 : decode cX12_ask 86 = .ok (.goto 4, 3) := by decide +kernel
theorem dX12_ask_89 : decode cX12_ask 89 = .ok (.iconst 0, 1) := by decide +kernel
theorem dX12_ask_90 : decode cX12_ask 90 = .ok (.iadd, 1) := by decide +kernel
theorem dX12_ask_91 : decode cX12_ask 91 = .ok (.istore 6, 2) := by decide +kernel
theorem dX12_ask_93 : decode cX12_ask 93 = .ok (.iinc 7 1, 3) := by decide +kernel
theorem dX12_ask_96 : decode cX12_ask 96 = .ok (.goto (-52), 3) := by decide +kernel
theorem dX12_ask_99 : decode cX12_ask 99 = .ok (.iload_n 2, 1) := by decide +kernel
theorem dX12_ask_100 : decode cX12_ask 100 = .ok (.invokestatic 262, 3) := by decide +kernel
theorem dX12_ask_103 : decode cX12_ask 103 = .ok (.iload 6, 2) := by decide +kernel
theorem dX12_ask_105 : decode cX12_ask 105 = .ok (.isub, 1) := by decide +kernel
theorem dX12_ask_106 : decode cX12_ask 106 = .ok (.istore 7, 2) := by decide +kernel
theorem dX12_ask_108 : decode cX12_ask 108 = .ok (.iload 6, 2) := by decide +kernel
theorem dX12_ask_110 : decode cX12_ask 110 = .ok (.iload 7, 2) := by decide +kernel
theorem dX12_ask_112 : decode cX12_ask 112 = .ok (.if_icmp .le 8, 3) := by decide +kernel
theorem dX12_ask_115 : decode cX12_ask 115 = .ok (.iload 6, 2) := by decide +kernel
theorem dX12_ask_117 : decode cX12_ask 117 = .ok (.goto 5, 3) := by decide +kernel
theorem dX12_ask_120 : decode cX12_ask 120 = .ok (.iload 7, 2) := by decide +kernel
theorem dX12_ask_122 : decode cX12_ask 122 = .ok (.istore 8, 2) := by decide +kernel
theorem dX12_ask_124 : decode cX12_ask 124 = .ok (.iload 8, 2) := by decide +kernel
theorem dX12_ask_126 : decode cX12_ask 126 = .ok (.iload 4, 2) := by decide +kernel
theorem dX12_ask_128 : decode cX12_ask 128 = .ok (.if_icmp .ge 8, 3) := by decide +kernel
theorem dX12_ask_131 : decode cX12_ask 131 = .ok (.iload 5, 2) := by decide +kernel
theorem dX12_ask_133 : decode cX12_ask 133 = .ok (.goto 4, 3) := by decide +kernel
theorem dX12_ask_136 : decode cX12_ask 136 = .ok (.iload_n 3, 1) := by decide +kernel
theorem dX12_ask_137 : decode cX12_ask 137 = .ok (.istore_n 3, 1) := by decide +kernel
theorem dX12_ask_138 : decode cX12_ask 138 = .ok (.iload 8, 2) := by decide +kernel
theorem dX12_ask_140 : decode cX12_ask 140 = .ok (.iload 4, 2) := by decide +kernel
theorem dX12_ask_142 : decode cX12_ask 142 = .ok (.if_icmp .ge 8, 3) := by decide +kernel
theorem dX12_ask_145 : decode cX12_ask 145 = .ok (.iload 8, 2) := by decide +kernel
theorem dX12_ask_147 : decode cX12_ask 147 = .ok (.goto 5, 3) := by decide +kernel
theorem dX12_ask_150 : decode cX12_ask 150 = .ok (.iload 4, 2) := by decide +kernel
theorem dX12_ask_152 : decode cX12_ask 152 = .ok (.istore 4, 2) := by decide +kernel
theorem dX12_ask_154 : decode cX12_ask 154 = .ok (.iinc 5 1, 3) := by decide +kernel
theorem dX12_ask_157 : decode cX12_ask 157 = .ok (.goto (-131), 3) := by decide +kernel
theorem dX12_ask_160 : decode cX12_ask 160 = .ok (.iload_n 3, 1) := by decide +kernel
theorem dX12_ask_161 : decode cX12_ask 161 = .ok (.bipush (-9), 2) := by decide +kernel
theorem dX12_ask_163 : decode cX12_ask 163 = .ok (.if_icmp .ne 8, 3) := by decide +kernel
theorem dX12_ask_166 : decode cX12_ask 166 = .ok (.bipush (-9), 2) := by decide +kernel
theorem dX12_ask_168 : decode cX12_ask 168 = .ok (.goto 20, 3) := by decide +kernel
theorem dX12_ask_171 : decode cX12_ask 171 = .ok (.iload_n 1, 1) := by decide +kernel
theorem dX12_ask_172 : decode cX12_ask 172 = .ok (.ifCond .ne 10, 3) := by decide +kernel
theorem dX12_ask_175 : decode cX12_ask 175 = .ok (.iload_n 3, 1) := by decide +kernel
theorem dX12_ask_176 : decode cX12_ask 176 = .ok (.bipush 40, 2) := by decide +kernel
theorem dX12_ask_178 : decode cX12_ask 178 = .ok (.idiv, 1) := by decide +kernel
theorem dX12_ask_179 : decode cX12_ask 179 = .ok (.goto 9, 3) := by decide +kernel
theorem dX12_ask_182 : decode cX12_ask 182 = .ok (.iload_n 3, 1) := by decide +kernel
theorem dX12_ask_183 : decode cX12_ask 183 = .ok (.bipush 40, 2) := by decide +kernel
theorem dX12_ask_185 : decode cX12_ask 185 = .ok (.irem, 1) := by decide +kernel
theorem dX12_ask_186 : decode cX12_ask 186 = .ok (.iconst 1, 1) := by decide +kernel
theorem dX12_ask_187 : decode cX12_ask 187 = .ok (.iadd, 1) := by decide +kernel
theorem dX12_ask_188 : decode cX12_ask 188 = .ok (.ireturn, 1) := by decide +kernel
theorem dX12_childRate_0 : decode cX12_childRate 0 = .ok (.aload_n 0, 1) := by decide +kernel
theorem dX12_childRate_1 : decode cX12_childRate 1 = .ok (.dup, 1) := by decide +kernel
theorem dX12_childRate_2 : decode cX12_childRate 2 = .ok (.getfield 271, 3) := by decide +kernel
theorem dX12_childRate_5 : decode cX12_childRate 5 = .ok (.lconst 1, 1) := by decide +kernel
theorem dX12_childRate_6 : decode cX12_childRate 6 = .ok (.ladd, 1) := by decide +kernel
theorem dX12_childRate_7 : decode cX12_childRate 7 = .ok (.putfield 271, 3) := by decide +kernel
theorem dX12_childRate_10 : decode cX12_childRate 10 = .ok (.aload_n 0, 1) := by decide +kernel
theorem dX12_childRate_11 : decode cX12_childRate 11 = .ok (.getfield 16, 3) := by decide +kernel
theorem dX12_childRate_14 : decode cX12_childRate 14 = .ok (.iconst 2, 1) := by decide +kernel
theorem dX12_childRate_15 : decode cX12_childRate 15 = .ok (.iload_n 1, 1) := by decide +kernel
theorem dX12_childRate_16 : decode cX12_childRate 16 = .ok (.imul, 1) := by decide +kernel
theorem dX12_childRate_17 : decode cX12_childRate 17 = .ok (.iaload, 1) := by decide +kernel
theorem dX12_childRate_18 : decode cX12_childRate 18 = .ok (.ireturn, 1) := by decide +kernel
theorem dX12_climberRate_0 : decode cX12_climberRate 0 = .ok (.aload_n 0, 1) := by decide +kernel
theorem dX12_climberRate_1 : decode cX12_climberRate 1 = .ok (.dup, 1) := by decide +kernel
theorem dX12_climberRate_2 : decode cX12_climberRate 2 = .ok (.getfield 271, 3) := by decide +kernel
theorem dX12_climberRate_5 : decode cX12_climberRate 5 = .ok (.ldc2_w 275, 3) := by decide +kernel
theorem dX12_climberRate_8 : decode cX12_climberRate 8 = .ok (.ladd, 1) := by decide +kernel
theorem dX12_climberRate_9 : decode cX12_climberRate 9 = .ok (.putfield 271, 3) := by decide +kernel
theorem dX12_climberRate_12 : decode cX12_climberRate 12 = .ok (.aload_n 0, 1) := by decide +kernel
theorem dX12_climberRate_13 : decode cX12_climberRate 13 = .ok (.getfield 19, 3) := by decide +kernel
theorem dX12_climberRate_16 : decode cX12_climberRate 16 = .ok (.iconst 1, 1) := by decide +kernel
theorem dX12_climberRate_17 : decode cX12_climberRate 17 = .ok (.iload_n 1, 1) := by decide +kernel
theorem dX12_climberRate_18 : decode cX12_climberRate 18 = .ok (.iadd, 1) := by decide +kernel
theorem dX12_climberRate_19 : decode cX12_climberRate 19 = .ok (.iaload, 1) := by decide +kernel
theorem dX12_climberRate_20 : decode cX12_climberRate 20 = .ok (.istore_n 2, 1) := by decide +kernel
theorem dX12_climberRate_21 : decode cX12_climberRate 21 = .ok (.aload_n 0, 1) := by decide +kernel
theorem dX12_climberRate_22 : decode cX12_climberRate 22 = .ok (.iload_n 1, 1) := by decide +kernel
theorem dX12_climberRate_23 : decode cX12_climberRate 23 = .ok (.invokevirtual 277, 3) := by decide +kernel
theorem dX12_climberRate_26 : decode cX12_climberRate 26 = .ok (.iload_n 2, 1) := by decide +kernel
theorem dX12_climberRate_27 : decode cX12_climberRate 27 = .ok (.bipush (-9), 2) := by decide +kernel
theorem dX12_climberRate_29 : decode cX12_climberRate 29 = .ok (.if_icmp .ne 7, 3) := by decide +kernel
theorem dX12_climberRate_32 : decode cX12_climberRate 32 = .ok (.iconst 0, 1) := by decide +kernel
theorem dX12_climberRate_33 : decode cX12_climberRate 33 = .ok (.goto 18, 3) := by decide +kernel
theorem dX12_climberRate_36 : decode cX12_climberRate 36 = .ok (.aload_n 0, 1) := by decide +kernel
theorem dX12_climberRate_37 : decode cX12_climberRate 37 = .ok (.getfield 7, 3) := by decide +kernel
theorem dX12_climberRate_40 : decode cX12_climberRate 40 = .ok (.iconst 3, 1) := by decide +kernel
theorem dX12_climberRate_41 : decode cX12_climberRate 41 = .ok (.aload_n 0, 1) := by decide +kernel
theorem dX12_climberRate_42 : decode cX12_climberRate 42 = .ok (.getfield 13, 3) := by decide +kernel
theorem dX12_climberRate_45 : decode cX12_climberRate 45 = .ok (.iconst 3, 1) := by decide +kernel
theorem dX12_climberRate_46 : decode cX12_climberRate 46 = .ok (.iload_n 2, 1) := by decide +kernel
theorem dX12_climberRate_47 : decode cX12_climberRate 47 = .ok (.imul, 1) := by decide +kernel
theorem dX12_climberRate_48 : decode cX12_climberRate 48 = .ok (.iaload, 1) := by decide +kernel
theorem dX12_climberRate_49 : decode cX12_climberRate 49 = .ok (.imul, 1) := by decide +kernel
theorem dX12_climberRate_50 : decode cX12_climberRate 50 = .ok (.iaload, 1) := by decide +kernel
theorem dX12_climberRate_51 : decode cX12_climberRate 51 = .ok (.iadd, 1) := by decide +kernel
theorem dX12_climberRate_52 : decode cX12_climberRate 52 = .ok (.ireturn, 1) := by decide +kernel
theorem dX12_guestRate_0 : decode cX12_guestRate 0 = .ok (.aload_n 0, 1) := by decide +kernel
theorem dX12_guestRate_1 : decode cX12_guestRate 1 = .ok (.dup, 1) := by decide +kernel
theorem dX12_guestRate_2 : decode cX12_guestRate 2 = .ok (.getfield 271, 3) := by decide +kernel
theorem dX12_guestRate_5 : decode cX12_guestRate 5 = .ok (.ldc2_w 280, 3) := by decide +kernel
theorem dX12_guestRate_8 : decode cX12_guestRate 8 = .ok (.ladd, 1) := by decide +kernel
theorem dX12_guestRate_9 : decode cX12_guestRate 9 = .ok (.putfield 271, 3) := by decide +kernel
theorem dX12_guestRate_12 : decode cX12_guestRate 12 = .ok (.aload_n 0, 1) := by decide +kernel
theorem dX12_guestRate_13 : decode cX12_guestRate 13 = .ok (.iload_n 1, 1) := by decide +kernel
theorem dX12_guestRate_14 : decode cX12_guestRate 14 = .ok (.invokevirtual 277, 3) := by decide +kernel
theorem dX12_guestRate_17 : decode cX12_guestRate 17 = .ok (.aload_n 0, 1) := by decide +kernel
theorem dX12_guestRate_18 : decode cX12_guestRate 18 = .ok (.getfield 16, 3) := by decide +kernel
theorem dX12_guestRate_21 : decode cX12_guestRate 21 = .ok (.iconst 2, 1) := by decide +kernel
theorem dX12_guestRate_22 : decode cX12_guestRate 22 = .ok (.iload_n 1, 1) := by decide +kernel
theorem dX12_guestRate_23 : decode cX12_guestRate 23 = .ok (.imul, 1) := by decide +kernel
theorem dX12_guestRate_24 : decode cX12_guestRate 24 = .ok (.iconst 1, 1) := by decide +kernel
theorem dX12_guestRate_25 : decode cX12_guestRate 25 = .ok (.iadd, 1) := by decide +kernel
theorem dX12_guestRate_26 : decode cX12_guestRate 26 = .ok (.iaload, 1) := by decide +kernel
theorem dX12_guestRate_27 : decode cX12_guestRate 27 = .ok (.isub, 1) := by decide +kernel
theorem dX12_guestRate_28 : decode cX12_guestRate 28 = .ok (.ireturn, 1) := by decide +kernel
theorem dX12_rate_0 : decode cX12_rate 0 = .ok (.iload_n 1, 1) := by decide +kernel
theorem dX12_rate_1 : decode cX12_rate 1 = .ok (.iconst 0, 1) := by decide +kernel
theorem dX12_rate_2 : decode cX12_rate 2 = .ok (.iconst 5, 1) := by decide +kernel
theorem dX12_rate_3 : decode cX12_rate 3 = .ok (.invokestatic 73, 3) := by decide +kernel
theorem dX12_rate_6 : decode cX12_rate 6 = .ok (.ifCond .eq 11, 3) := by decide +kernel
theorem dX12_rate_9 : decode cX12_rate 9 = .ok (.aload_n 0, 1) := by decide +kernel
theorem dX12_rate_10 : decode cX12_rate 10 = .ok (.iload_n 2, 1) := by decide +kernel
theorem dX12_rate_11 : decode cX12_rate 11 = .ok (.invokevirtual 192, 3) := by decide +kernel
theorem dX12_rate_14 : decode cX12_rate 14 = .ok (.ifCond .ne 7, 3) := by decide +kernel
theorem dX12_rate_17 : decode cX12_rate 17 = .ok (.ldc_w 282, 3) := by decide +kernel
theorem dX12_rate_20 : decode cX12_rate 20 = .ok (.ireturn, 1) := by decide +kernel
theorem dX12_rate_21 : decode cX12_rate 21 = .ok (.iload_n 1, 1) := by decide +kernel
theorem dX12_rate_22 : decode cX12_rate 22 = .ok (.tableswitch 92 0 4 #[34, 40, 46, 52, 72], 34) := by decide +kernel
theorem dX12_rate_56 : decode cX12_rate 56 = .ok (.aload_n 0, 1) := by decide +kernel
theorem dX12_rate_57 : decode cX12_rate 57 = .ok (.iload_n 2, 1) := by decide +kernel
theorem dX12_rate_58 : decode cX12_rate 58 = .ok (.invokevirtual 277, 3) := by decide +kernel
theorem dX12_rate_61 : decode cX12_rate 61 = .ok (.ireturn, 1) := by decide +kernel
theorem dX12_rate_62 : decode cX12_rate 62 = .ok (.aload_n 0, 1) := by decide +kernel
theorem dX12_rate_63 : decode cX12_rate 63 = .ok (.iload_n 2, 1) := by decide +kernel
theorem dX12_rate_64 : decode cX12_rate 64 = .ok (.invokevirtual 283, 3) := by decide +kernel
theorem dX12_rate_67 : decode cX12_rate 67 = .ok (.ireturn, 1) := by decide +kernel
theorem dX12_rate_68 : decode cX12_rate 68 = .ok (.aload_n 0, 1) := by decide +kernel
theorem dX12_rate_69 : decode cX12_rate 69 = .ok (.iload_n 2, 1) := by decide +kernel
theorem dX12_rate_70 : decode cX12_rate 70 = .ok (.invokevirtual 286, 3) := by decide +kernel
theorem dX12_rate_73 : decode cX12_rate 73 = .ok (.ireturn, 1) := by decide +kernel
theorem dX12_rate_74 : decode cX12_rate 74 = .ok (.aload_n 0, 1) := by decide +kernel
theorem dX12_rate_75 : decode cX12_rate 75 = .ok (.dup, 1) := by decide +kernel
theorem dX12_rate_76 : decode cX12_rate 76 = .ok (.getfield 271, 3) := by decide +kernel
theorem dX12_rate_79 : decode cX12_rate 79 = .ok (.ldc2_w 289, 3) := by decide +kernel
theorem dX12_rate_82 : decode cX12_rate 82 = .ok (.ladd, 1) := by decide +kernel
theorem dX12_rate_83 : decode cX12_rate 83 = .ok (.putfield 271, 3) := by decide +kernel
theorem dX12_rate_86 : decode cX12_rate 86 = .ok (.iconst 2, 1) := by decide +kernel
theorem dX12_rate_87 : decode cX12_rate 87 = .ok (.aload_n 0, 1) := by decide +kernel
theorem dX12_rate_88 : decode cX12_rate 88 = .ok (.iload_n 2, 1) := by decide +kernel
theorem dX12_rate_89 : decode cX12_rate 89 = .ok (.invokevirtual 283, 3) := by decide +kernel
theorem dX12_rate_92 : decode cX12_rate 92 = .ok (.imul, 1) := by decide +kernel
theorem dX12_rate_93 : decode cX12_rate 93 = .ok (.ireturn, 1) := by decide +kernel
theorem dX12_rate_94 : decode cX12_rate 94 = .ok (.aload_n 0, 1) := by decide +kernel
theorem dX12_rate_95 : decode cX12_rate 95 = .ok (.dup, 1) := by decide +kernel
theorem dX12_rate_96 : decode cX12_rate 96 = .ok (.getfield 271, 3) := by decide +kernel
theorem dX12_rate_99 : decode cX12_rate 99 = .ok (.ldc2_w 291, 3) := by decide +kernel
theorem dX12_rate_102 : decode cX12_rate 102 = .ok (.ladd, 1) := by decide +kernel
theorem dX12_rate_103 : decode cX12_rate 103 = .ok (.putfield 271, 3) := by decide +kernel
theorem dX12_rate_106 : decode cX12_rate 106 = .ok (.aload_n 0, 1) := by decide +kernel
theorem dX12_rate_107 : decode cX12_rate 107 = .ok (.iload_n 2, 1) := by decide +kernel
theorem dX12_rate_108 : decode cX12_rate 108 = .ok (.invokevirtual 286, 3) := by decide +kernel
theorem dX12_rate_111 : decode cX12_rate 111 = .ok (.iload_n 2, 1) := by decide +kernel
theorem dX12_rate_112 : decode cX12_rate 112 = .ok (.iadd, 1) := by decide +kernel
theorem dX12_rate_113 : decode cX12_rate 113 = .ok (.ireturn, 1) := by decide +kernel
theorem dX12_rate_114 : decode cX12_rate 114 = .ok (.aload_n 0, 1) := by decide +kernel
theorem dX12_rate_115 : decode cX12_rate 115 = .ok (.dup, 1) := by decide +kernel
theorem dX12_rate_116 : decode cX12_rate 116 = .ok (.getfield 271, 3) := by decide +kernel
theorem dX12_rate_119 : decode cX12_rate 119 = .ok (.ldc2_w 293, 3) := by decide +kernel
theorem dX12_rate_122 : decode cX12_rate 122 = .ok (.ladd, 1) := by decide +kernel
theorem dX12_rate_123 : decode cX12_rate 123 = .ok (.putfield 271, 3) := by decide +kernel
theorem dX12_rate_126 : decode cX12_rate 126 = .ok (.aload_n 0, 1) := by decide +kernel
theorem dX12_rate_127 : decode cX12_rate 127 = .ok (.iload_n 2, 1) := by decide +kernel
theorem dX12_rate_128 : decode cX12_rate 128 = .ok (.invokevirtual 277, 3) := by decide +kernel
theorem dX12_rate_131 : decode cX12_rate 131 = .ok (.aload_n 0, 1) := by decide +kernel
theorem dX12_rate_132 : decode cX12_rate 132 = .ok (.aload_n 0, 1) := by decide +kernel
theorem dX12_rate_133 : decode cX12_rate 133 = .ok (.getfield 19, 3) := by decide +kernel
theorem dX12_rate_136 : decode cX12_rate 136 = .ok (.bipush 6, 2) := by decide +kernel
theorem dX12_rate_138 : decode cX12_rate 138 = .ok (.invokevirtual 212, 3) := by decide +kernel
theorem dX12_rate_141 : decode cX12_rate 141 = .ok (.iadd, 1) := by decide +kernel
theorem dX12_rate_142 : decode cX12_rate 142 = .ok (.ireturn, 1) := by decide +kernel
theorem dX12_keep_0 : decode cX12_keep 0 = .ok (.iload_n 1, 1) := by decide +kernel
theorem dX12_keep_1 : decode cX12_keep 1 = .ok (.iconst 0, 1) := by decide +kernel
theorem dX12_keep_2 : decode cX12_keep 2 = .ok (.iconst 1, 1) := by decide +kernel
theorem dX12_keep_3 : decode cX12_keep 3 = .ok (.invokestatic 73, 3) := by decide +kernel
theorem dX12_keep_6 : decode cX12_keep 6 = .ok (.ifCond .ne 5, 3) := by decide +kernel
theorem dX12_keep_9 : decode cX12_keep 9 = .ok (.iconst (-1), 1) := by decide +kernel
theorem dX12_keep_10 : decode cX12_keep 10 = .ok (.ireturn, 1) := by decide +kernel
theorem dX12_keep_11 : decode cX12_keep 11 = .ok (.iconst 0, 1) := by decide +kernel
theorem dX12_keep_12 : decode cX12_keep 12 = .ok (.istore_n 2, 1) := by decide +kernel
theorem dX12_keep_13 : decode cX12_keep 13 = .ok (.iload_n 2, 1) := by decide +kernel
theorem dX12_keep_14 : decode cX12_keep 14 = .ok (.bipush 42, 2) := by decide +kernel
theorem dX12_keep_16 : decode cX12_keep 16 = .ok (.if_icmp .ge 26, 3) := by decide +kernel
theorem dX12_keep_19 : decode cX12_keep 19 = .ok (.aload_n 0, 1) := by decide +kernel
theorem dX12_keep_20 : decode cX12_keep 20 = .ok (.getfield 25, 3) := by decide +kernel
theorem dX12_keep_23 : decode cX12_keep 23 = .ok (.bipush 42, 2) := by decide +kernel
theorem dX12_keep_25 : decode cX12_keep 25 = .ok (.iload_n 1, 1) := by decide +kernel
theorem dX12_keep_26 : decode cX12_keep 26 = .ok (.imul, 1) := by decide +kernel
theorem dX12_keep_27 : decode cX12_keep 27 = .ok (.iload_n 2, 1) := by decide +kernel
theorem dX12_keep_28 : decode cX12_keep 28 = .ok (.iadd, 1) := by decide +kernel
theorem dX12_keep_29 : decode cX12_keep 29 = .ok (.aload_n 0, 1) := by decide +kernel
theorem dX12_keep_30 : decode cX12_keep 30 = .ok (.getfield 19, 3) := by decide +kernel
theorem dX12_keep_33 : decode cX12_keep 33 = .ok (.iload_n 2, 1) := by decide +kernel
theorem dX12_keep_34 : decode cX12_keep 34 = .ok (.iaload, 1) := by decide +kernel
theorem dX12_keep_35 : decode cX12_keep 35 = .ok (.iastore, 1) := by decide +kernel
theorem dX12_keep_36 : decode cX12_keep 36 = .ok (.iinc 2 1, 3) := by decide +kernel
theorem dX12_keep_39 : decode cX12_keep 39 = .ok (.goto (-26), 3) := by decide +kernel
theorem dX12_keep_42 : decode cX12_keep 42 = .ok (.aload_n 0, 1) := by decide +kernel
theorem dX12_keep_43 : decode cX12_keep 43 = .ok (.getfield 28, 3) := by decide +kernel
theorem dX12_keep_46 : decode cX12_keep 46 = .ok (.iload_n 1, 1) := by decide +kernel
theorem dX12_keep_47 : decode cX12_keep 47 = .ok (.iconst 1, 1) := by decide +kernel
theorem dX12_keep_48 : decode cX12_keep 48 = .ok (.bastore, 1) := by decide +kernel
theorem dX12_keep_49 : decode cX12_keep 49 = .ok (.aload_n 0, 1) := by decide +kernel
theorem dX12_keep_50 : decode cX12_keep 50 = .ok (.getfield 19, 3) := by decide +kernel
theorem dX12_keep_53 : decode cX12_keep 53 = .ok (.iconst 0, 1) := by decide +kernel
theorem dX12_keep_54 : decode cX12_keep 54 = .ok (.iaload, 1) := by decide +kernel
theorem dX12_keep_55 : decode cX12_keep 55 = .ok (.ireturn, 1) := by decide +kernel
theorem dX12_back_0 : decode cX12_back 0 = .ok (.iload_n 1, 1) := by decide +kernel
theorem dX12_back_1 : decode cX12_back 1 = .ok (.iconst 0, 1) := by decide +kernel
theorem dX12_back_2 : decode cX12_back 2 = .ok (.iconst 1, 1) := by decide +kernel
theorem dX12_back_3 : decode cX12_back 3 = .ok (.invokestatic 73, 3) := by decide +kernel
theorem dX12_back_6 : decode cX12_back 6 = .ok (.ifCond .ne 5, 3) := by decide +kernel
theorem dX12_back_9 : decode cX12_back 9 = .ok (.iconst (-1), 1) := by decide +kernel
theorem dX12_back_10 : decode cX12_back 10 = .ok (.ireturn, 1) := by decide +kernel
theorem dX12_back_11 : decode cX12_back 11 = .ok (.aload_n 0, 1) := by decide +kernel
theorem dX12_back_12 : decode cX12_back 12 = .ok (.getfield 28, 3) := by decide +kernel
theorem dX12_back_15 : decode cX12_back 15 = .ok (.iload_n 1, 1) := by decide +kernel
theorem dX12_back_16 : decode cX12_back 16 = .ok (.baload, 1) := by decide +kernel
theorem dX12_back_17 : decode cX12_back 17 = .ok (.ifCond .ne 6, 3) := by decide +kernel
theorem dX12_back_20 : decode cX12_back 20 = .ok (.bipush (-2), 2) := by decide +kernel
theorem dX12_back_22 : decode cX12_back 22 = .ok (.ireturn, 1) := by decide +kernel
theorem dX12_back_23 : decode cX12_back 23 = .ok (.iconst 0, 1) := by decide +kernel
theorem dX12_back_24 : decode cX12_back 24 = .ok (.istore_n 2, 1) := by decide +kernel
theorem dX12_back_25 : decode cX12_back 25 = .ok (.iload_n 2, 1) := by decide +kernel
theorem dX12_back_26 : decode cX12_back 26 = .ok (.bipush 42, 2) := by decide +kernel
theorem dX12_back_28 : decode cX12_back 28 = .ok (.if_icmp .ge 26, 3) := by decide +kernel
theorem dX12_back_31 : decode cX12_back 31 = .ok (.aload_n 0, 1) := by decide +kernel
theorem dX12_back_32 : decode cX12_back 32 = .ok (.getfield 19, 3) := by decide +kernel
theorem dX12_back_35 : decode cX12_back 35 = .ok (.iload_n 2, 1) := by decide +kernel
theorem dX12_back_36 : decode cX12_back 36 = .ok (.aload_n 0, 1) := by decide +kernel
theorem dX12_back_37 : decode cX12_back 37 = .ok (.getfield 25, 3) := by decide +kernel
theorem dX12_back_40 : decode cX12_back 40 = .ok (.bipush 42, 2) := by decide +kernel
theorem dX12_back_42 : decode cX12_back 42 = .ok (.iload_n 1, 1) := by decide +kernel
theorem dX12_back_43 : decode cX12_back 43 = .ok (.imul, 1) := by decide +kernel
theorem dX12_back_44 : decode cX12_back 44 = .ok (.iload_n 2, 1) := by decide +kernel
theorem dX12_back_45 : decode cX12_back 45 = .ok (.iadd, 1) := by decide +kernel
theorem dX12_back_46 : decode cX12_back 46 = .ok (.iaload, 1) := by decide +kernel
theorem dX12_back_47 : decode cX12_back 47 = .ok (.iastore, 1) := by decide +kernel
theorem dX12_back_48 : decode cX12_back 48 = .ok (.iinc 2 1, 3) := by decide +kernel
theorem dX12_back_51 : decode cX12_back 51 = .ok (.goto (-26), 3) := by decide +kernel
theorem dX12_back_54 : decode cX12_back 54 = .ok (.aload_n 0, 1) := by decide +kernel
theorem dX12_back_55 : decode cX12_back 55 = .ok (.iconst 0, 1) := by decide +kernel
theorem dX12_back_56 : decode cX12_back 56 = .ok (.putfield 142, 3) := by decide +kernel
theorem dX12_back_59 : decode cX12_back 59 = .ok (.aload_n 0, 1) := by decide +kernel
theorem dX12_back_60 : decode cX12_back 60 = .ok (.getfield 19, 3) := by decide +kernel
theorem dX12_back_63 : decode cX12_back 63 = .ok (.iconst 0, 1) := by decide +kernel
theorem dX12_back_64 : decode cX12_back 64 = .ok (.iaload, 1) := by decide +kernel
theorem dX12_back_65 : decode cX12_back 65 = .ok (.ireturn, 1) := by decide +kernel
theorem dX12_count_0 : decode cX12_count 0 = .ok (.iload_n 1, 1) := by decide +kernel
theorem dX12_count_1 : decode cX12_count 1 = .ok (.tableswitch 75 0 5 #[39, 44, 49, 54, 59, 70], 39) := by decide +kernel
theorem dX12_count_40 : decode cX12_count 40 = .ok (.aload_n 0, 1) := by decide +kernel
theorem dX12_count_41 : decode cX12_count 41 = .ok (.getfield 69, 3) := by decide +kernel
theorem dX12_count_44 : decode cX12_count 44 = .ok (.ireturn, 1) := by decide +kernel
theorem dX12_count_45 : decode cX12_count 45 = .ok (.aload_n 0, 1) := by decide +kernel
theorem dX12_count_46 : decode cX12_count 46 = .ok (.getfield 77, 3) := by decide +kernel
theorem dX12_count_49 : decode cX12_count 49 = .ok (.ireturn, 1) := by decide +kernel
theorem dX12_count_50 : decode cX12_count 50 = .ok (.aload_n 0, 1) := by decide +kernel
theorem dX12_count_51 : decode cX12_count 51 = .ok (.getfield 80, 3) := by decide +kernel
theorem dX12_count_54 : decode cX12_count 54 = .ok (.ireturn, 1) := by decide +kernel
theorem dX12_count_55 : decode cX12_count 55 = .ok (.aload_n 0, 1) := by decide +kernel
theorem dX12_count_56 : decode cX12_count 56 = .ok (.getfield 145, 3) := by decide +kernel
theorem dX12_count_59 : decode cX12_count 59 = .ok (.ireturn, 1) := by decide +kernel
theorem dX12_count_60 : decode cX12_count 60 = .ok (.aload_n 0, 1) := by decide +kernel
theorem dX12_count_61 : decode cX12_count 61 = .ok (.aload_n 0, 1) := by decide +kernel
theorem dX12_count_62 : decode cX12_count 62 = .ok (.getfield 19, 3) := by decide +kernel
theorem dX12_count_65 : decode cX12_count 65 = .ok (.bipush 6, 2) := by decide +kernel
theorem dX12_count_67 : decode cX12_count 67 = .ok (.invokevirtual 212, 3) := by decide +kernel
theorem dX12_count_70 : decode cX12_count 70 = .ok (.ireturn, 1) := by decide +kernel
theorem dX12_count_71 : decode cX12_count 71 = .ok (.aload_n 0, 1) := by decide +kernel
theorem dX12_count_72 : decode cX12_count 72 = .ok (.getfield 83, 3) := by decide +kernel
theorem dX12_count_75 : decode cX12_count 75 = .ok (.ireturn, 1) := by decide +kernel
theorem dX12_count_76 : decode cX12_count 76 = .ok (.iconst (-1), 1) := by decide +kernel
theorem dX12_count_77 : decode cX12_count 77 = .ok (.ireturn, 1) := by decide +kernel
theorem dX12_trace_0 : decode cX12_trace 0 = .ok (.aload_n 0, 1) := by decide +kernel
theorem dX12_trace_1 : decode cX12_trace 1 = .ok (.getfield 271, 3) := by decide +kernel
theorem dX12_trace_4 : decode cX12_trace 4 = .ok (.lreturn, 1) := by decide +kernel
theorem dJ6_numberOfTrailingZeros_0f7a4_0 : decode cJ6_numberOfTrailingZeros_0f7a4 0 = .ok (.iload_n 0, 1) := by decide +kernel
theorem dJ6_numberOfTrailingZeros_0f7a4_1 : decode cJ6_numberOfTrailingZeros_0f7a4 1 = .ok (.iconst (-1), 1) := by decide +kernel
theorem dJ6_numberOfTrailingZeros_0f7a4_2 : decode cJ6_numberOfTrailingZeros_0f7a4 2 = .ok (.ixor, 1) := by decide +kernel
theorem dJ6_numberOfTrailingZeros_0f7a4_3 : decode cJ6_numberOfTrailingZeros_0f7a4 3 = .ok (.iload_n 0, 1) := by decide +kernel
theorem dJ6_numberOfTrailingZeros_0f7a4_4 : decode cJ6_numberOfTrailingZeros_0f7a4 4 = .ok (.iconst 1, 1) := by decide +kernel
theorem dJ6_numberOfTrailingZeros_0f7a4_5 : decode cJ6_numberOfTrailingZeros_0f7a4 5 = .ok (.isub, 1) := by decide +kernel
theorem dJ6_numberOfTrailingZeros_0f7a4_6 : decode cJ6_numberOfTrailingZeros_0f7a4 6 = .ok (.iand, 1) := by decide +kernel
theorem dJ6_numberOfTrailingZeros_0f7a4_7 : decode cJ6_numberOfTrailingZeros_0f7a4 7 = .ok (.istore_n 0, 1) := by decide +kernel
theorem dJ6_numberOfTrailingZeros_0f7a4_8 : decode cJ6_numberOfTrailingZeros_0f7a4 8 = .ok (.iload_n 0, 1) := by decide +kernel
theorem dJ6_numberOfTrailingZeros_0f7a4_9 : decode cJ6_numberOfTrailingZeros_0f7a4 9 = .ok (.ifCond .gt 8, 3) := by decide +kernel
theorem dJ6_numberOfTrailingZeros_0f7a4_12 : decode cJ6_numberOfTrailingZeros_0f7a4 12 = .ok (.iload_n 0, 1) := by decide +kernel
theorem dJ6_numberOfTrailingZeros_0f7a4_13 : decode cJ6_numberOfTrailingZeros_0f7a4 13 = .ok (.bipush 32, 2) := by decide +kernel
theorem dJ6_numberOfTrailingZeros_0f7a4_15 : decode cJ6_numberOfTrailingZeros_0f7a4 15 = .ok (.iand, 1) := by decide +kernel
theorem dJ6_numberOfTrailingZeros_0f7a4_16 : decode cJ6_numberOfTrailingZeros_0f7a4 16 = .ok (.ireturn, 1) := by decide +kernel
theorem dJ6_numberOfTrailingZeros_0f7a4_17 : decode cJ6_numberOfTrailingZeros_0f7a4 17 = .ok (.iconst 1, 1) := by decide +kernel
theorem dJ6_numberOfTrailingZeros_0f7a4_18 : decode cJ6_numberOfTrailingZeros_0f7a4 18 = .ok (.istore_n 1, 1) := by decide +kernel
theorem dJ6_numberOfTrailingZeros_0f7a4_19 : decode cJ6_numberOfTrailingZeros_0f7a4 19 = .ok (.iload_n 0, 1) := by decide +kernel
theorem dJ6_numberOfTrailingZeros_0f7a4_20 : decode cJ6_numberOfTrailingZeros_0f7a4 20 = .ok (.ldc_w 264, 3) := by decide +kernel
theorem dJ6_numberOfTrailingZeros_0f7a4_23 : decode cJ6_numberOfTrailingZeros_0f7a4 23 = .ok (.if_icmp .le 11, 3) := by decide +kernel
theorem dJ6_numberOfTrailingZeros_0f7a4_26 : decode cJ6_numberOfTrailingZeros_0f7a4 26 = .ok (.iinc 1 16, 3) := by decide +kernel
theorem dJ6_numberOfTrailingZeros_0f7a4_29 : decode cJ6_numberOfTrailingZeros_0f7a4 29 = .ok (.iload_n 0, 1) := by decide +kernel
theorem dJ6_numberOfTrailingZeros_0f7a4_30 : decode cJ6_numberOfTrailingZeros_0f7a4 30 = .ok (.bipush 16, 2) := by decide +kernel
theorem dJ6_numberOfTrailingZeros_0f7a4_32 : decode cJ6_numberOfTrailingZeros_0f7a4 32 = .ok (.iushr, 1) := by decide +kernel
theorem dJ6_numberOfTrailingZeros_0f7a4_33 : decode cJ6_numberOfTrailingZeros_0f7a4 33 = .ok (.istore_n 0, 1) := by decide +kernel
theorem dJ6_numberOfTrailingZeros_0f7a4_34 : decode cJ6_numberOfTrailingZeros_0f7a4 34 = .ok (.iload_n 0, 1) := by decide +kernel
theorem dJ6_numberOfTrailingZeros_0f7a4_35 : decode cJ6_numberOfTrailingZeros_0f7a4 35 = .ok (.sipush 256, 3) := by decide +kernel
theorem dJ6_numberOfTrailingZeros_0f7a4_38 : decode cJ6_numberOfTrailingZeros_0f7a4 38 = .ok (.if_icmp .le 11, 3) := by decide +kernel
theorem dJ6_numberOfTrailingZeros_0f7a4_41 : decode cJ6_numberOfTrailingZeros_0f7a4 41 = .ok (.iinc 1 8, 3) := by decide +kernel
theorem dJ6_numberOfTrailingZeros_0f7a4_44 : decode cJ6_numberOfTrailingZeros_0f7a4 44 = .ok (.iload_n 0, 1) := by decide +kernel
theorem dJ6_numberOfTrailingZeros_0f7a4_45 : decode cJ6_numberOfTrailingZeros_0f7a4 45 = .ok (.bipush 8, 2) := by decide +kernel
theorem dJ6_numberOfTrailingZeros_0f7a4_47 : decode cJ6_numberOfTrailingZeros_0f7a4 47 = .ok (.iushr, 1) := by decide +kernel
theorem dJ6_numberOfTrailingZeros_0f7a4_48 : decode cJ6_numberOfTrailingZeros_0f7a4 48 = .ok (.istore_n 0, 1) := by decide +kernel
theorem dJ6_numberOfTrailingZeros_0f7a4_49 : decode cJ6_numberOfTrailingZeros_0f7a4 49 = .ok (.iload_n 0, 1) := by decide +kernel
theorem dJ6_numberOfTrailingZeros_0f7a4_50 : decode cJ6_numberOfTrailingZeros_0f7a4 50 = .ok (.bipush 16, 2) := by decide +kernel
theorem dJ6_numberOfTrailingZeros_0f7a4_52 : decode cJ6_numberOfTrailingZeros_0f7a4 52 = .ok (.if_icmp .le 10, 3) := by decide +kernel
theorem dJ6_numberOfTrailingZeros_0f7a4_55 : decode cJ6_numberOfTrailingZeros_0f7a4 55 = .ok (.iinc 1 4, 3) := by decide +kernel
theorem dJ6_numberOfTrailingZeros_0f7a4_58 : decode cJ6_numberOfTrailingZeros_0f7a4 58 = .ok (.iload_n 0, 1) := by decide +kernel
theorem dJ6_numberOfTrailingZeros_0f7a4_59 : decode cJ6_numberOfTrailingZeros_0f7a4 59 = .ok (.iconst 4, 1) := by decide +kernel
theorem dJ6_numberOfTrailingZeros_0f7a4_60 : decode cJ6_numberOfTrailingZeros_0f7a4 60 = .ok (.iushr, 1) := by decide +kernel
theorem dJ6_numberOfTrailingZeros_0f7a4_61 : decode cJ6_numberOfTrailingZeros_0f7a4 61 = .ok (.istore_n 0, 1) := by decide +kernel
theorem dJ6_numberOfTrailingZeros_0f7a4_62 : decode cJ6_numberOfTrailingZeros_0f7a4 62 = .ok (.iload_n 0, 1) := by decide +kernel
theorem dJ6_numberOfTrailingZeros_0f7a4_63 : decode cJ6_numberOfTrailingZeros_0f7a4 63 = .ok (.iconst 4, 1) := by decide +kernel
theorem dJ6_numberOfTrailingZeros_0f7a4_64 : decode cJ6_numberOfTrailingZeros_0f7a4 64 = .ok (.if_icmp .le 10, 3) := by decide +kernel
theorem dJ6_numberOfTrailingZeros_0f7a4_67 : decode cJ6_numberOfTrailingZeros_0f7a4 67 = .ok (.iinc 1 2, 3) := by decide +kernel
theorem dJ6_numberOfTrailingZeros_0f7a4_70 : decode cJ6_numberOfTrailingZeros_0f7a4 70 = .ok (.iload_n 0, 1) := by decide +kernel
theorem dJ6_numberOfTrailingZeros_0f7a4_71 : decode cJ6_numberOfTrailingZeros_0f7a4 71 = .ok (.iconst 2, 1) := by decide +kernel
theorem dJ6_numberOfTrailingZeros_0f7a4_72 : decode cJ6_numberOfTrailingZeros_0f7a4 72 = .ok (.iushr, 1) := by decide +kernel
theorem dJ6_numberOfTrailingZeros_0f7a4_73 : decode cJ6_numberOfTrailingZeros_0f7a4 73 = .ok (.istore_n 0, 1) := by decide +kernel
theorem dJ6_numberOfTrailingZeros_0f7a4_74 : decode cJ6_numberOfTrailingZeros_0f7a4 74 = .ok (.iload_n 1, 1) := by decide +kernel
theorem dJ6_numberOfTrailingZeros_0f7a4_75 : decode cJ6_numberOfTrailingZeros_0f7a4 75 = .ok (.iload_n 0, 1) := by decide +kernel
theorem dJ6_numberOfTrailingZeros_0f7a4_76 : decode cJ6_numberOfTrailingZeros_0f7a4 76 = .ok (.iconst 1, 1) := by decide +kernel
theorem dJ6_numberOfTrailingZeros_0f7a4_77 : decode cJ6_numberOfTrailingZeros_0f7a4 77 = .ok (.iushr, 1) := by decide +kernel
theorem dJ6_numberOfTrailingZeros_0f7a4_78 : decode cJ6_numberOfTrailingZeros_0f7a4 78 = .ok (.iadd, 1) := by decide +kernel
theorem dJ6_numberOfTrailingZeros_0f7a4_79 : decode cJ6_numberOfTrailingZeros_0f7a4 79 = .ok (.ireturn, 1) := by decide +kernel
theorem dJ6_bitCount_0f7a4_0 : decode cJ6_bitCount_0f7a4 0 = .ok (.iload_n 0, 1) := by decide +kernel
theorem dJ6_bitCount_0f7a4_1 : decode cJ6_bitCount_0f7a4 1 = .ok (.iload_n 0, 1) := by decide +kernel
theorem dJ6_bitCount_0f7a4_2 : decode cJ6_bitCount_0f7a4 2 = .ok (.iconst 1, 1) := by decide +kernel
theorem dJ6_bitCount_0f7a4_3 : decode cJ6_bitCount_0f7a4 3 = .ok (.iushr, 1) := by decide +kernel
theorem dJ6_bitCount_0f7a4_4 : decode cJ6_bitCount_0f7a4 4 = .ok (.ldc_w 265, 3) := by decide +kernel
theorem dJ6_bitCount_0f7a4_7 : decode cJ6_bitCount_0f7a4 7 = .ok (.iand, 1) := by decide +kernel
theorem dJ6_bitCount_0f7a4_8 : decode cJ6_bitCount_0f7a4 8 = .ok (.isub, 1) := by decide +kernel
theorem dJ6_bitCount_0f7a4_9 : decode cJ6_bitCount_0f7a4 9 = .ok (.istore_n 0, 1) := by decide +kernel
theorem dJ6_bitCount_0f7a4_10 : decode cJ6_bitCount_0f7a4 10 = .ok (.iload_n 0, 1) := by decide +kernel
theorem dJ6_bitCount_0f7a4_11 : decode cJ6_bitCount_0f7a4 11 = .ok (.ldc_w 266, 3) := by decide +kernel
theorem dJ6_bitCount_0f7a4_14 : decode cJ6_bitCount_0f7a4 14 = .ok (.iand, 1) := by decide +kernel
theorem dJ6_bitCount_0f7a4_15 : decode cJ6_bitCount_0f7a4 15 = .ok (.iload_n 0, 1) := by decide +kernel
theorem dJ6_bitCount_0f7a4_16 : decode cJ6_bitCount_0f7a4 16 = .ok (.iconst 2, 1) := by decide +kernel
theorem dJ6_bitCount_0f7a4_17 : decode cJ6_bitCount_0f7a4 17 = .ok (.iushr, 1) := by decide +kernel
theorem dJ6_bitCount_0f7a4_18 : decode cJ6_bitCount_0f7a4 18 = .ok (.ldc_w 266, 3) := by decide +kernel
theorem dJ6_bitCount_0f7a4_21 : decode cJ6_bitCount_0f7a4 21 = .ok (.iand, 1) := by decide +kernel
theorem dJ6_bitCount_0f7a4_22 : decode cJ6_bitCount_0f7a4 22 = .ok (.iadd, 1) := by decide +kernel
theorem dJ6_bitCount_0f7a4_23 : decode cJ6_bitCount_0f7a4 23 = .ok (.istore_n 0, 1) := by decide +kernel
theorem dJ6_bitCount_0f7a4_24 : decode cJ6_bitCount_0f7a4 24 = .ok (.iload_n 0, 1) := by decide +kernel
theorem dJ6_bitCount_0f7a4_25 : decode cJ6_bitCount_0f7a4 25 = .ok (.iload_n 0, 1) := by decide +kernel
theorem dJ6_bitCount_0f7a4_26 : decode cJ6_bitCount_0f7a4 26 = .ok (.iconst 4, 1) := by decide +kernel
theorem dJ6_bitCount_0f7a4_27 : decode cJ6_bitCount_0f7a4 27 = .ok (.iushr, 1) := by decide +kernel
theorem dJ6_bitCount_0f7a4_28 : decode cJ6_bitCount_0f7a4 28 = .ok (.iadd, 1) := by decide +kernel
theorem dJ6_bitCount_0f7a4_29 : decode cJ6_bitCount_0f7a4 29 = .ok (.ldc_w 267, 3) := by decide +kernel
theorem dJ6_bitCount_0f7a4_32 : decode cJ6_bitCount_0f7a4 32 = .ok (.iand, 1) := by decide +kernel
theorem dJ6_bitCount_0f7a4_33 : decode cJ6_bitCount_0f7a4 33 = .ok (.istore_n 0, 1) := by decide +kernel
theorem dJ6_bitCount_0f7a4_34 : decode cJ6_bitCount_0f7a4 34 = .ok (.iload_n 0, 1) := by decide +kernel
theorem dJ6_bitCount_0f7a4_35 : decode cJ6_bitCount_0f7a4 35 = .ok (.iload_n 0, 1) := by decide +kernel
theorem dJ6_bitCount_0f7a4_36 : decode cJ6_bitCount_0f7a4 36 = .ok (.bipush 8, 2) := by decide +kernel
theorem dJ6_bitCount_0f7a4_38 : decode cJ6_bitCount_0f7a4 38 = .ok (.iushr, 1) := by decide +kernel
theorem dJ6_bitCount_0f7a4_39 : decode cJ6_bitCount_0f7a4 39 = .ok (.iadd, 1) := by decide +kernel
theorem dJ6_bitCount_0f7a4_40 : decode cJ6_bitCount_0f7a4 40 = .ok (.istore_n 0, 1) := by decide +kernel
theorem dJ6_bitCount_0f7a4_41 : decode cJ6_bitCount_0f7a4 41 = .ok (.iload_n 0, 1) := by decide +kernel
theorem dJ6_bitCount_0f7a4_42 : decode cJ6_bitCount_0f7a4 42 = .ok (.iload_n 0, 1) := by decide +kernel
theorem dJ6_bitCount_0f7a4_43 : decode cJ6_bitCount_0f7a4 43 = .ok (.bipush 16, 2) := by decide +kernel
theorem dJ6_bitCount_0f7a4_45 : decode cJ6_bitCount_0f7a4 45 = .ok (.iushr, 1) := by decide +kernel
theorem dJ6_bitCount_0f7a4_46 : decode cJ6_bitCount_0f7a4 46 = .ok (.iadd, 1) := by decide +kernel
theorem dJ6_bitCount_0f7a4_47 : decode cJ6_bitCount_0f7a4 47 = .ok (.istore_n 0, 1) := by decide +kernel
theorem dJ6_bitCount_0f7a4_48 : decode cJ6_bitCount_0f7a4 48 = .ok (.iload_n 0, 1) := by decide +kernel
theorem dJ6_bitCount_0f7a4_49 : decode cJ6_bitCount_0f7a4 49 = .ok (.bipush 63, 2) := by decide +kernel
theorem dJ6_bitCount_0f7a4_51 : decode cJ6_bitCount_0f7a4 51 = .ok (.iand, 1) := by decide +kernel
theorem dJ6_bitCount_0f7a4_52 : decode cJ6_bitCount_0f7a4 52 = .ok (.ireturn, 1) := by decide +kernel
theorem dJ9_abs_0f7a4_0 : decode cJ9_abs_0f7a4 0 = .ok (.iload_n 0, 1) := by decide +kernel
theorem dJ9_abs_0f7a4_1 : decode cJ9_abs_0f7a4 1 = .ok (.ifCond .ge 8, 3) := by decide +kernel
theorem dJ9_abs_0f7a4_4 : decode cJ9_abs_0f7a4 4 = .ok (.iload_n 0, 1) := by decide +kernel
theorem dJ9_abs_0f7a4_5 : decode cJ9_abs_0f7a4 5 = .ok (.ineg, 1) := by decide +kernel
theorem dJ9_abs_0f7a4_6 : decode cJ9_abs_0f7a4 6 = .ok (.goto 4, 3) := by decide +kernel
theorem dJ9_abs_0f7a4_9 : decode cJ9_abs_0f7a4 9 = .ok (.iload_n 0, 1) := by decide +kernel
theorem dJ9_abs_0f7a4_10 : decode cJ9_abs_0f7a4 10 = .ok (.ireturn, 1) := by decide +kernel
theorem dJ9_max_7cf53_0 : decode cJ9_max_7cf53 0 = .ok (.iload_n 0, 1) := by decide +kernel
theorem dJ9_max_7cf53_1 : decode cJ9_max_7cf53 1 = .ok (.iload_n 1, 1) := by decide +kernel
theorem dJ9_max_7cf53_2 : decode cJ9_max_7cf53 2 = .ok (.if_icmp .lt 7, 3) := by decide +kernel
theorem dJ9_max_7cf53_5 : decode cJ9_max_7cf53 5 = .ok (.iload_n 0, 1) := by decide +kernel
theorem dJ9_max_7cf53_6 : decode cJ9_max_7cf53 6 = .ok (.goto 4, 3) := by decide +kernel
theorem dJ9_max_7cf53_9 : decode cJ9_max_7cf53 9 = .ok (.iload_n 1, 1) := by decide +kernel
theorem dJ9_max_7cf53_10 : decode cJ9_max_7cf53 10 = .ok (.ireturn, 1) := by decide +kernel
theorem dJ9_min_7cf53_0 : decode cJ9_min_7cf53 0 = .ok (.iload_n 0, 1) := by decide +kernel
theorem dJ9_min_7cf53_1 : decode cJ9_min_7cf53 1 = .ok (.iload_n 1, 1) := by decide +kernel
theorem dJ9_min_7cf53_2 : decode cJ9_min_7cf53 2 = .ok (.if_icmp .gt 7, 3) := by decide +kernel
theorem dJ9_min_7cf53_5 : decode cJ9_min_7cf53 5 = .ok (.iload_n 0, 1) := by decide +kernel
theorem dJ9_min_7cf53_6 : decode cJ9_min_7cf53 6 = .ok (.goto 4, 3) := by decide +kernel
theorem dJ9_min_7cf53_9 : decode cJ9_min_7cf53 9 = .ok (.iload_n 1, 1) := by decide +kernel
theorem dJ9_min_7cf53_10 : decode cJ9_min_7cf53 10 = .ok (.ireturn, 1) := by decide +kernel
end
section
theorem dL_law_0 : decode cL_law 0 = .ok (.new 7, 3) := by decide +kernel
theorem dL_law_3 : decode cL_law 3 = .ok (.dup, 1) := by decide +kernel
theorem dL_law_4 : decode cL_law 4 = .ok (.invokespecial 9, 3) := by decide +kernel
theorem dL_law_7 : decode cL_law 7 = .ok (.astore_n 1, 1) := by decide +kernel
theorem dL_law_8 : decode cL_law 8 = .ok (.new 10, 3) := by decide +kernel
theorem dL_law_11 : decode cL_law 11 = .ok (.dup, 1) := by decide +kernel
theorem dL_law_12 : decode cL_law 12 = .ok (.invokespecial 12, 3) := by decide +kernel
theorem dL_law_15 : decode cL_law 15 = .ok (.astore_n 2, 1) := by decide +kernel
theorem dL_law_16 : decode cL_law 16 = .ok (.iconst 0, 1) := by decide +kernel
theorem dL_law_17 : decode cL_law 17 = .ok (.istore_n 3, 1) := by decide +kernel
theorem dL_law_18 : decode cL_law 18 = .ok (.iload_n 3, 1) := by decide +kernel
theorem dL_law_19 : decode cL_law 19 = .ok (.aload_n 0, 1) := by decide +kernel
theorem dL_law_20 : decode cL_law 20 = .ok (.arraylength, 1) := by decide +kernel
theorem dL_law_21 : decode cL_law 21 = .ok (.iconst 5, 1) := by decide +kernel
theorem dL_law_22 : decode cL_law 22 = .ok (.isub, 1) := by decide +kernel
theorem dL_law_23 : decode cL_law 23 = .ok (.if_icmp .gt 970, 3) := by decide +kernel
theorem dL_law_26 : decode cL_law 26 = .ok (.aload_n 0, 1) := by decide +kernel
theorem dL_law_27 : decode cL_law 27 = .ok (.iload_n 3, 1) := by decide +kernel
theorem dL_law_28 : decode cL_law 28 = .ok (.iaload, 1) := by decide +kernel
theorem dL_law_29 : decode cL_law 29 = .ok (.bipush 31, 2) := by decide +kernel
theorem dL_law_31 : decode cL_law 31 = .ok (.iand, 1) := by decide +kernel
theorem dL_law_32 : decode cL_law 32 = .ok (.tableswitch 955 0 30 #[140, 163, 176, 189, 222, 255, 298, 331, 354, 387, 410, 453, 466, 479, 502, 525, 558, 581, 624, 678, 701, 714, 747, 790, 803, 816, 839, 872, 895, 918, 941], 140) := by decide +kernel
theorem dL_law_172 : decode cL_law 172 = .ok (.aload_n 1, 1) := by decide +kernel
theorem dL_law_173 : decode cL_law 173 = .ok (.aload_n 0, 1) := by decide +kernel
theorem dL_law_174 : decode cL_law 174 = .ok (.iload_n 3, 1) := by decide +kernel
theorem dL_law_175 : decode cL_law 175 = .ok (.iconst 1, 1) := by decide +kernel
theorem dL_law_176 : decode cL_law 176 = .ok (.iadd, 1) := by decide +kernel
theorem dL_law_177 : decode cL_law 177 = .ok (.iaload, 1) := by decide +kernel
theorem dL_law_178 : decode cL_law 178 = .ok (.invokevirtual 13, 3) := by decide +kernel
theorem dL_law_181 : decode cL_law 181 = .ok (.aload_n 2, 1) := by decide +kernel
theorem dL_law_182 : decode cL_law 182 = .ok (.aload_n 0, 1) := by decide +kernel
theorem dL_law_183 : decode cL_law 183 = .ok (.iload_n 3, 1) := by decide +kernel
theorem dL_law_184 : decode cL_law 184 = .ok (.iconst 1, 1) := by decide +kernel
theorem dL_law_185 : decode cL_law 185 = .ok (.iadd, 1) := by decide +kernel
theorem dL_law_186 : decode cL_law 186 = .ok (.iaload, 1) := by decide +kernel
theorem dL_law_187 : decode cL_law 187 = .ok (.invokevirtual 17, 3) := by decide +kernel
theorem dL_law_190 : decode cL_law 190 = .ok (.if_icmp .eq 797, 3) := by decide +kernel
theorem dL_law_193 : decode cL_law 193 = .ok (.iconst 0, 1) := by decide +kernel
theorem dL_law_194 : decode cL_law 194 = .ok (.ireturn, 1) := by decide +kernel
theorem dL_law_195 : decode cL_law 195 = .ok (.aload_n 1, 1) := by decide +kernel
theorem dL_law_196 : decode cL_law 196 = .ok (.invokevirtual 18, 3) := by decide +kernel
theorem dL_law_199 : decode cL_law 199 = .ok (.aload_n 2, 1) := by decide +kernel
theorem dL_law_200 : decode cL_law 200 = .ok (.invokevirtual 22, 3) := by decide +kernel
theorem dL_law_203 : decode cL_law 203 = .ok (.if_icmp .eq 784, 3) := by decide +kernel
theorem dL_law_206 : decode cL_law 206 = .ok (.iconst 0, 1) := by decide +kernel
theorem dL_law_207 : decode cL_law 207 = .ok (.ireturn, 1) := by decide +kernel
theorem dL_law_208 : decode cL_law 208 = .ok (.aload_n 1, 1) := by decide +kernel
theorem dL_law_209 : decode cL_law 209 = .ok (.invokevirtual 23, 3) := by decide +kernel
theorem dL_law_212 : decode cL_law 212 = .ok (.aload_n 2, 1) := by decide +kernel
theorem dL_law_213 : decode cL_law 213 = .ok (.invokevirtual 26, 3) := by decide +kernel
theorem dL_law_216 : decode cL_law 216 = .ok (.if_icmp .eq 771, 3) := by decide +kernel
theorem dL_law_219 : decode cL_law 219 = .ok (.iconst 0, 1) := by decide +kernel
theorem dL_law_220 : decode cL_law 220 = .ok (.ireturn, 1) := by decide +kernel
theorem dL_law_221 : decode cL_law 221 = .ok (.aload_n 1, 1) := by decide +kernel
theorem dL_law_222 : decode cL_law 222 = .ok (.aload_n 0, 1) := by decide +kernel
theorem dL_law_223 : decode cL_law 223 = .ok (.iload_n 3, 1) := by decide +kernel
theorem dL_law_224 : decode cL_law 224 = .ok (.iconst 1, 1) := by decide +kernel
theorem dL_law_225 : decode cL_law 225 = .ok (.iadd, 1) := by decide +kernel
theorem dL_law_226 : decode cL_law 226 = .ok (.iaload, 1) := by decide +kernel
theorem dL_law_227 : decode cL_law 227 = .ok (.aload_n 0, 1) := by decide +kernel
theorem dL_law_228 : decode cL_law 228 = .ok (.iload_n 3, 1) := by decide +kernel
theorem dL_law_229 : decode cL_law 229 = .ok (.iconst 2, 1) := by decide +kernel
theorem dL_law_230 : decode cL_law 230 = .ok (.iadd, 1) := by decide +kernel
theorem dL_law_231 : decode cL_law 231 = .ok (.iaload, 1) := by decide +kernel
theorem dL_law_232 : decode cL_law 232 = .ok (.invokevirtual 27, 3) := by decide +kernel
theorem dL_law_235 : decode cL_law 235 = .ok (.aload_n 2, 1) := by decide +kernel
theorem dL_law_236 : decode cL_law 236 = .ok (.aload_n 0, 1) := by decide +kernel
theorem dL_law_237 : decode cL_law 237 = .ok (.iload_n 3, 1) := by decide +kernel
theorem dL_law_238 : decode cL_law 238 = .ok (.iconst 1, 1) := by decide +kernel
theorem dL_law_239 : decode cL_law 239 = .ok (.iadd, 1) := by decide +kernel
theorem dL_law_240 : decode cL_law 240 = .ok (.iaload, 1) := by decide +kernel
theorem dL_law_241 : decode cL_law 241 = .ok (.aload_n 0, 1) := by decide +kernel
theorem dL_law_242 : decode cL_law 242 = .ok (.iload_n 3, 1) := by decide +kernel
theorem dL_law_243 : decode cL_law 243 = .ok (.iconst 2, 1) := by decide +kernel
theorem dL_law_244 : decode cL_law 244 = .ok (.iadd, 1) := by decide +kernel
theorem dL_law_245 : decode cL_law 245 = .ok (.iaload, 1) := by decide +kernel
theorem dL_law_246 : decode cL_law 246 = .ok (.invokevirtual 31, 3) := by decide +kernel
theorem dL_law_249 : decode cL_law 249 = .ok (.if_icmp .eq 738, 3) := by decide +kernel
theorem dL_law_252 : decode cL_law 252 = .ok (.iconst 0, 1) := by decide +kernel
theorem dL_law_253 : decode cL_law 253 = .ok (.ireturn, 1) := by decide +kernel
theorem dL_law_254 : decode cL_law 254 = .ok (.aload_n 1, 1) := by decide +kernel
theorem dL_law_255 : decode cL_law 255 = .ok (.aload_n 0, 1) := by decide +kernel
theorem dL_law_256 : decode cL_law 256 = .ok (.iload_n 3, 1) := by decide +kernel
theorem dL_law_257 : decode cL_law 257 = .ok (.iconst 1, 1) := by decide +kernel
theorem dL_law_258 : decode cL_law 258 = .ok (.iadd, 1) := by decide +kernel
theorem dL_law_259 : decode cL_law 259 = .ok (.iaload, 1) := by decide +kernel
theorem dL_law_260 : decode cL_law 260 = .ok (.aload_n 0, 1) := by decide +kernel
theorem dL_law_261 : decode cL_law 261 = .ok (.iload_n 3, 1) := by decide +kernel
theorem dL_law_262 : decode cL_law 262 = .ok (.iconst 2, 1) := by decide +kernel
theorem dL_law_263 : decode cL_law 263 = .ok (.iadd, 1) := by decide +kernel
theorem dL_law_264 : decode cL_law 264 = .ok (.iaload, 1) := by decide +kernel
theorem dL_law_265 : decode cL_law 265 = .ok (.invokevirtual 32, 3) := by decide +kernel
theorem dL_law_268 : decode cL_law 268 = .ok (.aload_n 2, 1) := by decide +kernel
theorem dL_law_269 : decode cL_law 269 = .ok (.aload_n 0, 1) := by decide +kernel
theorem dL_law_270 : decode cL_law 270 = .ok (.iload_n 3, 1) := by decide +kernel
theorem dL_law_271 : decode cL_law 271 = .ok (.iconst 1, 1) := by decide +kernel
theorem dL_law_272 : decode cL_law 272 = .ok (.iadd, 1) := by decide +kernel
theorem dL_law_273 : decode cL_law 273 = .ok (.iaload, 1) := by decide +kernel
theorem dL_law_274 : decode cL_law 274 = .ok (.aload_n 0, 1) := by decide +kernel
theorem dL_law_275 : decode cL_law 275 = .ok (.iload_n 3, 1) := by decide +kernel
theorem dL_law_276 : decode cL_law 276 = .ok (.iconst 2, 1) := by decide +kernel
theorem dL_law_277 : decode cL_law 277 = .ok (.iadd, 1) := by decide +kernel
theorem dL_law_278 : decode cL_law 278 = .ok (.iaload, 1) := by decide +kernel
theorem dL_law_279 : decode cL_law 279 = .ok (.invokevirtual 35, 3) := by decide +kernel
theorem dL_law_282 : decode cL_law 282 = .ok (.if_icmp .eq 705, 3) := by decide +kernel
theorem dL_law_285 : decode cL_law 285 = .ok (.iconst 0, 1) := by decide +kernel
theorem dL_law_286 : decode cL_law 286 = .ok (.ireturn, 1) := by decide +kernel
theorem dL_law_287 : decode cL_law 287 = .ok (.aload_n 1, 1) := by decide +kernel
theorem dL_law_288 : decode cL_law 288 = .ok (.aload_n 0, 1) := by decide +kernel
theorem dL_law_289 : decode cL_law 289 = .ok (.iload_n 3, 1) := by decide +kernel
theorem dL_law_290 : decode cL_law 290 = .ok (.iconst 1, 1) := by decide +kernel
theorem dL_law_291 : decode cL_law 291 = .ok (.iadd, 1) := by decide +kernel
theorem dL_law_292 : decode cL_law 292 = .ok (.iaload, 1) := by decide +kernel
theorem dL_law_293 : decode cL_law 293 = .ok (.aload_n 0, 1) := by decide +kernel
theorem dL_law_294 : decode cL_law 294 = .ok (.iload_n 3, 1) := by decide +kernel
theorem dL_law_295 : decode cL_law 295 = .ok (.iconst 2, 1) := by decide +kernel
theorem dL_law_296 : decode cL_law 296 = .ok (.iadd, 1) := by decide +kernel
theorem dL_law_297 : decode cL_law 297 = .ok (.iaload, 1) := by decide +kernel
theorem dL_law_298 : decode cL_law 298 = .ok (.aload_n 0, 1) := by decide +kernel
theorem dL_law_299 : decode cL_law 299 = .ok (.iload_n 3, 1) := by decide +kernel
theorem dL_law_300 : decode cL_law 300 = .ok (.iconst 3, 1) := by decide +kernel
theorem dL_law_301 : decode cL_law 301 = .ok (.iadd, 1) := by decide +kernel
theorem dL_law_302 : decode cL_law 302 = .ok (.iaload, 1) := by decide +kernel
theorem dL_law_303 : decode cL_law 303 = .ok (.invokevirtual 36, 3) := by decide +kernel
theorem dL_law_306 : decode cL_law 306 = .ok (.aload_n 2, 1) := by decide +kernel
theorem dL_law_307 : decode cL_law 307 = .ok (.aload_n 0, 1) := by decide +kernel
theorem dL_law_308 : decode cL_law 308 = .ok (.iload_n 3, 1) := by decide +kernel
theorem dL_law_309 : decode cL_law 309 = .ok (.iconst 1, 1) := by decide +kernel
theorem dL_law_310 : decode cL_law 310 = .ok (.iadd, 1) := by decide +kernel
theorem dL_law_311 : decode cL_law 311 = .ok (.iaload, 1) := by decide +kernel
theorem dL_law_312 : decode cL_law 312 = .ok (.aload_n 0, 1) := by decide +kernel
theorem dL_law_313 : decode cL_law 313 = .ok (.iload_n 3, 1) := by decide +kernel
theorem dL_law_314 : decode cL_law 314 = .ok (.iconst 2, 1) := by decide +kernel
theorem dL_law_315 : decode cL_law 315 = .ok (.iadd, 1) := by decide +kernel
theorem dL_law_316 : decode cL_law 316 = .ok (.iaload, 1) := by decide +kernel
theorem dL_law_317 : decode cL_law 317 = .ok (.aload_n 0, 1) := by decide +kernel
theorem dL_law_318 : decode cL_law 318 = .ok (.iload_n 3, 1) := by decide +kernel
theorem dL_law_319 : decode cL_law 319 = .ok (.iconst 3, 1) := by decide +kernel
theorem dL_law_320 : decode cL_law 320 = .ok (.iadd, 1) := by decide +kernel
theorem dL_law_321 : decode cL_law 321 = .ok (.iaload, 1) := by decide +kernel
theorem dL_law_322 : decode cL_law 322 = .ok (.invokevirtual 40, 3) := by decide +kernel
theorem dL_law_325 : decode cL_law 325 = .ok (.if_icmp .eq 662, 3) := by decide +kernel
theorem dL_law_328 : decode cL_law 328 = .ok (.iconst 0, 1) := by decide +kernel
theorem dL_law_329 : decode cL_law 329 = .ok (.ireturn, 1) := by decide +kernel
theorem dL_law_330 : decode cL_law 330 = .ok (.aload_n 1, 1) := by decide +kernel
theorem dL_law_331 : decode cL_law 331 = .ok (.aload_n 0, 1) := by decide +kernel
theorem dL_law_332 : decode cL_law 332 = .ok (.iload_n 3, 1) := by decide +kernel
theorem dL_law_333 : decode cL_law 333 = .ok (.iconst 1, 1) := by decide +kernel
theorem dL_law_334 : decode cL_law 334 = .ok (.iadd, 1) := by decide +kernel
theorem dL_law_335 : decode cL_law 335 = .ok (.iaload, 1) := by decide +kernel
theorem dL_law_336 : decode cL_law 336 = .ok (.aload_n 0, 1) := by decide +kernel
theorem dL_law_337 : decode cL_law 337 = .ok (.iload_n 3, 1) := by decide +kernel
theorem dL_law_338 : decode cL_law 338 = .ok (.iconst 2, 1) := by decide +kernel
theorem dL_law_339 : decode cL_law 339 = .ok (.iadd, 1) := by decide +kernel
theorem dL_law_340 : decode cL_law 340 = .ok (.iaload, 1) := by decide +kernel
theorem dL_law_341 : decode cL_law 341 = .ok (.invokevirtual 41, 3) := by decide +kernel
theorem dL_law_344 : decode cL_law 344 = .ok (.aload_n 2, 1) := by decide +kernel
theorem dL_law_345 : decode cL_law 345 = .ok (.aload_n 0, 1) := by decide +kernel
theorem dL_law_346 : decode cL_law 346 = .ok (.iload_n 3, 1) := by decide +kernel
theorem dL_law_347 : decode cL_law 347 = .ok (.iconst 1, 1) := by decide +kernel
theorem dL_law_348 : decode cL_law 348 = .ok (.iadd, 1) := by decide +kernel
theorem dL_law_349 : decode cL_law 349 = .ok (.iaload, 1) := by decide +kernel
theorem dL_law_350 : decode cL_law 350 = .ok (.aload_n 0, 1) := by decide +kernel
theorem dL_law_351 : decode cL_law 351 = .ok (.iload_n 3, 1) := by decide +kernel
theorem dL_law_352 : decode cL_law 352 = .ok (.iconst 2, 1) := by decide +kernel
theorem dL_law_353 : decode cL_law 353 = .ok (.iadd, 1) := by decide +kernel
theorem dL_law_354 : decode cL_law 354 = .ok (.iaload, 1) := by decide +kernel
theorem dL_law_355 : decode cL_law 355 = .ok (.invokevirtual 44, 3) := by decide +kernel
theorem dL_law_358 : decode cL_law 358 = .ok (.if_icmp .eq 629, 3) := by decide +kernel
theorem dL_law_361 : decode cL_law 361 = .ok (.iconst 0, 1) := by decide +kernel
theorem dL_law_362 : decode cL_law 362 = .ok (.ireturn, 1) := by decide +kernel
theorem dL_law_363 : decode cL_law 363 = .ok (.aload_n 1, 1) := by decide +kernel
theorem dL_law_364 : decode cL_law 364 = .ok (.aload_n 0, 1) := by decide +kernel
theorem dL_law_365 : decode cL_law 365 = .ok (.iload_n 3, 1) := by decide +kernel
theorem dL_law_366 : decode cL_law 366 = .ok (.iconst 1, 1) := by decide +kernel
theorem dL_law_367 : decode cL_law 367 = .ok (.iadd, 1) := by decide +kernel
theorem dL_law_368 : decode cL_law 368 = .ok (.iaload, 1) := by decide +kernel
theorem dL_law_369 : decode cL_law 369 = .ok (.invokevirtual 45, 3) := by decide +kernel
theorem dL_law_372 : decode cL_law 372 = .ok (.aload_n 2, 1) := by decide +kernel
theorem dL_law_373 : decode cL_law 373 = .ok (.aload_n 0, 1) := by decide +kernel
theorem dL_law_374 : decode cL_law 374 = .ok (.iload_n 3, 1) := by decide +kernel
theorem dL_law_375 : decode cL_law 375 = .ok (.iconst 1, 1) := by decide +kernel
theorem dL_law_376 : decode cL_law 376 = .ok (.iadd, 1) := by decide +kernel
theorem dL_law_377 : decode cL_law 377 = .ok (.iaload, 1) := by decide +kernel
theorem dL_law_378 : decode cL_law 378 = .ok (.invokevirtual 48, 3) := by decide +kernel
theorem dL_law_381 : decode cL_law 381 = .ok (.if_icmp .eq 606, 3) := by decide +kernel
theorem dL_law_384 : decode cL_law 384 = .ok (.iconst 0, 1) := by decide +kernel
theorem dL_law_385 : decode cL_law 385 = .ok (.ireturn, 1) := by decide +kernel
theorem dL_law_386 : decode cL_law 386 = .ok (.aload_n 1, 1) := by decide +kernel
theorem dL_law_387 : decode cL_law 387 = .ok (.aload_n 0, 1) := by decide +kernel
theorem dL_law_388 : decode cL_law 388 = .ok (.iload_n 3, 1) := by decide +kernel
theorem dL_law_389 : decode cL_law 389 = .ok (.iconst 1, 1) := by decide +kernel
theorem dL_law_390 : decode cL_law 390 = .ok (.iadd, 1) := by decide +kernel
theorem dL_law_391 : decode cL_law 391 = .ok (.iaload, 1) := by decide +kernel
theorem dL_law_392 : decode cL_law 392 = .ok (.aload_n 0, 1) := by decide +kernel
theorem dL_law_393 : decode cL_law 393 = .ok (.iload_n 3, 1) := by decide +kernel
theorem dL_law_394 : decode cL_law 394 = .ok (.iconst 2, 1) := by decide +kernel
theorem dL_law_395 : decode cL_law 395 = .ok (.iadd, 1) := by decide +kernel
theorem dL_law_396 : decode cL_law 396 = .ok (.iaload, 1) := by decide +kernel
theorem dL_law_397 : decode cL_law 397 = .ok (.invokevirtual 49, 3) := by decide +kernel
theorem dL_law_400 : decode cL_law 400 = .ok (.aload_n 2, 1) := by decide +kernel
theorem dL_law_401 : decode cL_law 401 = .ok (.aload_n 0, 1) := by decide +kernel
theorem dL_law_402 : decode cL_law 402 = .ok (.iload_n 3, 1) := by decide +kernel
theorem dL_law_403 : decode cL_law 403 = .ok (.iconst 1, 1) := by decide +kernel
theorem dL_law_404 : decode cL_law 404 = .ok (.iadd, 1) := by decide +kernel
theorem dL_law_405 : decode cL_law 405 = .ok (.iaload, 1) := by decide +kernel
theorem dL_law_406 : decode cL_law 406 = .ok (.aload_n 0, 1) := by decide +kernel
theorem dL_law_407 : decode cL_law 407 = .ok (.iload_n 3, 1) := by decide +kernel
theorem dL_law_408 : decode cL_law 408 = .ok (.iconst 2, 1) := by decide +kernel
theorem dL_law_409 : decode cL_law 409 = .ok (.iadd, 1) := by decide +kernel
theorem dL_law_410 : decode cL_law 410 = .ok (.iaload, 1) := by decide +kernel
theorem dL_law_411 : decode cL_law 411 = .ok (.invokevirtual 52, 3) := by decide +kernel
theorem dL_law_414 : decode cL_law 414 = .ok (.if_icmp .eq 573, 3) := by decide +kernel
theorem dL_law_417 : decode cL_law 417 = .ok (.iconst 0, 1) := by decide +kernel
theorem dL_law_418 : decode cL_law 418 = .ok (.ireturn, 1) := by decide +kernel
theorem dL_law_419 : decode cL_law 419 = .ok (.aload_n 1, 1) := by decide +kernel
theorem dL_law_420 : decode cL_law 420 = .ok (.aload_n 0, 1) := by decide +kernel
theorem dL_law_421 : decode cL_law 421 = .ok (.iload_n 3, 1) := by decide +kernel
theorem dL_law_422 : decode cL_law 422 = .ok (.iconst 1, 1) := by decide +kernel
theorem dL_law_423 : decode cL_law 423 = .ok (.iadd, 1) := by decide +kernel
theorem dL_law_424 : decode cL_law 424 = .ok (.iaload, 1) := by decide +kernel
theorem dL_law_425 : decode cL_law 425 = .ok (.invokevirtual 53, 3) := by decide +kernel
theorem dL_law_428 : decode cL_law 428 = .ok (.aload_n 2, 1) := by decide +kernel
theorem dL_law_429 : decode cL_law 429 = .ok (.aload_n 0, 1) := by decide +kernel
theorem dL_law_430 : decode cL_law 430 = .ok (.iload_n 3, 1) := by decide +kernel
theorem dL_law_431 : decode cL_law 431 = .ok (.iconst 1, 1) := by decide +kernel
theorem dL_law_432 : decode cL_law 432 = .ok (.iadd, 1) := by decide +kernel
theorem dL_law_433 : decode cL_law 433 = .ok (.iaload, 1) := by decide +kernel
theorem dL_law_434 : decode cL_law 434 = .ok (.invokevirtual 56, 3) := by decide +kernel
theorem dL_law_437 : decode cL_law 437 = .ok (.if_icmp .eq 550, 3) := by decide +kernel
theorem dL_law_440 : decode cL_law 440 = .ok (.iconst 0, 1) := by decide +kernel
theorem dL_law_441 : decode cL_law 441 = .ok (.ireturn, 1) := by decide +kernel
theorem dL_law_442 : decode cL_law 442 = .ok (.aload_n 1, 1) := by decide +kernel
theorem dL_law_443 : decode cL_law 443 = .ok (.aload_n 0, 1) := by decide +kernel
theorem dL_law_444 : decode cL_law 444 = .ok (.iload_n 3, 1) := by decide +kernel
theorem dL_law_445 : decode cL_law 445 = .ok (.iconst 1, 1) := by decide +kernel
theorem dL_law_446 : decode cL_law 446 = .ok (.iadd, 1) := by decide +kernel
theorem dL_law_447 : decode cL_law 447 = .ok (.iaload, 1) := by decide +kernel
theorem dL_law_448 : decode cL_law 448 = .ok (.aload_n 0, 1) := by decide +kernel
theorem dL_law_449 : decode cL_law 449 = .ok (.iload_n 3, 1) := by decide +kernel
theorem dL_law_450 : decode cL_law 450 = .ok (.iconst 2, 1) := by decide +kernel
theorem dL_law_451 : decode cL_law 451 = .ok (.iadd, 1) := by decide +kernel
theorem dL_law_452 : decode cL_law 452 = .ok (.iaload, 1) := by decide +kernel
theorem dL_law_453 : decode cL_law 453 = .ok (.aload_n 0, 1) := by decide +kernel
theorem dL_law_454 : decode cL_law 454 = .ok (.iload_n 3, 1) := by decide +kernel
theorem dL_law_455 : decode cL_law 455 = .ok (.iconst 3, 1) := by decide +kernel
theorem dL_law_456 : decode cL_law 456 = .ok (.iadd, 1) := by decide +kernel
theorem dL_law_457 : decode cL_law 457 = .ok (.iaload, 1) := by decide +kernel
theorem dL_law_458 : decode cL_law 458 = .ok (.invokevirtual 57, 3) := by decide +kernel
theorem dL_law_461 : decode cL_law 461 = .ok (.aload_n 2, 1) := by decide +kernel
theorem dL_law_462 : decode cL_law 462 = .ok (.aload_n 0, 1) := by decide +kernel
theorem dL_law_463 : decode cL_law 463 = .ok (.iload_n 3, 1) := by decide +kernel
theorem dL_law_464 : decode cL_law 464 = .ok (.iconst 1, 1) := by decide +kernel
theorem dL_law_465 : decode cL_law 465 = .ok (.iadd, 1) := by decide +kernel
theorem dL_law_466 : decode cL_law 466 = .ok (.iaload, 1) := by decide +kernel
theorem dL_law_467 : decode cL_law 467 = .ok (.aload_n 0, 1) := by decide +kernel
theorem dL_law_468 : decode cL_law 468 = .ok (.iload_n 3, 1) := by decide +kernel
theorem dL_law_469 : decode cL_law 469 = .ok (.iconst 2, 1) := by decide +kernel
theorem dL_law_470 : decode cL_law 470 = .ok (.iadd, 1) := by decide +kernel
theorem dL_law_471 : decode cL_law 471 = .ok (.iaload, 1) := by decide +kernel
theorem dL_law_472 : decode cL_law 472 = .ok (.aload_n 0, 1) := by decide +kernel
theorem dL_law_473 : decode cL_law 473 = .ok (.iload_n 3, 1) := by decide +kernel
theorem dL_law_474 : decode cL_law 474 = .ok (.iconst 3, 1) := by decide +kernel
theorem dL_law_475 : decode cL_law 475 = .ok (.iadd, 1) := by decide +kernel
theorem dL_law_476 : decode cL_law 476 = .ok (.iaload, 1) := by decide +kernel
theorem dL_law_477 : decode cL_law 477 = .ok (.invokevirtual 60, 3) := by decide +kernel
theorem dL_law_480 : decode cL_law 480 = .ok (.if_icmp .eq 507, 3) := by decide +kernel
theorem dL_law_483 : decode cL_law 483 = .ok (.iconst 0, 1) := by decide +kernel
theorem dL_law_484 : decode cL_law 484 = .ok (.ireturn, 1) := by decide +kernel
theorem dL_law_485 : decode cL_law 485 = .ok (.aload_n 1, 1) := by decide +kernel
theorem dL_law_486 : decode cL_law 486 = .ok (.invokevirtual 61, 3) := by decide +kernel
theorem dL_law_489 : decode cL_law 489 = .ok (.aload_n 2, 1) := by decide +kernel
theorem dL_law_490 : decode cL_law 490 = .ok (.invokevirtual 64, 3) := by decide +kernel
theorem dL_law_493 : decode cL_law 493 = .ok (.if_icmp .eq 494, 3) := by decide +kernel
theorem dL_law_496 : decode cL_law 496 = .ok (.iconst 0, 1) := by decide +kernel
theorem dL_law_497 : decode cL_law 497 = .ok (.ireturn, 1) := by decide +kernel
theorem dL_law_498 : decode cL_law 498 = .ok (.aload_n 1, 1) := by decide +kernel
theorem dL_law_499 : decode cL_law 499 = .ok (.invokevirtual 65, 3) := by decide +kernel
theorem dL_law_502 : decode cL_law 502 = .ok (.aload_n 2, 1) := by decide +kernel
theorem dL_law_503 : decode cL_law 503 = .ok (.invokevirtual 68, 3) := by decide +kernel
theorem dL_law_506 : decode cL_law 506 = .ok (.if_icmp .eq 481, 3) := by decide +kernel
theorem dL_law_509 : decode cL_law 509 = .ok (.iconst 0, 1) := by decide +kernel
theorem dL_law_510 : decode cL_law 510 = .ok (.ireturn, 1) := by decide +kernel
theorem dL_law_511 : decode cL_law 511 = .ok (.aload_n 1, 1) := by decide +kernel
theorem dL_law_512 : decode cL_law 512 = .ok (.aload_n 0, 1) := by decide +kernel
theorem dL_law_513 : decode cL_law 513 = .ok (.iload_n 3, 1) := by decide +kernel
theorem dL_law_514 : decode cL_law 514 = .ok (.iconst 1, 1) := by decide +kernel
theorem dL_law_515 : decode cL_law 515 = .ok (.iadd, 1) := by decide +kernel
theorem dL_law_516 : decode cL_law 516 = .ok (.iaload, 1) := by decide +kernel
theorem dL_law_517 : decode cL_law 517 = .ok (.invokevirtual 69, 3) := by decide +kernel
theorem dL_law_520 : decode cL_law 520 = .ok (.aload_n 2, 1) := by decide +kernel
theorem dL_law_521 : decode cL_law 521 = .ok (.aload_n 0, 1) := by decide +kernel
theorem dL_law_522 : decode cL_law 522 = .ok (.iload_n 3, 1) := by decide +kernel
theorem dL_law_523 : decode cL_law 523 = .ok (.iconst 1, 1) := by decide +kernel
theorem dL_law_524 : decode cL_law 524 = .ok (.iadd, 1) := by decide +kernel
theorem dL_law_525 : decode cL_law 525 = .ok (.iaload, 1) := by decide +kernel
theorem dL_law_526 : decode cL_law 526 = .ok (.invokevirtual 72, 3) := by decide +kernel
theorem dL_law_529 : decode cL_law 529 = .ok (.if_icmp .eq 458, 3) := by decide +kernel
theorem dL_law_532 : decode cL_law 532 = .ok (.iconst 0, 1) := by decide +kernel
theorem dL_law_533 : decode cL_law 533 = .ok (.ireturn, 1) := by decide +kernel
theorem dL_law_534 : decode cL_law 534 = .ok (.aload_n 1, 1) := by decide +kernel
theorem dL_law_535 : decode cL_law 535 = .ok (.aload_n 0, 1) := by decide +kernel
theorem dL_law_536 : decode cL_law 536 = .ok (.iload_n 3, 1) := by decide +kernel
theorem dL_law_537 : decode cL_law 537 = .ok (.iconst 1, 1) := by decide +kernel
theorem dL_law_538 : decode cL_law 538 = .ok (.iadd, 1) := by decide +kernel
theorem dL_law_539 : decode cL_law 539 = .ok (.iaload, 1) := by decide +kernel
theorem dL_law_540 : decode cL_law 540 = .ok (.invokevirtual 73, 3) := by decide +kernel
theorem dL_law_543 : decode cL_law 543 = .ok (.aload_n 2, 1) := by decide +kernel
theorem dL_law_544 : decode cL_law 544 = .ok (.aload_n 0, 1) := by decide +kernel
theorem dL_law_545 : decode cL_law 545 = .ok (.iload_n 3, 1) := by decide +kernel
theorem dL_law_546 : decode cL_law 546 = .ok (.iconst 1, 1) := by decide +kernel
theorem dL_law_547 : decode cL_law 547 = .ok (.iadd, 1) := by decide +kernel
theorem dL_law_548 : decode cL_law 548 = .ok (.iaload, 1) := by decide +kernel
theorem dL_law_549 : decode cL_law 549 = .ok (.invokevirtual 76, 3) := by decide +kernel
theorem dL_law_552 : decode cL_law 552 = .ok (.if_icmp .eq 435, 3) := by decide +kernel
theorem dL_law_555 : decode cL_law 555 = .ok (.iconst 0, 1) := by decide +kernel
theorem dL_law_556 : decode cL_law 556 = .ok (.ireturn, 1) := by decide +kernel
theorem dL_law_557 : decode cL_law 557 = .ok (.aload_n 1, 1) := by decide +kernel
theorem dL_law_558 : decode cL_law 558 = .ok (.aload_n 0, 1) := by decide +kernel
theorem dL_law_559 : decode cL_law 559 = .ok (.iload_n 3, 1) := by decide +kernel
theorem dL_law_560 : decode cL_law 560 = .ok (.iconst 1, 1) := by decide +kernel
theorem dL_law_561 : decode cL_law 561 = .ok (.iadd, 1) := by decide +kernel
theorem dL_law_562 : decode cL_law 562 = .ok (.iaload, 1) := by decide +kernel
theorem dL_law_563 : decode cL_law 563 = .ok (.aload_n 0, 1) := by decide +kernel
theorem dL_law_564 : decode cL_law 564 = .ok (.iload_n 3, 1) := by decide +kernel
theorem dL_law_565 : decode cL_law 565 = .ok (.iconst 2, 1) := by decide +kernel
theorem dL_law_566 : decode cL_law 566 = .ok (.iadd, 1) := by decide +kernel
theorem dL_law_567 : decode cL_law 567 = .ok (.iaload, 1) := by decide +kernel
theorem dL_law_568 : decode cL_law 568 = .ok (.invokevirtual 77, 3) := by decide +kernel
theorem dL_law_571 : decode cL_law 571 = .ok (.aload_n 2, 1) := by decide +kernel
theorem dL_law_572 : decode cL_law 572 = .ok (.aload_n 0, 1) := by decide +kernel
theorem dL_law_573 : decode cL_law 573 = .ok (.iload_n 3, 1) := by decide +kernel
theorem dL_law_574 : decode cL_law 574 = .ok (.iconst 1, 1) := by decide +kernel
theorem dL_law_575 : decode cL_law 575 = .ok (.iadd, 1) := by decide +kernel
theorem dL_law_576 : decode cL_law 576 = .ok (.iaload, 1) := by decide +kernel
theorem dL_law_577 : decode cL_law 577 = .ok (.aload_n 0, 1) := by decide +kernel
theorem dL_law_578 : decode cL_law 578 = .ok (.iload_n 3, 1) := by decide +kernel
theorem dL_law_579 : decode cL_law 579 = .ok (.iconst 2, 1) := by decide +kernel
theorem dL_law_580 : decode cL_law 580 = .ok (.iadd, 1) := by decide +kernel
theorem dL_law_581 : decode cL_law 581 = .ok (.iaload, 1) := by decide +kernel
theorem dL_law_582 : decode cL_law 582 = .ok (.invokevirtual 80, 3) := by decide +kernel
theorem dL_law_585 : decode cL_law 585 = .ok (.if_icmp .eq 402, 3) := by decide +kernel
theorem dL_law_588 : decode cL_law 588 = .ok (.iconst 0, 1) := by decide +kernel
theorem dL_law_589 : decode cL_law 589 = .ok (.ireturn, 1) := by decide +kernel
theorem dL_law_590 : decode cL_law 590 = .ok (.aload_n 1, 1) := by decide +kernel
theorem dL_law_591 : decode cL_law 591 = .ok (.aload_n 0, 1) := by decide +kernel
theorem dL_law_592 : decode cL_law 592 = .ok (.iload_n 3, 1) := by decide +kernel
theorem dL_law_593 : decode cL_law 593 = .ok (.iconst 1, 1) := by decide +kernel
theorem dL_law_594 : decode cL_law 594 = .ok (.iadd, 1) := by decide +kernel
theorem dL_law_595 : decode cL_law 595 = .ok (.iaload, 1) := by decide +kernel
theorem dL_law_596 : decode cL_law 596 = .ok (.invokevirtual 81, 3) := by decide +kernel
theorem dL_law_599 : decode cL_law 599 = .ok (.aload_n 2, 1) := by decide +kernel
theorem dL_law_600 : decode cL_law 600 = .ok (.aload_n 0, 1) := by decide +kernel
theorem dL_law_601 : decode cL_law 601 = .ok (.iload_n 3, 1) := by decide +kernel
theorem dL_law_602 : decode cL_law 602 = .ok (.iconst 1, 1) := by decide +kernel
theorem dL_law_603 : decode cL_law 603 = .ok (.iadd, 1) := by decide +kernel
theorem dL_law_604 : decode cL_law 604 = .ok (.iaload, 1) := by decide +kernel
theorem dL_law_605 : decode cL_law 605 = .ok (.invokevirtual 84, 3) := by decide +kernel
theorem dL_law_608 : decode cL_law 608 = .ok (.if_icmp .eq 379, 3) := by decide +kernel
theorem dL_law_611 : decode cL_law 611 = .ok (.iconst 0, 1) := by decide +kernel
theorem dL_law_612 : decode cL_law 612 = .ok (.ireturn, 1) := by decide +kernel
theorem dL_law_613 : decode cL_law 613 = .ok (.aload_n 1, 1) := by decide +kernel
theorem dL_law_614 : decode cL_law 614 = .ok (.aload_n 0, 1) := by decide +kernel
theorem dL_law_615 : decode cL_law 615 = .ok (.iload_n 3, 1) := by decide +kernel
theorem dL_law_616 : decode cL_law 616 = .ok (.iconst 1, 1) := by decide +kernel
theorem dL_law_617 : decode cL_law 617 = .ok (.iadd, 1) := by decide +kernel
theorem dL_law_618 : decode cL_law 618 = .ok (.iaload, 1) := by decide +kernel
theorem dL_law_619 : decode cL_law 619 = .ok (.aload_n 0, 1) := by decide +kernel
theorem dL_law_620 : decode cL_law 620 = .ok (.iload_n 3, 1) := by decide +kernel
theorem dL_law_621 : decode cL_law 621 = .ok (.iconst 2, 1) := by decide +kernel
theorem dL_law_622 : decode cL_law 622 = .ok (.iadd, 1) := by decide +kernel
theorem dL_law_623 : decode cL_law 623 = .ok (.iaload, 1) := by decide +kernel
theorem dL_law_624 : decode cL_law 624 = .ok (.aload_n 0, 1) := by decide +kernel
theorem dL_law_625 : decode cL_law 625 = .ok (.iload_n 3, 1) := by decide +kernel
theorem dL_law_626 : decode cL_law 626 = .ok (.iconst 3, 1) := by decide +kernel
theorem dL_law_627 : decode cL_law 627 = .ok (.iadd, 1) := by decide +kernel
theorem dL_law_628 : decode cL_law 628 = .ok (.iaload, 1) := by decide +kernel
theorem dL_law_629 : decode cL_law 629 = .ok (.invokevirtual 85, 3) := by decide +kernel
theorem dL_law_632 : decode cL_law 632 = .ok (.aload_n 2, 1) := by decide +kernel
theorem dL_law_633 : decode cL_law 633 = .ok (.aload_n 0, 1) := by decide +kernel
theorem dL_law_634 : decode cL_law 634 = .ok (.iload_n 3, 1) := by decide +kernel
theorem dL_law_635 : decode cL_law 635 = .ok (.iconst 1, 1) := by decide +kernel
theorem dL_law_636 : decode cL_law 636 = .ok (.iadd, 1) := by decide +kernel
theorem dL_law_637 : decode cL_law 637 = .ok (.iaload, 1) := by decide +kernel
theorem dL_law_638 : decode cL_law 638 = .ok (.aload_n 0, 1) := by decide +kernel
theorem dL_law_639 : decode cL_law 639 = .ok (.iload_n 3, 1) := by decide +kernel
theorem dL_law_640 : decode cL_law 640 = .ok (.iconst 2, 1) := by decide +kernel
theorem dL_law_641 : decode cL_law 641 = .ok (.iadd, 1) := by decide +kernel
theorem dL_law_642 : decode cL_law 642 = .ok (.iaload, 1) := by decide +kernel
theorem dL_law_643 : decode cL_law 643 = .ok (.aload_n 0, 1) := by decide +kernel
theorem dL_law_644 : decode cL_law 644 = .ok (.iload_n 3, 1) := by decide +kernel
theorem dL_law_645 : decode cL_law 645 = .ok (.iconst 3, 1) := by decide +kernel
theorem dL_law_646 : decode cL_law 646 = .ok (.iadd, 1) := by decide +kernel
theorem dL_law_647 : decode cL_law 647 = .ok (.iaload, 1) := by decide +kernel
theorem dL_law_648 : decode cL_law 648 = .ok (.invokevirtual 88, 3) := by decide +kernel
theorem dL_law_651 : decode cL_law 651 = .ok (.if_icmp .eq 336, 3) := by decide +kernel
theorem dL_law_654 : decode cL_law 654 = .ok (.iconst 0, 1) := by decide +kernel
theorem dL_law_655 : decode cL_law 655 = .ok (.ireturn, 1) := by decide +kernel
theorem dL_law_656 : decode cL_law 656 = .ok (.aload_n 1, 1) := by decide +kernel
theorem dL_law_657 : decode cL_law 657 = .ok (.aload_n 0, 1) := by decide +kernel
theorem dL_law_658 : decode cL_law 658 = .ok (.iload_n 3, 1) := by decide +kernel
theorem dL_law_659 : decode cL_law 659 = .ok (.iconst 1, 1) := by decide +kernel
theorem dL_law_660 : decode cL_law 660 = .ok (.iadd, 1) := by decide +kernel
theorem dL_law_661 : decode cL_law 661 = .ok (.iaload, 1) := by decide +kernel
theorem dL_law_662 : decode cL_law 662 = .ok (.aload_n 0, 1) := by decide +kernel
theorem dL_law_663 : decode cL_law 663 = .ok (.iload_n 3, 1) := by decide +kernel
theorem dL_law_664 : decode cL_law 664 = .ok (.iconst 2, 1) := by decide +kernel
theorem dL_law_665 : decode cL_law 665 = .ok (.iadd, 1) := by decide +kernel
theorem dL_law_666 : decode cL_law 666 = .ok (.iaload, 1) := by decide +kernel
theorem dL_law_667 : decode cL_law 667 = .ok (.aload_n 0, 1) := by decide +kernel
theorem dL_law_668 : decode cL_law 668 = .ok (.iload_n 3, 1) := by decide +kernel
theorem dL_law_669 : decode cL_law 669 = .ok (.iconst 3, 1) := by decide +kernel
theorem dL_law_670 : decode cL_law 670 = .ok (.iadd, 1) := by decide +kernel
theorem dL_law_671 : decode cL_law 671 = .ok (.iaload, 1) := by decide +kernel
theorem dL_law_672 : decode cL_law 672 = .ok (.aload_n 0, 1) := by decide +kernel
theorem dL_law_673 : decode cL_law 673 = .ok (.iload_n 3, 1) := by decide +kernel
theorem dL_law_674 : decode cL_law 674 = .ok (.iconst 4, 1) := by decide +kernel
theorem dL_law_675 : decode cL_law 675 = .ok (.iadd, 1) := by decide +kernel
theorem dL_law_676 : decode cL_law 676 = .ok (.iaload, 1) := by decide +kernel
theorem dL_law_677 : decode cL_law 677 = .ok (.invokevirtual 89, 3) := by decide +kernel
theorem dL_law_680 : decode cL_law 680 = .ok (.aload_n 2, 1) := by decide +kernel
theorem dL_law_681 : decode cL_law 681 = .ok (.aload_n 0, 1) := by decide +kernel
theorem dL_law_682 : decode cL_law 682 = .ok (.iload_n 3, 1) := by decide +kernel
theorem dL_law_683 : decode cL_law 683 = .ok (.iconst 1, 1) := by decide +kernel
theorem dL_law_684 : decode cL_law 684 = .ok (.iadd, 1) := by decide +kernel
theorem dL_law_685 : decode cL_law 685 = .ok (.iaload, 1) := by decide +kernel
theorem dL_law_686 : decode cL_law 686 = .ok (.aload_n 0, 1) := by decide +kernel
theorem dL_law_687 : decode cL_law 687 = .ok (.iload_n 3, 1) := by decide +kernel
theorem dL_law_688 : decode cL_law 688 = .ok (.iconst 2, 1) := by decide +kernel
theorem dL_law_689 : decode cL_law 689 = .ok (.iadd, 1) := by decide +kernel
theorem dL_law_690 : decode cL_law 690 = .ok (.iaload, 1) := by decide +kernel
theorem dL_law_691 : decode cL_law 691 = .ok (.aload_n 0, 1) := by decide +kernel
theorem dL_law_692 : decode cL_law 692 = .ok (.iload_n 3, 1) := by decide +kernel
theorem dL_law_693 : decode cL_law 693 = .ok (.iconst 3, 1) := by decide +kernel
theorem dL_law_694 : decode cL_law 694 = .ok (.iadd, 1) := by decide +kernel
theorem dL_law_695 : decode cL_law 695 = .ok (.iaload, 1) := by decide +kernel
theorem dL_law_696 : decode cL_law 696 = .ok (.aload_n 0, 1) := by decide +kernel
theorem dL_law_697 : decode cL_law 697 = .ok (.iload_n 3, 1) := by decide +kernel
theorem dL_law_698 : decode cL_law 698 = .ok (.iconst 4, 1) := by decide +kernel
theorem dL_law_699 : decode cL_law 699 = .ok (.iadd, 1) := by decide +kernel
theorem dL_law_700 : decode cL_law 700 = .ok (.iaload, 1) := by decide +kernel
theorem dL_law_701 : decode cL_law 701 = .ok (.invokevirtual 93, 3) := by decide +kernel
theorem dL_law_704 : decode cL_law 704 = .ok (.lcmp, 1) := by decide +kernel
theorem dL_law_705 : decode cL_law 705 = .ok (.ifCond .eq 282, 3) := by decide +kernel
theorem dL_law_708 : decode cL_law 708 = .ok (.iconst 0, 1) := by decide +kernel
theorem dL_law_709 : decode cL_law 709 = .ok (.ireturn, 1) := by decide +kernel
theorem dL_law_710 : decode cL_law 710 = .ok (.aload_n 1, 1) := by decide +kernel
theorem dL_law_711 : decode cL_law 711 = .ok (.aload_n 0, 1) := by decide +kernel
theorem dL_law_712 : decode cL_law 712 = .ok (.iload_n 3, 1) := by decide +kernel
theorem dL_law_713 : decode cL_law 713 = .ok (.iconst 1, 1) := by decide +kernel
theorem dL_law_714 : decode cL_law 714 = .ok (.iadd, 1) := by decide +kernel
theorem dL_law_715 : decode cL_law 715 = .ok (.iaload, 1) := by decide +kernel
theorem dL_law_716 : decode cL_law 716 = .ok (.invokevirtual 94, 3) := by decide +kernel
theorem dL_law_719 : decode cL_law 719 = .ok (.aload_n 2, 1) := by decide +kernel
theorem dL_law_720 : decode cL_law 720 = .ok (.aload_n 0, 1) := by decide +kernel
theorem dL_law_721 : decode cL_law 721 = .ok (.iload_n 3, 1) := by decide +kernel
theorem dL_law_722 : decode cL_law 722 = .ok (.iconst 1, 1) := by decide +kernel
theorem dL_law_723 : decode cL_law 723 = .ok (.iadd, 1) := by decide +kernel
theorem dL_law_724 : decode cL_law 724 = .ok (.iaload, 1) := by decide +kernel
theorem dL_law_725 : decode cL_law 725 = .ok (.invokevirtual 97, 3) := by decide +kernel
theorem dL_law_728 : decode cL_law 728 = .ok (.if_icmp .eq 259, 3) := by decide +kernel
theorem dL_law_731 : decode cL_law 731 = .ok (.iconst 0, 1) := by decide +kernel
theorem dL_law_732 : decode cL_law 732 = .ok (.ireturn, 1) := by decide +kernel
theorem dL_law_733 : decode cL_law 733 = .ok (.aload_n 1, 1) := by decide +kernel
theorem dL_law_734 : decode cL_law 734 = .ok (.invokevirtual 98, 3) := by decide +kernel
theorem dL_law_737 : decode cL_law 737 = .ok (.aload_n 2, 1) := by decide +kernel
theorem dL_law_738 : decode cL_law 738 = .ok (.invokevirtual 101, 3) := by decide +kernel
theorem dL_law_741 : decode cL_law 741 = .ok (.if_icmp .eq 246, 3) := by decide +kernel
theorem dL_law_744 : decode cL_law 744 = .ok (.iconst 0, 1) := by decide +kernel
theorem dL_law_745 : decode cL_law 745 = .ok (.ireturn, 1) := by decide +kernel
theorem dL_law_746 : decode cL_law 746 = .ok (.aload_n 1, 1) := by decide +kernel
theorem dL_law_747 : decode cL_law 747 = .ok (.aload_n 0, 1) := by decide +kernel
theorem dL_law_748 : decode cL_law 748 = .ok (.iload_n 3, 1) := by decide +kernel
theorem dL_law_749 : decode cL_law 749 = .ok (.iconst 1, 1) := by decide +kernel
theorem dL_law_750 : decode cL_law 750 = .ok (.iadd, 1) := by decide +kernel
theorem dL_law_751 : decode cL_law 751 = .ok (.iaload, 1) := by decide +kernel
theorem dL_law_752 : decode cL_law 752 = .ok (.aload_n 0, 1) := by decide +kernel
theorem dL_law_753 : decode cL_law 753 = .ok (.iload_n 3, 1) := by decide +kernel
theorem dL_law_754 : decode cL_law 754 = .ok (.iconst 2, 1) := by decide +kernel
theorem dL_law_755 : decode cL_law 755 = .ok (.iadd, 1) := by decide +kernel
theorem dL_law_756 : decode cL_law 756 = .ok (.iaload, 1) := by decide +kernel
theorem dL_law_757 : decode cL_law 757 = .ok (.invokevirtual 102, 3) := by decide +kernel
theorem dL_law_760 : decode cL_law 760 = .ok (.aload_n 2, 1) := by decide +kernel
theorem dL_law_761 : decode cL_law 761 = .ok (.aload_n 0, 1) := by decide +kernel
theorem dL_law_762 : decode cL_law 762 = .ok (.iload_n 3, 1) := by decide +kernel
theorem dL_law_763 : decode cL_law 763 = .ok (.iconst 1, 1) := by decide +kernel
theorem dL_law_764 : decode cL_law 764 = .ok (.iadd, 1) := by decide +kernel
theorem dL_law_765 : decode cL_law 765 = .ok (.iaload, 1) := by decide +kernel
theorem dL_law_766 : decode cL_law 766 = .ok (.aload_n 0, 1) := by decide +kernel
theorem dL_law_767 : decode cL_law 767 = .ok (.iload_n 3, 1) := by decide +kernel
theorem dL_law_768 : decode cL_law 768 = .ok (.iconst 2, 1) := by decide +kernel
theorem dL_law_769 : decode cL_law 769 = .ok (.iadd, 1) := by decide +kernel
theorem dL_law_770 : decode cL_law 770 = .ok (.iaload, 1) := by decide +kernel
theorem dL_law_771 : decode cL_law 771 = .ok (.invokevirtual 105, 3) := by decide +kernel
theorem dL_law_774 : decode cL_law 774 = .ok (.if_icmp .eq 213, 3) := by decide +kernel
theorem dL_law_777 : decode cL_law 777 = .ok (.iconst 0, 1) := by decide +kernel
theorem dL_law_778 : decode cL_law 778 = .ok (.ireturn, 1) := by decide +kernel
theorem dL_law_779 : decode cL_law 779 = .ok (.aload_n 1, 1) := by decide +kernel
theorem dL_law_780 : decode cL_law 780 = .ok (.aload_n 0, 1) := by decide +kernel
theorem dL_law_781 : decode cL_law 781 = .ok (.iload_n 3, 1) := by decide +kernel
theorem dL_law_782 : decode cL_law 782 = .ok (.iconst 1, 1) := by decide +kernel
theorem dL_law_783 : decode cL_law 783 = .ok (.iadd, 1) := by decide +kernel
theorem dL_law_784 : decode cL_law 784 = .ok (.iaload, 1) := by decide +kernel
theorem dL_law_785 : decode cL_law 785 = .ok (.aload_n 0, 1) := by decide +kernel
theorem dL_law_786 : decode cL_law 786 = .ok (.iload_n 3, 1) := by decide +kernel
theorem dL_law_787 : decode cL_law 787 = .ok (.iconst 2, 1) := by decide +kernel
theorem dL_law_788 : decode cL_law 788 = .ok (.iadd, 1) := by decide +kernel
theorem dL_law_789 : decode cL_law 789 = .ok (.iaload, 1) := by decide +kernel
theorem dL_law_790 : decode cL_law 790 = .ok (.aload_n 0, 1) := by decide +kernel
theorem dL_law_791 : decode cL_law 791 = .ok (.iload_n 3, 1) := by decide +kernel
theorem dL_law_792 : decode cL_law 792 = .ok (.iconst 3, 1) := by decide +kernel
theorem dL_law_793 : decode cL_law 793 = .ok (.iadd, 1) := by decide +kernel
theorem dL_law_794 : decode cL_law 794 = .ok (.iaload, 1) := by decide +kernel
theorem dL_law_795 : decode cL_law 795 = .ok (.invokevirtual 106, 3) := by decide +kernel
theorem dL_law_798 : decode cL_law 798 = .ok (.aload_n 2, 1) := by decide +kernel
theorem dL_law_799 : decode cL_law 799 = .ok (.aload_n 0, 1) := by decide +kernel
theorem dL_law_800 : decode cL_law 800 = .ok (.iload_n 3, 1) := by decide +kernel
theorem dL_law_801 : decode cL_law 801 = .ok (.iconst 1, 1) := by decide +kernel
theorem dL_law_802 : decode cL_law 802 = .ok (.iadd, 1) := by decide +kernel
theorem dL_law_803 : decode cL_law 803 = .ok (.iaload, 1) := by decide +kernel
theorem dL_law_804 : decode cL_law 804 = .ok (.aload_n 0, 1) := by decide +kernel
theorem dL_law_805 : decode cL_law 805 = .ok (.iload_n 3, 1) := by decide +kernel
theorem dL_law_806 : decode cL_law 806 = .ok (.iconst 2, 1) := by decide +kernel
theorem dL_law_807 : decode cL_law 807 = .ok (.iadd, 1) := by decide +kernel
theorem dL_law_808 : decode cL_law 808 = .ok (.iaload, 1) := by decide +kernel
theorem dL_law_809 : decode cL_law 809 = .ok (.aload_n 0, 1) := by decide +kernel
theorem dL_law_810 : decode cL_law 810 = .ok (.iload_n 3, 1) := by decide +kernel
theorem dL_law_811 : decode cL_law 811 = .ok (.iconst 3, 1) := by decide +kernel
theorem dL_law_812 : decode cL_law 812 = .ok (.iadd, 1) := by decide +kernel
theorem dL_law_813 : decode cL_law 813 = .ok (.iaload, 1) := by decide +kernel
theorem dL_law_814 : decode cL_law 814 = .ok (.invokevirtual 109, 3) := by decide +kernel
theorem dL_law_817 : decode cL_law 817 = .ok (.if_icmp .eq 170, 3) := by decide +kernel
theorem dL_law_820 : decode cL_law 820 = .ok (.iconst 0, 1) := by decide +kernel
theorem dL_law_821 : decode cL_law 821 = .ok (.ireturn, 1) := by decide +kernel
theorem dL_law_822 : decode cL_law 822 = .ok (.aload_n 1, 1) := by decide +kernel
theorem dL_law_823 : decode cL_law 823 = .ok (.invokevirtual 110, 3) := by decide +kernel
theorem dL_law_826 : decode cL_law 826 = .ok (.aload_n 2, 1) := by decide +kernel
theorem dL_law_827 : decode cL_law 827 = .ok (.invokevirtual 113, 3) := by decide +kernel
theorem dL_law_830 : decode cL_law 830 = .ok (.if_icmp .eq 157, 3) := by decide +kernel
theorem dL_law_833 : decode cL_law 833 = .ok (.iconst 0, 1) := by decide +kernel
theorem dL_law_834 : decode cL_law 834 = .ok (.ireturn, 1) := by decide +kernel
theorem dL_law_835 : decode cL_law 835 = .ok (.aload_n 1, 1) := by decide +kernel
theorem dL_law_836 : decode cL_law 836 = .ok (.invokevirtual 114, 3) := by decide +kernel
theorem dL_law_839 : decode cL_law 839 = .ok (.aload_n 2, 1) := by decide +kernel
theorem dL_law_840 : decode cL_law 840 = .ok (.invokevirtual 117, 3) := by decide +kernel
theorem dL_law_843 : decode cL_law 843 = .ok (.if_icmp .eq 144, 3) := by decide +kernel
theorem dL_law_846 : decode cL_law 846 = .ok (.iconst 0, 1) := by decide +kernel
theorem dL_law_847 : decode cL_law 847 = .ok (.ireturn, 1) := by decide +kernel
theorem dL_law_848 : decode cL_law 848 = .ok (.aload_n 1, 1) := by decide +kernel
theorem dL_law_849 : decode cL_law 849 = .ok (.aload_n 0, 1) := by decide +kernel
theorem dL_law_850 : decode cL_law 850 = .ok (.iload_n 3, 1) := by decide +kernel
theorem dL_law_851 : decode cL_law 851 = .ok (.iconst 1, 1) := by decide +kernel
theorem dL_law_852 : decode cL_law 852 = .ok (.iadd, 1) := by decide +kernel
theorem dL_law_853 : decode cL_law 853 = .ok (.iaload, 1) := by decide +kernel
theorem dL_law_854 : decode cL_law 854 = .ok (.invokevirtual 118, 3) := by decide +kernel
theorem dL_law_857 : decode cL_law 857 = .ok (.aload_n 2, 1) := by decide +kernel
theorem dL_law_858 : decode cL_law 858 = .ok (.aload_n 0, 1) := by decide +kernel
theorem dL_law_859 : decode cL_law 859 = .ok (.iload_n 3, 1) := by decide +kernel
theorem dL_law_860 : decode cL_law 860 = .ok (.iconst 1, 1) := by decide +kernel
theorem dL_law_861 : decode cL_law 861 = .ok (.iadd, 1) := by decide +kernel
theorem dL_law_862 : decode cL_law 862 = .ok (.iaload, 1) := by decide +kernel
theorem dL_law_863 : decode cL_law 863 = .ok (.invokevirtual 121, 3) := by decide +kernel
theorem dL_law_866 : decode cL_law 866 = .ok (.if_icmp .eq 121, 3) := by decide +kernel
theorem dL_law_869 : decode cL_law 869 = .ok (.iconst 0, 1) := by decide +kernel
theorem dL_law_870 : decode cL_law 870 = .ok (.ireturn, 1) := by decide +kernel
theorem dL_law_871 : decode cL_law 871 = .ok (.aload_n 1, 1) := by decide +kernel
theorem dL_law_872 : decode cL_law 872 = .ok (.aload_n 0, 1) := by decide +kernel
theorem dL_law_873 : decode cL_law 873 = .ok (.iload_n 3, 1) := by decide +kernel
theorem dL_law_874 : decode cL_law 874 = .ok (.iconst 1, 1) := by decide +kernel
theorem dL_law_875 : decode cL_law 875 = .ok (.iadd, 1) := by decide +kernel
theorem dL_law_876 : decode cL_law 876 = .ok (.iaload, 1) := by decide +kernel
theorem dL_law_877 : decode cL_law 877 = .ok (.aload_n 0, 1) := by decide +kernel
theorem dL_law_878 : decode cL_law 878 = .ok (.iload_n 3, 1) := by decide +kernel
theorem dL_law_879 : decode cL_law 879 = .ok (.iconst 2, 1) := by decide +kernel
theorem dL_law_880 : decode cL_law 880 = .ok (.iadd, 1) := by decide +kernel
theorem dL_law_881 : decode cL_law 881 = .ok (.iaload, 1) := by decide +kernel
theorem dL_law_882 : decode cL_law 882 = .ok (.invokevirtual 122, 3) := by decide +kernel
theorem dL_law_885 : decode cL_law 885 = .ok (.aload_n 2, 1) := by decide +kernel
theorem dL_law_886 : decode cL_law 886 = .ok (.aload_n 0, 1) := by decide +kernel
theorem dL_law_887 : decode cL_law 887 = .ok (.iload_n 3, 1) := by decide +kernel
theorem dL_law_888 : decode cL_law 888 = .ok (.iconst 1, 1) := by decide +kernel
theorem dL_law_889 : decode cL_law 889 = .ok (.iadd, 1) := by decide +kernel
theorem dL_law_890 : decode cL_law 890 = .ok (.iaload, 1) := by decide +kernel
theorem dL_law_891 : decode cL_law 891 = .ok (.aload_n 0, 1) := by decide +kernel
theorem dL_law_892 : decode cL_law 892 = .ok (.iload_n 3, 1) := by decide +kernel
theorem dL_law_893 : decode cL_law 893 = .ok (.iconst 2, 1) := by decide +kernel
theorem dL_law_894 : decode cL_law 894 = .ok (.iadd, 1) := by decide +kernel
theorem dL_law_895 : decode cL_law 895 = .ok (.iaload, 1) := by decide +kernel
theorem dL_law_896 : decode cL_law 896 = .ok (.invokevirtual 125, 3) := by decide +kernel
theorem dL_law_899 : decode cL_law 899 = .ok (.if_icmp .eq 88, 3) := by decide +kernel
theorem dL_law_902 : decode cL_law 902 = .ok (.iconst 0, 1) := by decide +kernel
theorem dL_law_903 : decode cL_law 903 = .ok (.ireturn, 1) := by decide +kernel
theorem dL_law_904 : decode cL_law 904 = .ok (.aload_n 1, 1) := by decide +kernel
theorem dL_law_905 : decode cL_law 905 = .ok (.aload_n 0, 1) := by decide +kernel
theorem dL_law_906 : decode cL_law 906 = .ok (.iload_n 3, 1) := by decide +kernel
theorem dL_law_907 : decode cL_law 907 = .ok (.iconst 1, 1) := by decide +kernel
theorem dL_law_908 : decode cL_law 908 = .ok (.iadd, 1) := by decide +kernel
theorem dL_law_909 : decode cL_law 909 = .ok (.iaload, 1) := by decide +kernel
theorem dL_law_910 : decode cL_law 910 = .ok (.invokevirtual 126, 3) := by decide +kernel
theorem dL_law_913 : decode cL_law 913 = .ok (.aload_n 2, 1) := by decide +kernel
theorem dL_law_914 : decode cL_law 914 = .ok (.aload_n 0, 1) := by decide +kernel
theorem dL_law_915 : decode cL_law 915 = .ok (.iload_n 3, 1) := by decide +kernel
theorem dL_law_916 : decode cL_law 916 = .ok (.iconst 1, 1) := by decide +kernel
theorem dL_law_917 : decode cL_law 917 = .ok (.iadd, 1) := by decide +kernel
theorem dL_law_918 : decode cL_law 918 = .ok (.iaload, 1) := by decide +kernel
theorem dL_law_919 : decode cL_law 919 = .ok (.invokevirtual 129, 3) := by decide +kernel
theorem dL_law_922 : decode cL_law 922 = .ok (.if_icmp .eq 65, 3) := by decide +kernel
theorem dL_law_925 : decode cL_law 925 = .ok (.iconst 0, 1) := by decide +kernel
theorem dL_law_926 : decode cL_law 926 = .ok (.ireturn, 1) := by decide +kernel
theorem dL_law_927 : decode cL_law 927 = .ok (.aload_n 1, 1) := by decide +kernel
theorem dL_law_928 : decode cL_law 928 = .ok (.aload_n 0, 1) := by decide +kernel
theorem dL_law_929 : decode cL_law 929 = .ok (.iload_n 3, 1) := by decide +kernel
theorem dL_law_930 : decode cL_law 930 = .ok (.iconst 1, 1) := by decide +kernel
theorem dL_law_931 : decode cL_law 931 = .ok (.iadd, 1) := by decide +kernel
theorem dL_law_932 : decode cL_law 932 = .ok (.iaload, 1) := by decide +kernel
theorem dL_law_933 : decode cL_law 933 = .ok (.invokevirtual 130, 3) := by decide +kernel
theorem dL_law_936 : decode cL_law 936 = .ok (.aload_n 2, 1) := by decide +kernel
theorem dL_law_937 : decode cL_law 937 = .ok (.aload_n 0, 1) := by decide +kernel
theorem dL_law_938 : decode cL_law 938 = .ok (.iload_n 3, 1) := by decide +kernel
theorem dL_law_939 : decode cL_law 939 = .ok (.iconst 1, 1) := by decide +kernel
theorem dL_law_940 : decode cL_law 940 = .ok (.iadd, 1) := by decide +kernel
theorem dL_law_941 : decode cL_law 941 = .ok (.iaload, 1) := by decide +kernel
theorem dL_law_942 : decode cL_law 942 = .ok (.invokevirtual 133, 3) := by decide +kernel
theorem dL_law_945 : decode cL_law 945 = .ok (.if_icmp .eq 42, 3) := by decide +kernel
theorem dL_law_948 : decode cL_law 948 = .ok (.iconst 0, 1) := by decide +kernel
theorem dL_law_949 : decode cL_law 949 = .ok (.ireturn, 1) := by decide +kernel
theorem dL_law_950 : decode cL_law 950 = .ok (.aload_n 1, 1) := by decide +kernel
theorem dL_law_951 : decode cL_law 951 = .ok (.aload_n 0, 1) := by decide +kernel
theorem dL_law_952 : decode cL_law 952 = .ok (.iload_n 3, 1) := by decide +kernel
theorem dL_law_953 : decode cL_law 953 = .ok (.iconst 1, 1) := by decide +kernel
theorem dL_law_954 : decode cL_law 954 = .ok (.iadd, 1) := by decide +kernel
theorem dL_law_955 : decode cL_law 955 = .ok (.iaload, 1) := by decide +kernel
theorem dL_law_956 : decode cL_law 956 = .ok (.invokevirtual 134, 3) := by decide +kernel
theorem dL_law_959 : decode cL_law 959 = .ok (.aload_n 2, 1) := by decide +kernel
theorem dL_law_960 : decode cL_law 960 = .ok (.aload_n 0, 1) := by decide +kernel
theorem dL_law_961 : decode cL_law 961 = .ok (.iload_n 3, 1) := by decide +kernel
theorem dL_law_962 : decode cL_law 962 = .ok (.iconst 1, 1) := by decide +kernel
theorem dL_law_963 : decode cL_law 963 = .ok (.iadd, 1) := by decide +kernel
theorem dL_law_964 : decode cL_law 964 = .ok (.iaload, 1) := by decide +kernel
theorem dL_law_965 : decode cL_law 965 = .ok (.invokevirtual 137, 3) := by decide +kernel
theorem dL_law_968 : decode cL_law 968 = .ok (.if_icmp .eq 19, 3) := by decide +kernel
theorem dL_law_971 : decode cL_law 971 = .ok (.iconst 0, 1) := by decide +kernel
theorem dL_law_972 : decode cL_law 972 = .ok (.ireturn, 1) := by decide +kernel
theorem dL_law_973 : decode cL_law 973 = .ok (.aload_n 1, 1) := by decide +kernel
theorem dL_law_974 : decode cL_law 974 = .ok (.invokevirtual 138, 3) := by decide +kernel
theorem dL_law_977 : decode cL_law 977 = .ok (.aload_n 2, 1) := by decide +kernel
theorem dL_law_978 : decode cL_law 978 = .ok (.invokevirtual 142, 3) := by decide +kernel
theorem dL_law_981 : decode cL_law 981 = .ok (.lcmp, 1) := by decide +kernel
theorem dL_law_982 : decode cL_law 982 = .ok (.ifCond .eq 5, 3) := by decide +kernel
theorem dL_law_985 : decode cL_law 985 = .ok (.iconst 0, 1) := by decide +kernel
theorem dL_law_986 : decode cL_law 986 = .ok (.ireturn, 1) := by decide +kernel
theorem dL_law_987 : decode cL_law 987 = .ok (.iinc 3 5, 3) := by decide +kernel
theorem dL_law_990 : decode cL_law 990 = .ok (.goto (-972), 3) := by decide +kernel
theorem dL_law_993 : decode cL_law 993 = .ok (.iconst 1, 1) := by decide +kernel
theorem dL_law_994 : decode cL_law 994 = .ok (.ireturn, 1) := by decide +kernel
end
section
/-! THE LAYER OF ABSTRACT STATES: a memory of ints and longs by (cell, place); a fixed shape; the machine's world is what the memory says -/
abbrev zkM : Type := (Nat → Nat → Int32) × (Nat → Nat → Int64)
/-- a system: how many cells; what each is: an array (length, kind: 0 int, 1 boolean, 2 long, 3 int[]) or an object of a kind; where references lead -/
abbrev zkS : Type := Nat × (Nat → Option ((Nat × Nat) ⊕ Nat)) × (Nat → Nat → Nat)
abbrev zkY : Type := MethodName × ByteArray × Nat × Option FieldType
def zk_ty : Nat → Nat → FieldType := fun ci => match ci with
  | 0 => tyX0
  | 1 => tyX1
  | 2 => tyX2
  | 3 => tyX3
  | 4 => tyX4
  | 5 => tyX5
  | 6 => tyX6
  | 7 => tyX7
  | 8 => tyX8
  | 9 => tyX9
  | 10 => tyX10
  | 11 => tyX11
  | _ => tyX12
def zk_nf : Nat → Nat := fun ci => match ci with
  | 0 => 2
  | 1 => 2
  | 2 => 2
  | 3 => 1
  | 4 => 1
  | 5 => 3
  | 6 => 6
  | 7 => 6
  | 8 => 1
  | 9 => 7
  | 10 => 11
  | 11 => 13
  | _ => 34
def zk_cv (α : Nat → Nat) (v : Value) : Value := match v with
  | .ref k => .ref (α k)
  | v => v
def zk_b (b : Bool) : Int32 := match b with
  | true => 1
  | false => 0
def zk_u (mem : zkM) (k i : Nat) (x : Int32) : zkM := (fun a b => if a = k ∧ b = i then x else mem.1 a b, mem.2)
def zk_ul (mem : zkM) (k i : Nat) (x : Int64) : zkM := (mem.1, fun a b => if a = k ∧ b = i then x else mem.2 a b)
def zk_cp (mem : zkM) (k0 k1 sp dp n : Nat) : zkM := (fun a b => if a = k1 ∧ dp ≤ b ∧ b < dp + n then mem.1 k0 (sp + (b - dp)) else mem.1 a b, mem.2)
def zk_fv (S : zkS) (α : Nat → Nat) (mem : zkM) (k ci f : Nat) : Value := match zk_ty ci f with
  | .int => .int (mem.1 k f)
  | .boolean => .int (mem.1 k f)
  | .long => .long (mem.2 k f)
  | _ => .ref (α (S.2.2 k f))
def zk_arr (S : zkS) (α : Nat → Nat) (κ : Nat → ClassId) (mem : zkM) (k n : Nat) (q : Nat) : va_E := match q with
  | 0 => .inl (κ 0, n, .inl (mem.1 k))
  | 1 => .inl (κ 1, n, .inl (mem.1 k))
  | 2 => .inl (κ 2, n, .inr (.inl (mem.2 k)))
  | _ => .inl (κ 3, n, .inr (.inr (.inr (.inr (fun i => if i < n then some (α (S.2.2 k i)) else none)))))
def zk_cell (S : zkS) (α : Nat → Nat) (κ : Nat → ClassId) (mem : zkM) (k : Nat) : va_E := match S.2.1 k with
  | some (.inl z) => zk_arr S α κ mem k z.1 z.2
  | some (.inr ci) => .inr (ci, (List.range (zk_nf ci)).map (zk_fv S α mem k ci))
  | none => .inr (0, [])
def zk_w (S : zkS) (α : Nat → Nat) (κ : Nat → ClassId) (mem : zkM) : va_W := (List.range S.1).map (fun k => (α k, zk_cell S α κ mem k))
def zk_tys (κ : Nat → ClassId) : List (ClassId × FieldType) := [(κ 0, .int), (κ 1, .boolean), (κ 2, .long), (κ 3, .array .int)]
/-- the tables' words that hold on -/
def zk_tb : List Cond := lw_tbl.filter goodWord
theorem zk_in {w : Cond} (h : w ∈ lw_tbl) (g : goodWord w = true) : w ∈ zk_tb := List.mem_filter.mpr ⟨h, g⟩
def zk_ws (M : zkY) : List Cond := .code M.1 M.2.1 M.2.2.1 M.2.2.2 :: zk_tb
def zk_nst : List (String × Nat × MethodName × String) := [(RX9, 74, yX11_within, "TreePlanks"), (RX1, 36, yX11_within, "TreePlanks"), (RX8, 49, yX11_growth, "TreePlanks"), (RX8, 56, yX11_givesAt, "TreePlanks"), (RX2, 24, yX11_givesAt, "TreePlanks"), (RX2, 38, yX11_growth, "TreePlanks")]
def zk_stt : List (String × List Int32) := [("BOUGH_LEAST", [0, 1, 0]), ("BOUGH_GREATEST", [20, 60, 3]), ("PLANK_LEAST", [0, 0, 1, 0, 0]), ("PLANK_GREATEST", [7, 7, 40, 3, 3]), ("CHILD_LEAST", [1, 0]), ("CHILD_GREATEST", [9, 9])]
def zk_ro (α : Nat → Nat) (A : Nat → Prop) (U : State) (H : Heap) : Prop :=
  (∀ q ∈ zk_nst, va_Nw (.methodLinkNest q.1 q.2.1 q.2.2.1 q.2.2.2) U) ∧
  ∀ (j : Nat) (q : String × List Int32), zk_stt[j]? = some q → va_Z "TreePlanks$Script" q.1 "[I" (.ref (α (1000 + j))) A U H ∧ va_T .int (α (1000 + j)) q.2.length (fun i => .int (q.2.getD i 0)) A U H
def zk_B (S : zkS) (D : va_G) (α : Nat → Nat) (κ : Nat → ClassId) (A : Nat → Prop) (mem : zkM) (U : State) : Prop :=
  va_P D vwCl (zk_w S α κ mem) U.heap ∧ va_K D vwCl (zk_tys κ) U ∧ va_D A (zk_w S α κ mem) ∧ zk_ro α A U U.heap
def zk_Q (S : zkS) (D : va_G) (α : Nat → Nat) (κ : Nat → ClassId) (A : Nat → Prop) (r : Option Value × zkM) : Array Value → State → Outcome → State → Prop :=
  fun _ st oc t => oc = .returned (r.1.map (zk_cv α)) ∧ zk_B S D α κ A r.2 t ∧ va_F A st t
def zk_room (d : Nat) : Room := { frames := d + 1, cells := 0, slots := 0, locals := 64 * d + 64 }
/-- a method's contract: called with 'as' at the memory 'mem' it ends with r: its answer, the memory behind it -/
def zk_X (S : zkS) (d : Nat) (M : zkY) (as : List Value) (mem : zkM) (r : Option Value × zkM) : Prop :=
  ∀ (l : Launch) (D : va_G) (α : Nat → Nat) (κ : Nat → ClassId) (A : Nat → Prop), Met l M.1 (zk_ws M) (zk_room d) (va_Pc (as.map (zk_cv α)) (zk_B S D α κ A mem)) (zk_Q S D α κ A r) 0 0 A
def zk_lv (α : Nat → Nat) (nL : Nat) (ls : Array Slot) (lv : List (Option Value)) : Prop := ls.size = nL ∧ lv_wf ls ∧ ∀ (i : Nat) (v : Value), lv[i]? = some (some v) → ls[i]? = some (.val (zk_cv α v))
def zk_F (M : zkY) (p : Program) (s : State) (m : MethodId) (args : Array Value) (meth : Method) (c : Code) (D : va_G) (α : Nat → Nat) (κ : Nat → ClassId) (A : Nat → Prop) : Prop :=
  p.tables.exec = Jvm.exec ∧ c.code = M.2.1 ∧ c.maxLocals = M.2.2.1 ∧ meth.sig.returnType = M.2.2.2 ∧ meth.locks = false ∧ s.vm.findClass M.1.cls = some m.cls ∧ (∀ w ∈ zk_ws M, w.before args s = true) ∧ va_K D vwCl (zk_tys κ) s ∧ zk_ro α A s s.heap
abbrev zkZ : Type := va_G → (Nat → Nat) → (Nat → ClassId) → (Nat → Prop) → Array Value → State → Outcome → State → Prop
abbrev zk_R (S : zkS) (r : Option Value × zkM) : zkZ := fun D α κ A => zk_Q S D α κ A r
/-- the machine, at pc with these locals and this stack, over the memory mem, comes to the method's end as Z has it -/
def zk_J (S : zkS) (d : Nat) (M : zkY) (Z : zkZ) (pc : Nat) (lv : List (Option Value)) (st : List Value) (mem : zkM) : Prop :=
  ∀ (p : Program) (l : Launch) (e : Env) (s : State) (m : MethodId) (args : Array Value) (below : List Frame) (meth : Method) (c : Code) (D : va_G) (α : Nat → Nat) (κ : Nat → ClassId) (A : Nat → Prop) (H : Heap) (locs : List Loc) (ls : Array Slot),
    zk_F M p s m args meth c D α κ A → va_P D vwCl (zk_w S α κ mem) H → va_D A (zk_w S α κ mem) → va_S A s.heap H locs → zk_lv α M.2.2.1 ls lv →
    W p l e (zk_room d) s m args below meth c H locs 0 0 (MQ below (Z D α κ A) args s 0 0 A) (F0 m pc ls (st.map (zk_cv α)))
theorem zk_cv_cat (α : Nat → Nat) (v : Value) : (zk_cv α v).category = v.category := by cases v <;> rfl
theorem zk_cat (α : Nat → Nat) (st : List Value) : ((st.map (zk_cv α)).map fun v => v.category) = st.map fun v => v.category := by
  rw [List.map_map]
  exact List.map_congr_left (fun v _ => zk_cv_cat α v)
theorem zk_w_get {S : zkS} {α : Nat → Nat} {κ : Nat → ClassId} {mem : zkM} {k : Nat} (h : k < S.1) : (zk_w S α κ mem)[k]? = some (α k, zk_cell S α κ mem k) := by
  unfold zk_w
  rw [List.getElem?_map, List.getElem?_range h]
  rfl
theorem zk_w_set {S : zkS} {α : Nat → Nat} {κ : Nat → ClassId} {mem mem' : zkM} {k : Nat} {x : va_E} (hk : zk_cell S α κ mem' k = x) (ho : ∀ j, j ≠ k → zk_cell S α κ mem' j = zk_cell S α κ mem j) : (zk_w S α κ mem).set k (α k, x) = zk_w S α κ mem' := by
  subst hk
  apply List.ext_getElem?
  intro j
  unfold zk_w
  rw [List.getElem?_set]
  by_cases h : k = j
  · subst h
    by_cases hl : k < S.1
    · simp [hl]
    · simp [hl]
  · rw [if_neg h, List.getElem?_map, List.getElem?_map]
    by_cases hl : j < S.1
    · rw [List.getElem?_range hl]
      simp [ho j (fun q => h q.symm)]
    · rw [List.getElem?_eq_none (by simpa using hl)]
      rfl
theorem zk_cell_obj {S : zkS} {α : Nat → Nat} {κ : Nat → ClassId} {mem : zkM} {k ci : Nat} (h : S.2.1 k = some (.inr ci)) : zk_cell S α κ mem k = .inr (ci, (List.range (zk_nf ci)).map (zk_fv S α mem k ci)) := by
  unfold zk_cell
  rw [h]
theorem zk_cell_arr {S : zkS} {α : Nat → Nat} {κ : Nat → ClassId} {mem : zkM} {k n q : Nat} (h : S.2.1 k = some (.inl (n, q))) : zk_cell S α κ mem k = zk_arr S α κ mem k n q := by
  unfold zk_cell
  rw [h]
/-- a cell's picture hangs on its own row of the memory alone -/
theorem zk_cell_congr {S : zkS} {α : Nat → Nat} {κ : Nat → ClassId} {mem mem' : zkM} {k : Nat} (h1 : mem'.1 k = mem.1 k) (h2 : mem'.2 k = mem.2 k) : zk_cell S α κ mem' k = zk_cell S α κ mem k := by
  unfold zk_cell zk_arr zk_fv
  rw [h1, h2]
theorem zk_u_off {mem : zkM} {k i j : Nat} {x : Int32} (h : j ≠ k) : (zk_u mem k i x).1 j = mem.1 j := by
  funext b
  simp [zk_u, h]
theorem zk_u_on {mem : zkM} {k i : Nat} {x : Int32} : (zk_u mem k i x).1 k = upd (mem.1 k) i x := by
  funext b
  simp [zk_u, upd]
theorem zk_ul_off {mem : zkM} {k i j : Nat} {x : Int64} (h : j ≠ k) : (zk_ul mem k i x).2 j = mem.2 j := by
  funext b
  simp [zk_ul, h]
theorem zk_ul_on {mem : zkM} {k i : Nat} {x : Int64} : (zk_ul mem k i x).2 k = vp_updL (mem.2 k) i x := by
  funext b
  simp [zk_ul, vp_updL]
theorem zk_cp_off {mem : zkM} {k0 k1 sp dp n j : Nat} (h : j ≠ k1) : (zk_cp mem k0 k1 sp dp n).1 j = mem.1 j := by
  funext b
  simp [zk_cp, h]
theorem zk_cp_on {mem : zkM} {k0 k1 sp dp n : Nat} : (zk_cp mem k0 k1 sp dp n).1 k1 = va_cpy (mem.1 k0) (mem.1 k1) sp dp n := by
  funext b
  simp [zk_cp, va_cpy]
/-! locals -/
def zk_pr (α : Nat → Nat) (lv : List (Option Value)) : List (Nat × Value) := lv.zipIdx.filterMap (fun q => q.1.map (fun v => (q.2, zk_cv α v)))
theorem zk_pr_mem {α : Nat → Nat} {lv : List (Option Value)} {i : Nat} {v : Value} (h : lv[i]? = some (some v)) : (i, zk_cv α v) ∈ zk_pr α lv :=
  List.mem_filterMap.mpr ⟨(some v, i), List.mem_zipIdx_iff_getElem?.mpr h, rfl⟩
theorem zk_pr_of {α : Nat → Nat} {lv : List (Option Value)} {q : Nat × Value} (h : q ∈ zk_pr α lv) : ∃ v, lv[q.1]? = some (some v) ∧ q.2 = zk_cv α v := by
  obtain ⟨⟨o, i⟩, h1, h2⟩ := List.mem_filterMap.mp h
  have h3 := List.mem_zipIdx_iff_getElem?.mp h1
  cases o with
  | none => cases h2
  | some v => cases h2; exact ⟨v, h3, rfl⟩
theorem zk_lv.has {α : Nat → Nat} {nL : Nat} {ls : Array Slot} {lv : List (Option Value)} (h : zk_lv α nL ls lv) : lv_has ls nL (zk_pr α lv) :=
  ⟨h.1, h.2.1, fun q hq => by obtain ⟨v, h1, h2⟩ := zk_pr_of hq; rw [h2]; exact h.2.2 _ _ h1⟩
def zk_nl (lv : List (Option Value)) (i : Nat) : Bool := match i with
  | 0 => true
  | j + 1 => match lv[j]? with
    | some (some v) => v.category == 1
    | _ => true
theorem zk_lv.st1 {α : Nat → Nat} {nL i : Nat} {ls' : Array Slot} {lv : List (Option Value)} {v : Value} (hc : zk_nl lv i = true)
    (h : lv_has ls' nL ((i, zk_cv α v) :: (zk_pr α lv).filter (fun q => !(q.1 == i) && !(q.1 + 1 == i && q.2.category == 2)))) : zk_lv α nL ls' (lv.set i (some v)) := by
  refine ⟨h.1, h.2.1, fun j w hj => ?_⟩
  rw [List.getElem?_set] at hj
  by_cases e : i = j
  · subst e
    rw [if_pos rfl] at hj
    split at hj
    · cases hj; exact h.2.2 _ List.mem_cons_self
    · cases hj
  · rw [if_neg e] at hj
    refine h.2.2 (j, zk_cv α w) (List.mem_cons_of_mem _ (List.mem_filter.mpr ⟨zk_pr_mem hj, ?_⟩))
    simp only [Bool.and_eq_true, Bool.not_eq_true', Bool.and_eq_false_iff, beq_eq_false_iff_ne, ne_eq]
    refine ⟨fun q => e q.symm, ?_⟩
    by_cases e2 : j + 1 = i
    · right
      subst e2
      simp only [zk_nl, hj, beq_iff_eq] at hc
      rw [zk_cv_cat, hc]
      decide
    · left; exact e2
theorem zk_lv.st2 {α : Nat → Nat} {nL i : Nat} {ls' : Array Slot} {lv : List (Option Value)} {v : Value} (hc : zk_nl lv i = true)
    (h : lv_has ls' nL ((i, zk_cv α v) :: (zk_pr α lv).filter (fun q => !(q.1 == i) && (!(q.1 == i + 1) && !(q.1 + 1 == i && q.2.category == 2))))) : zk_lv α nL ls' ((lv.set i (some v)).set (i + 1) none) := by
  refine ⟨h.1, h.2.1, fun j w hj => ?_⟩
  rw [List.getElem?_set] at hj
  by_cases e1 : i + 1 = j
  · rw [if_pos e1] at hj
    split at hj <;> cases hj
  rw [if_neg e1, List.getElem?_set] at hj
  by_cases e : i = j
  · subst e
    rw [if_pos rfl] at hj
    split at hj
    · cases hj; exact h.2.2 _ List.mem_cons_self
    · cases hj
  · rw [if_neg e] at hj
    refine h.2.2 (j, zk_cv α w) (List.mem_cons_of_mem _ (List.mem_filter.mpr ⟨zk_pr_mem hj, ?_⟩))
    simp only [Bool.and_eq_true, Bool.not_eq_true', Bool.and_eq_false_iff, beq_eq_false_iff_ne, ne_eq]
    refine ⟨fun q => e q.symm, fun q => e1 q.symm, ?_⟩
    by_cases e2 : j + 1 = i
    · right
      subst e2
      simp only [zk_nl, hj, beq_iff_eq] at hc
      rw [zk_cv_cat, hc]
      decide
    · left; exact e2
/-- fewer known locals -/
def zk_le : List (Option Value) → List (Option Value) → Prop
  | [], _ => True
  | none :: a, _ :: b => zk_le a b
  | some v :: a, some w :: b => v = w ∧ zk_le a b
  | _, _ => False
theorem zk_le_get : ∀ {a b : List (Option Value)} {i : Nat} {v : Value}, zk_le a b → a[i]? = some (some v) → b[i]? = some (some v)
  | [], _, i, v, _, h => by simp at h
  | none :: a, [], i, v, hl, h => by simp [zk_le] at hl
  | none :: a, y :: b, 0, v, hl, h => by simp at h
  | none :: a, y :: b, i + 1, v, hl, h => by
    rw [List.getElem?_cons_succ] at h ⊢
    exact zk_le_get (a := a) (by simpa [zk_le] using hl) h
  | some x :: a, [], i, v, hl, h => by simp [zk_le] at hl
  | some x :: a, none :: b, i, v, hl, h => by simp [zk_le] at hl
  | some x :: a, some y :: b, 0, v, hl, h => by
    simp only [zk_le] at hl
    rw [← hl.1]; exact h
  | some x :: a, some y :: b, i + 1, v, hl, h => by
    simp only [zk_le] at hl
    rw [List.getElem?_cons_succ] at h ⊢
    exact zk_le_get (a := a) hl.2 h

theorem zk_weak {S : zkS} {d : Nat} {M : zkY} {Z : zkZ} {pc : Nat} {lv : List (Option Value)} {st : List Value} {mem : zkM} {lv' : List (Option Value)} (h : zk_le lv' lv) (k : zk_J S d M Z pc lv' st mem) : zk_J S d M Z pc lv st mem := by
  intro p l e s m args below meth c D α κ A H locs ls hF hP hD hS hl
  exact k p l e s m args below meth c D α κ A H locs ls hF hP hD hS ⟨hl.1, hl.2.1, fun i v h => hl.2.2 i v (zk_le_get ‹_› h)⟩
theorem zk_iconst {S : zkS} {d : Nat} {M : zkY} {Z : zkZ} {pc : Nat} {lv : List (Option Value)} {st : List Value} {mem : zkM} {n : Int} {v : Int32} (hd : decode M.2.1 pc = .ok (.iconst n, 1)) (hv : Int32.ofInt n = v) (k : zk_J S d M Z (pc + 1) lv (.int v :: st) mem) : zk_J S d M Z pc lv st mem := by
  intro p l e s m args below meth c D α κ A H locs ls hF hP hD hS hl
  exact lv_iconst hF.1 hF.2.1 hd hv (k p l e s m args below meth c D α κ A H locs ls hF hP hD hS hl)
theorem zk_bipush {S : zkS} {d : Nat} {M : zkY} {Z : zkZ} {pc : Nat} {lv : List (Option Value)} {st : List Value} {mem : zkM} {n : Int} {v : Int32} (hd : decode M.2.1 pc = .ok (.bipush n, 2)) (hv : (Int8.ofInt n).toInt32 = v) (k : zk_J S d M Z (pc + 2) lv (.int v :: st) mem) : zk_J S d M Z pc lv st mem := by
  intro p l e s m args below meth c D α κ A H locs ls hF hP hD hS hl
  exact lv_bipush hF.1 hF.2.1 hd hv (k p l e s m args below meth c D α κ A H locs ls hF hP hD hS hl)
theorem zk_sipush {S : zkS} {d : Nat} {M : zkY} {Z : zkZ} {pc : Nat} {lv : List (Option Value)} {st : List Value} {mem : zkM} {n : Int} {v : Int32} (hd : decode M.2.1 pc = .ok (.sipush n, 3)) (hv : (Int16.ofInt n).toInt32 = v) (k : zk_J S d M Z (pc + 3) lv (.int v :: st) mem) : zk_J S d M Z pc lv st mem := by
  intro p l e s m args below meth c D α κ A H locs ls hF hP hD hS hl
  exact lv_sipush hF.1 hF.2.1 hd hv (k p l e s m args below meth c D α κ A H locs ls hF hP hD hS hl)
theorem zk_lconst {S : zkS} {d : Nat} {M : zkY} {Z : zkZ} {pc : Nat} {lv : List (Option Value)} {st : List Value} {mem : zkM} {n : Fin 2} {v : Int64} (hd : decode M.2.1 pc = .ok (.lconst n, 1)) (hv : Int64.ofNat (n : Nat) = v) (k : zk_J S d M Z (pc + 1) lv (.long v :: st) mem) : zk_J S d M Z pc lv st mem := by
  intro p l e s m args below meth c D α κ A H locs ls hF hP hD hS hl
  exact lv_lconst hF.1 hF.2.1 hd hv (k p l e s m args below meth c D α κ A H locs ls hF hP hD hS hl)
theorem zk_iload_n {S : zkS} {d : Nat} {M : zkY} {Z : zkZ} {pc : Nat} {lv : List (Option Value)} {st : List Value} {mem : zkM} {j : Fin 4} {i : Nat} {x : Int32} (hd : decode M.2.1 pc = .ok (.iload_n j, 1)) (hi : (j : Nat) = i) (hv : lv[i]? = some (some (.int x))) (k : zk_J S d M Z (pc + 1) lv (.int x :: st) mem) : zk_J S d M Z pc lv st mem := by
  intro p l e s m args below meth c D α κ A H locs ls hF hP hD hS hl
  exact lv_iload_n hF.1 hF.2.1 hd hi (hl.2.2 i _ hv) (k p l e s m args below meth c D α κ A H locs ls hF hP hD hS hl)
theorem zk_iload {S : zkS} {d : Nat} {M : zkY} {Z : zkZ} {pc : Nat} {lv : List (Option Value)} {st : List Value} {mem : zkM} {i : Nat} {x : Int32} (hd : decode M.2.1 pc = .ok (.iload i, 2)) (hv : lv[i]? = some (some (.int x))) (k : zk_J S d M Z (pc + 2) lv (.int x :: st) mem) : zk_J S d M Z pc lv st mem := by
  intro p l e s m args below meth c D α κ A H locs ls hF hP hD hS hl
  exact lv_iload hF.1 hF.2.1 hd (hl.2.2 i _ hv) (k p l e s m args below meth c D α κ A H locs ls hF hP hD hS hl)
theorem zk_lload_n {S : zkS} {d : Nat} {M : zkY} {Z : zkZ} {pc : Nat} {lv : List (Option Value)} {st : List Value} {mem : zkM} {j : Fin 4} {i : Nat} {x : Int64} (hd : decode M.2.1 pc = .ok (.lload_n j, 1)) (hi : (j : Nat) = i) (hv : lv[i]? = some (some (.long x))) (k : zk_J S d M Z (pc + 1) lv (.long x :: st) mem) : zk_J S d M Z pc lv st mem := by
  intro p l e s m args below meth c D α κ A H locs ls hF hP hD hS hl
  exact lv_lload_n hF.1 hF.2.1 hd hi (hl.2.2 i _ hv) (k p l e s m args below meth c D α κ A H locs ls hF hP hD hS hl)
theorem zk_lload {S : zkS} {d : Nat} {M : zkY} {Z : zkZ} {pc : Nat} {lv : List (Option Value)} {st : List Value} {mem : zkM} {i : Nat} {x : Int64} (hd : decode M.2.1 pc = .ok (.lload i, 2)) (hv : lv[i]? = some (some (.long x))) (k : zk_J S d M Z (pc + 2) lv (.long x :: st) mem) : zk_J S d M Z pc lv st mem := by
  intro p l e s m args below meth c D α κ A H locs ls hF hP hD hS hl
  exact lv_lload hF.1 hF.2.1 hd (hl.2.2 i _ hv) (k p l e s m args below meth c D α κ A H locs ls hF hP hD hS hl)
theorem zk_aload_n {S : zkS} {d : Nat} {M : zkY} {Z : zkZ} {pc : Nat} {lv : List (Option Value)} {st : List Value} {mem : zkM} {j : Fin 4} {i : Nat} {x : Nat} (hd : decode M.2.1 pc = .ok (.aload_n j, 1)) (hi : (j : Nat) = i) (hv : lv[i]? = some (some (.ref x))) (k : zk_J S d M Z (pc + 1) lv (.ref x :: st) mem) : zk_J S d M Z pc lv st mem := by
  intro p l e s m args below meth c D α κ A H locs ls hF hP hD hS hl
  exact lv_aload_n hF.1 hF.2.1 hd hi (hl.2.2 i _ hv) (k p l e s m args below meth c D α κ A H locs ls hF hP hD hS hl)
theorem zk_aload {S : zkS} {d : Nat} {M : zkY} {Z : zkZ} {pc : Nat} {lv : List (Option Value)} {st : List Value} {mem : zkM} {i : Nat} {x : Nat} (hd : decode M.2.1 pc = .ok (.aload i, 2)) (hv : lv[i]? = some (some (.ref x))) (k : zk_J S d M Z (pc + 2) lv (.ref x :: st) mem) : zk_J S d M Z pc lv st mem := by
  intro p l e s m args below meth c D α κ A H locs ls hF hP hD hS hl
  exact lv_aload hF.1 hF.2.1 hd (hl.2.2 i _ hv) (k p l e s m args below meth c D α κ A H locs ls hF hP hD hS hl)
theorem zk_iadd {S : zkS} {d : Nat} {M : zkY} {Z : zkZ} {pc : Nat} {lv : List (Option Value)} {st : List Value} {mem : zkM} {x y : Int32} (hd : decode M.2.1 pc = .ok (.iadd, 1)) (k : zk_J S d M Z (pc + 1) lv (.int (x + y) :: st) mem) : zk_J S d M Z pc lv (.int y :: .int x :: st) mem := by
  intro p l e s m args below meth c D α κ A H locs ls hF hP hD hS hl
  exact lv_iadd hF.1 hF.2.1 hd (k p l e s m args below meth c D α κ A H locs ls hF hP hD hS hl)
theorem zk_isub {S : zkS} {d : Nat} {M : zkY} {Z : zkZ} {pc : Nat} {lv : List (Option Value)} {st : List Value} {mem : zkM} {x y : Int32} (hd : decode M.2.1 pc = .ok (.isub, 1)) (k : zk_J S d M Z (pc + 1) lv (.int (x - y) :: st) mem) : zk_J S d M Z pc lv (.int y :: .int x :: st) mem := by
  intro p l e s m args below meth c D α κ A H locs ls hF hP hD hS hl
  exact lv_isub hF.1 hF.2.1 hd (k p l e s m args below meth c D α κ A H locs ls hF hP hD hS hl)
theorem zk_imul {S : zkS} {d : Nat} {M : zkY} {Z : zkZ} {pc : Nat} {lv : List (Option Value)} {st : List Value} {mem : zkM} {x y : Int32} (hd : decode M.2.1 pc = .ok (.imul, 1)) (k : zk_J S d M Z (pc + 1) lv (.int (x * y) :: st) mem) : zk_J S d M Z pc lv (.int y :: .int x :: st) mem := by
  intro p l e s m args below meth c D α κ A H locs ls hF hP hD hS hl
  exact lv_imul hF.1 hF.2.1 hd (k p l e s m args below meth c D α κ A H locs ls hF hP hD hS hl)
theorem zk_iand {S : zkS} {d : Nat} {M : zkY} {Z : zkZ} {pc : Nat} {lv : List (Option Value)} {st : List Value} {mem : zkM} {x y : Int32} (hd : decode M.2.1 pc = .ok (.iand, 1)) (k : zk_J S d M Z (pc + 1) lv (.int (x &&& y) :: st) mem) : zk_J S d M Z pc lv (.int y :: .int x :: st) mem := by
  intro p l e s m args below meth c D α κ A H locs ls hF hP hD hS hl
  exact lv_iand hF.1 hF.2.1 hd (k p l e s m args below meth c D α κ A H locs ls hF hP hD hS hl)
theorem zk_ior {S : zkS} {d : Nat} {M : zkY} {Z : zkZ} {pc : Nat} {lv : List (Option Value)} {st : List Value} {mem : zkM} {x y : Int32} (hd : decode M.2.1 pc = .ok (.ior, 1)) (k : zk_J S d M Z (pc + 1) lv (.int (x ||| y) :: st) mem) : zk_J S d M Z pc lv (.int y :: .int x :: st) mem := by
  intro p l e s m args below meth c D α κ A H locs ls hF hP hD hS hl
  exact lv_ior hF.1 hF.2.1 hd (k p l e s m args below meth c D α κ A H locs ls hF hP hD hS hl)
theorem zk_ixor {S : zkS} {d : Nat} {M : zkY} {Z : zkZ} {pc : Nat} {lv : List (Option Value)} {st : List Value} {mem : zkM} {x y : Int32} (hd : decode M.2.1 pc = .ok (.ixor, 1)) (k : zk_J S d M Z (pc + 1) lv (.int (x ^^^ y) :: st) mem) : zk_J S d M Z pc lv (.int y :: .int x :: st) mem := by
  intro p l e s m args below meth c D α κ A H locs ls hF hP hD hS hl
  exact lv_ixor hF.1 hF.2.1 hd (k p l e s m args below meth c D α κ A H locs ls hF hP hD hS hl)
theorem zk_ishl {S : zkS} {d : Nat} {M : zkY} {Z : zkZ} {pc : Nat} {lv : List (Option Value)} {st : List Value} {mem : zkM} {x y : Int32} (hd : decode M.2.1 pc = .ok (.ishl, 1)) (k : zk_J S d M Z (pc + 1) lv (.int (x <<< (y &&& 31)) :: st) mem) : zk_J S d M Z pc lv (.int y :: .int x :: st) mem := by
  intro p l e s m args below meth c D α κ A H locs ls hF hP hD hS hl
  exact lv_ishl hF.1 hF.2.1 hd (k p l e s m args below meth c D α κ A H locs ls hF hP hD hS hl)
theorem zk_ishr {S : zkS} {d : Nat} {M : zkY} {Z : zkZ} {pc : Nat} {lv : List (Option Value)} {st : List Value} {mem : zkM} {x y : Int32} (hd : decode M.2.1 pc = .ok (.ishr, 1)) (k : zk_J S d M Z (pc + 1) lv (.int (x >>> (y &&& 31)) :: st) mem) : zk_J S d M Z pc lv (.int y :: .int x :: st) mem := by
  intro p l e s m args below meth c D α κ A H locs ls hF hP hD hS hl
  exact lv_ishr hF.1 hF.2.1 hd (k p l e s m args below meth c D α κ A H locs ls hF hP hD hS hl)
theorem zk_iushr {S : zkS} {d : Nat} {M : zkY} {Z : zkZ} {pc : Nat} {lv : List (Option Value)} {st : List Value} {mem : zkM} {x y v : Int32} (hd : decode M.2.1 pc = .ok (.iushr, 1)) (hv : (x.toUInt32 >>> (y.toUInt32 &&& Int32.toUInt32 31)).toInt32 = v) (k : zk_J S d M Z (pc + 1) lv (.int v :: st) mem) : zk_J S d M Z pc lv (.int y :: .int x :: st) mem := by
  intro p l e s m args below meth c D α κ A H locs ls hF hP hD hS hl
  exact lv_iushr hF.1 hF.2.1 hd hv (k p l e s m args below meth c D α κ A H locs ls hF hP hD hS hl)
theorem zk_idiv {S : zkS} {d : Nat} {M : zkY} {Z : zkZ} {pc : Nat} {lv : List (Option Value)} {st : List Value} {mem : zkM} {x y : Int32} (hd : decode M.2.1 pc = .ok (.idiv, 1)) (hne : ¬ y = 0) (k : zk_J S d M Z (pc + 1) lv (.int (x / y) :: st) mem) : zk_J S d M Z pc lv (.int y :: .int x :: st) mem := by
  intro p l e s m args below meth c D α κ A H locs ls hF hP hD hS hl
  exact lv_idiv hF.1 hF.2.1 hd hne (k p l e s m args below meth c D α κ A H locs ls hF hP hD hS hl)
theorem zk_irem {S : zkS} {d : Nat} {M : zkY} {Z : zkZ} {pc : Nat} {lv : List (Option Value)} {st : List Value} {mem : zkM} {x y : Int32} (hd : decode M.2.1 pc = .ok (.irem, 1)) (hne : ¬ y = 0) (k : zk_J S d M Z (pc + 1) lv (.int (x - x / y * y) :: st) mem) : zk_J S d M Z pc lv (.int y :: .int x :: st) mem := by
  intro p l e s m args below meth c D α κ A H locs ls hF hP hD hS hl
  exact lv_irem hF.1 hF.2.1 hd hne (k p l e s m args below meth c D α κ A H locs ls hF hP hD hS hl)
theorem zk_ineg {S : zkS} {d : Nat} {M : zkY} {Z : zkZ} {pc : Nat} {lv : List (Option Value)} {st : List Value} {mem : zkM} {x : Int32} (hd : decode M.2.1 pc = .ok (.ineg, 1)) (k : zk_J S d M Z (pc + 1) lv (.int (-x) :: st) mem) : zk_J S d M Z pc lv (.int x :: st) mem := by
  intro p l e s m args below meth c D α κ A H locs ls hF hP hD hS hl
  exact lv_ineg hF.1 hF.2.1 hd (k p l e s m args below meth c D α κ A H locs ls hF hP hD hS hl)
theorem zk_ladd {S : zkS} {d : Nat} {M : zkY} {Z : zkZ} {pc : Nat} {lv : List (Option Value)} {st : List Value} {mem : zkM} {x y : Int64} (hd : decode M.2.1 pc = .ok (.ladd, 1)) (k : zk_J S d M Z (pc + 1) lv (.long (x + y) :: st) mem) : zk_J S d M Z pc lv (.long y :: .long x :: st) mem := by
  intro p l e s m args below meth c D α κ A H locs ls hF hP hD hS hl
  exact lv_ladd hF.1 hF.2.1 hd (k p l e s m args below meth c D α κ A H locs ls hF hP hD hS hl)
theorem zk_lsub {S : zkS} {d : Nat} {M : zkY} {Z : zkZ} {pc : Nat} {lv : List (Option Value)} {st : List Value} {mem : zkM} {x y : Int64} (hd : decode M.2.1 pc = .ok (.lsub, 1)) (k : zk_J S d M Z (pc + 1) lv (.long (x - y) :: st) mem) : zk_J S d M Z pc lv (.long y :: .long x :: st) mem := by
  intro p l e s m args below meth c D α κ A H locs ls hF hP hD hS hl
  exact lv_lsub hF.1 hF.2.1 hd (k p l e s m args below meth c D α κ A H locs ls hF hP hD hS hl)
theorem zk_lmul {S : zkS} {d : Nat} {M : zkY} {Z : zkZ} {pc : Nat} {lv : List (Option Value)} {st : List Value} {mem : zkM} {x y : Int64} (hd : decode M.2.1 pc = .ok (.lmul, 1)) (k : zk_J S d M Z (pc + 1) lv (.long (x * y) :: st) mem) : zk_J S d M Z pc lv (.long y :: .long x :: st) mem := by
  intro p l e s m args below meth c D α κ A H locs ls hF hP hD hS hl
  exact lv_lmul hF.1 hF.2.1 hd (k p l e s m args below meth c D α κ A H locs ls hF hP hD hS hl)
theorem zk_ldiv {S : zkS} {d : Nat} {M : zkY} {Z : zkZ} {pc : Nat} {lv : List (Option Value)} {st : List Value} {mem : zkM} {x y : Int64} (hd : decode M.2.1 pc = .ok (.ldiv, 1)) (hne : ¬ y = 0) (k : zk_J S d M Z (pc + 1) lv (.long (x / y) :: st) mem) : zk_J S d M Z pc lv (.long y :: .long x :: st) mem := by
  intro p l e s m args below meth c D α κ A H locs ls hF hP hD hS hl
  exact lv_ldiv hF.1 hF.2.1 hd hne (k p l e s m args below meth c D α κ A H locs ls hF hP hD hS hl)
theorem zk_lrem {S : zkS} {d : Nat} {M : zkY} {Z : zkZ} {pc : Nat} {lv : List (Option Value)} {st : List Value} {mem : zkM} {x y : Int64} (hd : decode M.2.1 pc = .ok (.lrem, 1)) (hne : ¬ y = 0) (k : zk_J S d M Z (pc + 1) lv (.long (x - x / y * y) :: st) mem) : zk_J S d M Z pc lv (.long y :: .long x :: st) mem := by
  intro p l e s m args below meth c D α κ A H locs ls hF hP hD hS hl
  exact lv_lrem hF.1 hF.2.1 hd hne (k p l e s m args below meth c D α κ A H locs ls hF hP hD hS hl)
theorem zk_i2l {S : zkS} {d : Nat} {M : zkY} {Z : zkZ} {pc : Nat} {lv : List (Option Value)} {st : List Value} {mem : zkM} {x : Int32} (hd : decode M.2.1 pc = .ok (.i2l, 1)) (k : zk_J S d M Z (pc + 1) lv (.long x.toInt64 :: st) mem) : zk_J S d M Z pc lv (.int x :: st) mem := by
  intro p l e s m args below meth c D α κ A H locs ls hF hP hD hS hl
  exact lv_i2l hF.1 hF.2.1 hd rfl (k p l e s m args below meth c D α κ A H locs ls hF hP hD hS hl)
theorem zk_lcmp {S : zkS} {d : Nat} {M : zkY} {Z : zkZ} {pc : Nat} {lv : List (Option Value)} {st : List Value} {mem : zkM} {x y : Int64} (hd : decode M.2.1 pc = .ok (.lcmp, 1)) (k : zk_J S d M Z (pc + 1) lv (.int (lg_cmp x y) :: st) mem) : zk_J S d M Z pc lv (.long y :: .long x :: st) mem := by
  intro p l e s m args below meth c D α κ A H locs ls hF hP hD hS hl
  exact W.lcmp hF.1 hF.2.1 hd (k p l e s m args below meth c D α κ A H locs ls hF hP hD hS hl)
theorem zk_dup {S : zkS} {d : Nat} {M : zkY} {Z : zkZ} {pc : Nat} {lv : List (Option Value)} {st : List Value} {mem : zkM} {v : Value} (hd : decode M.2.1 pc = .ok (.dup, 1)) (hc : v.category = 1) (k : zk_J S d M Z (pc + 1) lv (v :: v :: st) mem) : zk_J S d M Z pc lv (v :: st) mem := by
  intro p l e s m args below meth c D α κ A H locs ls hF hP hD hS hl
  exact lv_dup hF.1 hF.2.1 hd (by rw [zk_cv_cat]; exact hc) (k p l e s m args below meth c D α κ A H locs ls hF hP hD hS hl)
theorem zk_dup2 {S : zkS} {d : Nat} {M : zkY} {Z : zkZ} {pc : Nat} {lv : List (Option Value)} {st : List Value} {mem : zkM} {v u : Value} (hd : decode M.2.1 pc = .ok (.dup2, 1)) (hc : v.category = 1) (hc2 : u.category = 1) (k : zk_J S d M Z (pc + 1) lv (v :: u :: v :: u :: st) mem) : zk_J S d M Z pc lv (v :: u :: st) mem := by
  intro p l e s m args below meth c D α κ A H locs ls hF hP hD hS hl
  exact lv_dup2_11 hF.1 hF.2.1 hd (by rw [zk_cv_cat]; exact hc) (by rw [zk_cv_cat]; exact hc2) (k p l e s m args below meth c D α κ A H locs ls hF hP hD hS hl)
theorem zk_pop {S : zkS} {d : Nat} {M : zkY} {Z : zkZ} {pc : Nat} {lv : List (Option Value)} {st : List Value} {mem : zkM} {v : Value} (hd : decode M.2.1 pc = .ok (.pop, 1)) (hc : v.category = 1) (k : zk_J S d M Z (pc + 1) lv st mem) : zk_J S d M Z pc lv (v :: st) mem := by
  intro p l e s m args below meth c D α κ A H locs ls hF hP hD hS hl
  exact lv_pop hF.1 hF.2.1 hd (by rw [zk_cv_cat]; exact hc) (k p l e s m args below meth c D α κ A H locs ls hF hP hD hS hl)
theorem zk_istore_n {S : zkS} {d : Nat} {M : zkY} {Z : zkZ} {pc : Nat} {lv : List (Option Value)} {st : List Value} {mem : zkM} {j : Fin 4} {i : Nat} {x : Int32} (hd : decode M.2.1 pc = .ok (.istore_n j, 1)) (hi : (j : Nat) = i) (hn : i < M.2.2.1) (hc : zk_nl lv i = true) (k : zk_J S d M Z (pc + 1) (lv.set i (some (.int x))) st mem) : zk_J S d M Z pc lv (.int x :: st) mem := by
  intro p l e s m args below meth c D α κ A H locs ls hF hP hD hS hl
  exact lv_istore_n hF.1 hF.2.1 hd hi hl.has hn rfl (fun ls' h' => k p l e s m args below meth c D α κ A H locs ls' hF hP hD hS (zk_lv.st1 hc (v := .int x) h'))
theorem zk_istore {S : zkS} {d : Nat} {M : zkY} {Z : zkZ} {pc : Nat} {lv : List (Option Value)} {st : List Value} {mem : zkM} {i : Nat} {x : Int32} (hd : decode M.2.1 pc = .ok (.istore i, 2)) (hn : i < M.2.2.1) (hc : zk_nl lv i = true) (k : zk_J S d M Z (pc + 2) (lv.set i (some (.int x))) st mem) : zk_J S d M Z pc lv (.int x :: st) mem := by
  intro p l e s m args below meth c D α κ A H locs ls hF hP hD hS hl
  exact lv_istore hF.1 hF.2.1 hd hl.has hn rfl (fun ls' h' => k p l e s m args below meth c D α κ A H locs ls' hF hP hD hS (zk_lv.st1 hc (v := .int x) h'))
theorem zk_astore_n {S : zkS} {d : Nat} {M : zkY} {Z : zkZ} {pc : Nat} {lv : List (Option Value)} {st : List Value} {mem : zkM} {j : Fin 4} {i : Nat} {x : Nat} (hd : decode M.2.1 pc = .ok (.astore_n j, 1)) (hi : (j : Nat) = i) (hn : i < M.2.2.1) (hc : zk_nl lv i = true) (k : zk_J S d M Z (pc + 1) (lv.set i (some (.ref x))) st mem) : zk_J S d M Z pc lv (.ref x :: st) mem := by
  intro p l e s m args below meth c D α κ A H locs ls hF hP hD hS hl
  exact lv_astore_n hF.1 hF.2.1 hd hi hl.has hn rfl (fun ls' h' => k p l e s m args below meth c D α κ A H locs ls' hF hP hD hS (zk_lv.st1 hc (v := .ref x) h'))
theorem zk_astore {S : zkS} {d : Nat} {M : zkY} {Z : zkZ} {pc : Nat} {lv : List (Option Value)} {st : List Value} {mem : zkM} {i : Nat} {x : Nat} (hd : decode M.2.1 pc = .ok (.astore i, 2)) (hn : i < M.2.2.1) (hc : zk_nl lv i = true) (k : zk_J S d M Z (pc + 2) (lv.set i (some (.ref x))) st mem) : zk_J S d M Z pc lv (.ref x :: st) mem := by
  intro p l e s m args below meth c D α κ A H locs ls hF hP hD hS hl
  exact lv_astore hF.1 hF.2.1 hd hl.has hn rfl (fun ls' h' => k p l e s m args below meth c D α κ A H locs ls' hF hP hD hS (zk_lv.st1 hc (v := .ref x) h'))
theorem zk_lstore_n {S : zkS} {d : Nat} {M : zkY} {Z : zkZ} {pc : Nat} {lv : List (Option Value)} {st : List Value} {mem : zkM} {j : Fin 4} {i : Nat} {x : Int64} (hd : decode M.2.1 pc = .ok (.lstore_n j, 1)) (hi : (j : Nat) = i) (hn : i + 1 < M.2.2.1) (hc : zk_nl lv i = true) (k : zk_J S d M Z (pc + 1) ((lv.set i (some (.long x))).set (i + 1) none) st mem) : zk_J S d M Z pc lv (.long x :: st) mem := by
  intro p l e s m args below meth c D α κ A H locs ls hF hP hD hS hl
  exact lv_lstore_n hF.1 hF.2.1 hd hi hl.has hn rfl (fun ls' h' => k p l e s m args below meth c D α κ A H locs ls' hF hP hD hS (zk_lv.st2 hc (v := .long x) h'))
theorem zk_lstore {S : zkS} {d : Nat} {M : zkY} {Z : zkZ} {pc : Nat} {lv : List (Option Value)} {st : List Value} {mem : zkM} {i : Nat} {x : Int64} (hd : decode M.2.1 pc = .ok (.lstore i, 2)) (hn : i + 1 < M.2.2.1) (hc : zk_nl lv i = true) (k : zk_J S d M Z (pc + 2) ((lv.set i (some (.long x))).set (i + 1) none) st mem) : zk_J S d M Z pc lv (.long x :: st) mem := by
  intro p l e s m args below meth c D α κ A H locs ls hF hP hD hS hl
  exact lv_lstore hF.1 hF.2.1 hd hl.has hn rfl (fun ls' h' => k p l e s m args below meth c D α κ A H locs ls' hF hP hD hS (zk_lv.st2 hc (v := .long x) h'))
theorem zk_iinc {S : zkS} {d : Nat} {M : zkY} {Z : zkZ} {pc : Nat} {lv : List (Option Value)} {st : List Value} {mem : zkM} {i : Nat} {n : Int} {x v : Int32} (hd : decode M.2.1 pc = .ok (.iinc i n, 3)) (hv : lv[i]? = some (some (.int x))) (he : x + Int32.ofInt n = v) (hn : i < M.2.2.1) (hc : zk_nl lv i = true) (k : zk_J S d M Z (pc + 3) (lv.set i (some (.int v))) st mem) : zk_J S d M Z pc lv st mem := by
  intro p l e s m args below meth c D α κ A H locs ls hF hP hD hS hl
  obtain ⟨q, hq⟩ := List.getElem?_of_mem (zk_pr_mem (α := α) hv)
  exact lv_iinc hF.1 hF.2.1 hd hl.has hq he hn rfl (fun ls' h' => k p l e s m args below meth c D α κ A H locs ls' hF hP hD hS (zk_lv.st1 hc (v := .int v) h'))
theorem zk_if_eq {S : zkS} {d : Nat} {M : zkY} {Z : zkZ} {pc : Nat} {lv : List (Option Value)} {st : List Value} {mem : zkM} {x : Int32} {off : Int} (tgt : Nat) (hd : decode M.2.1 pc = .ok (.ifCond .eq off, 3)) (ht : (pc : Int) + off = (tgt : Int)) (kt : x = 0 → zk_J S d M Z tgt lv st mem) (kf : ¬ x = 0 → zk_J S d M Z (pc + 3) lv st mem) : zk_J S d M Z pc lv (.int x :: st) mem := by
  intro p l e s m args below meth c D α κ A H locs ls hF hP hD hS hl
  exact lv_if_eq hF.1 hF.2.1 hd ht (fun z => kt z p l e s m args below meth c D α κ A H locs ls hF hP hD hS hl) (fun z => kf z p l e s m args below meth c D α κ A H locs ls hF hP hD hS hl)
theorem zk_icmp_eq {S : zkS} {d : Nat} {M : zkY} {Z : zkZ} {pc : Nat} {lv : List (Option Value)} {st : List Value} {mem : zkM} {x y : Int32} {off : Int} (tgt : Nat) (hd : decode M.2.1 pc = .ok (.if_icmp .eq off, 3)) (ht : (pc : Int) + off = (tgt : Int)) (kt : x = y → zk_J S d M Z tgt lv st mem) (kf : ¬ x = y → zk_J S d M Z (pc + 3) lv st mem) : zk_J S d M Z pc lv (.int y :: .int x :: st) mem := by
  intro p l e s m args below meth c D α κ A H locs ls hF hP hD hS hl
  exact lv_icmp_eq hF.1 hF.2.1 hd ht (fun z => kt z p l e s m args below meth c D α κ A H locs ls hF hP hD hS hl) (fun z => kf z p l e s m args below meth c D α κ A H locs ls hF hP hD hS hl)
theorem zk_if_ne {S : zkS} {d : Nat} {M : zkY} {Z : zkZ} {pc : Nat} {lv : List (Option Value)} {st : List Value} {mem : zkM} {x : Int32} {off : Int} (tgt : Nat) (hd : decode M.2.1 pc = .ok (.ifCond .ne off, 3)) (ht : (pc : Int) + off = (tgt : Int)) (kt : ¬ x = 0 → zk_J S d M Z tgt lv st mem) (kf : x = 0 → zk_J S d M Z (pc + 3) lv st mem) : zk_J S d M Z pc lv (.int x :: st) mem := by
  intro p l e s m args below meth c D α κ A H locs ls hF hP hD hS hl
  exact lv_if_ne hF.1 hF.2.1 hd ht (fun z => kt z p l e s m args below meth c D α κ A H locs ls hF hP hD hS hl) (fun z => kf z p l e s m args below meth c D α κ A H locs ls hF hP hD hS hl)
theorem zk_icmp_ne {S : zkS} {d : Nat} {M : zkY} {Z : zkZ} {pc : Nat} {lv : List (Option Value)} {st : List Value} {mem : zkM} {x y : Int32} {off : Int} (tgt : Nat) (hd : decode M.2.1 pc = .ok (.if_icmp .ne off, 3)) (ht : (pc : Int) + off = (tgt : Int)) (kt : ¬ x = y → zk_J S d M Z tgt lv st mem) (kf : x = y → zk_J S d M Z (pc + 3) lv st mem) : zk_J S d M Z pc lv (.int y :: .int x :: st) mem := by
  intro p l e s m args below meth c D α κ A H locs ls hF hP hD hS hl
  exact lv_icmp_ne hF.1 hF.2.1 hd ht (fun z => kt z p l e s m args below meth c D α κ A H locs ls hF hP hD hS hl) (fun z => kf z p l e s m args below meth c D α κ A H locs ls hF hP hD hS hl)
theorem zk_if_lt {S : zkS} {d : Nat} {M : zkY} {Z : zkZ} {pc : Nat} {lv : List (Option Value)} {st : List Value} {mem : zkM} {x : Int32} {off : Int} (tgt : Nat) (hd : decode M.2.1 pc = .ok (.ifCond .lt off, 3)) (ht : (pc : Int) + off = (tgt : Int)) (kt : x < 0 → zk_J S d M Z tgt lv st mem) (kf : ¬ x < 0 → zk_J S d M Z (pc + 3) lv st mem) : zk_J S d M Z pc lv (.int x :: st) mem := by
  intro p l e s m args below meth c D α κ A H locs ls hF hP hD hS hl
  exact lv_if_lt hF.1 hF.2.1 hd ht (fun z => kt z p l e s m args below meth c D α κ A H locs ls hF hP hD hS hl) (fun z => kf z p l e s m args below meth c D α κ A H locs ls hF hP hD hS hl)
theorem zk_icmp_lt {S : zkS} {d : Nat} {M : zkY} {Z : zkZ} {pc : Nat} {lv : List (Option Value)} {st : List Value} {mem : zkM} {x y : Int32} {off : Int} (tgt : Nat) (hd : decode M.2.1 pc = .ok (.if_icmp .lt off, 3)) (ht : (pc : Int) + off = (tgt : Int)) (kt : x < y → zk_J S d M Z tgt lv st mem) (kf : ¬ x < y → zk_J S d M Z (pc + 3) lv st mem) : zk_J S d M Z pc lv (.int y :: .int x :: st) mem := by
  intro p l e s m args below meth c D α κ A H locs ls hF hP hD hS hl
  exact lv_icmp_lt hF.1 hF.2.1 hd ht (fun z => kt z p l e s m args below meth c D α κ A H locs ls hF hP hD hS hl) (fun z => kf z p l e s m args below meth c D α κ A H locs ls hF hP hD hS hl)
theorem zk_if_ge {S : zkS} {d : Nat} {M : zkY} {Z : zkZ} {pc : Nat} {lv : List (Option Value)} {st : List Value} {mem : zkM} {x : Int32} {off : Int} (tgt : Nat) (hd : decode M.2.1 pc = .ok (.ifCond .ge off, 3)) (ht : (pc : Int) + off = (tgt : Int)) (kt : 0 ≤ x → zk_J S d M Z tgt lv st mem) (kf : ¬ 0 ≤ x → zk_J S d M Z (pc + 3) lv st mem) : zk_J S d M Z pc lv (.int x :: st) mem := by
  intro p l e s m args below meth c D α κ A H locs ls hF hP hD hS hl
  exact lv_if_ge hF.1 hF.2.1 hd ht (fun z => kt z p l e s m args below meth c D α κ A H locs ls hF hP hD hS hl) (fun z => kf z p l e s m args below meth c D α κ A H locs ls hF hP hD hS hl)
theorem zk_icmp_ge {S : zkS} {d : Nat} {M : zkY} {Z : zkZ} {pc : Nat} {lv : List (Option Value)} {st : List Value} {mem : zkM} {x y : Int32} {off : Int} (tgt : Nat) (hd : decode M.2.1 pc = .ok (.if_icmp .ge off, 3)) (ht : (pc : Int) + off = (tgt : Int)) (kt : y ≤ x → zk_J S d M Z tgt lv st mem) (kf : ¬ y ≤ x → zk_J S d M Z (pc + 3) lv st mem) : zk_J S d M Z pc lv (.int y :: .int x :: st) mem := by
  intro p l e s m args below meth c D α κ A H locs ls hF hP hD hS hl
  exact lv_icmp_ge hF.1 hF.2.1 hd ht (fun z => kt z p l e s m args below meth c D α κ A H locs ls hF hP hD hS hl) (fun z => kf z p l e s m args below meth c D α κ A H locs ls hF hP hD hS hl)
theorem zk_if_gt {S : zkS} {d : Nat} {M : zkY} {Z : zkZ} {pc : Nat} {lv : List (Option Value)} {st : List Value} {mem : zkM} {x : Int32} {off : Int} (tgt : Nat) (hd : decode M.2.1 pc = .ok (.ifCond .gt off, 3)) (ht : (pc : Int) + off = (tgt : Int)) (kt : 0 < x → zk_J S d M Z tgt lv st mem) (kf : ¬ 0 < x → zk_J S d M Z (pc + 3) lv st mem) : zk_J S d M Z pc lv (.int x :: st) mem := by
  intro p l e s m args below meth c D α κ A H locs ls hF hP hD hS hl
  exact lv_if_gt hF.1 hF.2.1 hd ht (fun z => kt z p l e s m args below meth c D α κ A H locs ls hF hP hD hS hl) (fun z => kf z p l e s m args below meth c D α κ A H locs ls hF hP hD hS hl)
theorem zk_icmp_gt {S : zkS} {d : Nat} {M : zkY} {Z : zkZ} {pc : Nat} {lv : List (Option Value)} {st : List Value} {mem : zkM} {x y : Int32} {off : Int} (tgt : Nat) (hd : decode M.2.1 pc = .ok (.if_icmp .gt off, 3)) (ht : (pc : Int) + off = (tgt : Int)) (kt : y < x → zk_J S d M Z tgt lv st mem) (kf : ¬ y < x → zk_J S d M Z (pc + 3) lv st mem) : zk_J S d M Z pc lv (.int y :: .int x :: st) mem := by
  intro p l e s m args below meth c D α κ A H locs ls hF hP hD hS hl
  exact lv_icmp_gt hF.1 hF.2.1 hd ht (fun z => kt z p l e s m args below meth c D α κ A H locs ls hF hP hD hS hl) (fun z => kf z p l e s m args below meth c D α κ A H locs ls hF hP hD hS hl)
theorem zk_if_le {S : zkS} {d : Nat} {M : zkY} {Z : zkZ} {pc : Nat} {lv : List (Option Value)} {st : List Value} {mem : zkM} {x : Int32} {off : Int} (tgt : Nat) (hd : decode M.2.1 pc = .ok (.ifCond .le off, 3)) (ht : (pc : Int) + off = (tgt : Int)) (kt : x ≤ 0 → zk_J S d M Z tgt lv st mem) (kf : ¬ x ≤ 0 → zk_J S d M Z (pc + 3) lv st mem) : zk_J S d M Z pc lv (.int x :: st) mem := by
  intro p l e s m args below meth c D α κ A H locs ls hF hP hD hS hl
  exact lv_if_le hF.1 hF.2.1 hd ht (fun z => kt z p l e s m args below meth c D α κ A H locs ls hF hP hD hS hl) (fun z => kf z p l e s m args below meth c D α κ A H locs ls hF hP hD hS hl)
theorem zk_icmp_le {S : zkS} {d : Nat} {M : zkY} {Z : zkZ} {pc : Nat} {lv : List (Option Value)} {st : List Value} {mem : zkM} {x y : Int32} {off : Int} (tgt : Nat) (hd : decode M.2.1 pc = .ok (.if_icmp .le off, 3)) (ht : (pc : Int) + off = (tgt : Int)) (kt : x ≤ y → zk_J S d M Z tgt lv st mem) (kf : ¬ x ≤ y → zk_J S d M Z (pc + 3) lv st mem) : zk_J S d M Z pc lv (.int y :: .int x :: st) mem := by
  intro p l e s m args below meth c D α κ A H locs ls hF hP hD hS hl
  exact lv_icmp_le hF.1 hF.2.1 hd ht (fun z => kt z p l e s m args below meth c D α κ A H locs ls hF hP hD hS hl) (fun z => kf z p l e s m args below meth c D α κ A H locs ls hF hP hD hS hl)
theorem zk_goto {S : zkS} {d : Nat} {M : zkY} {Z : zkZ} {pc : Nat} {lv : List (Option Value)} {st : List Value} {mem : zkM} {off : Int} (tgt : Nat) (hd : decode M.2.1 pc = .ok (.goto off, 3)) (ht : (pc : Int) + off = (tgt : Int)) (k : zk_J S d M Z tgt lv st mem) : zk_J S d M Z pc lv st mem := by
  intro p l e s m args below meth c D α κ A H locs ls hF hP hD hS hl
  exact lv_goto hF.1 hF.2.1 hd ht (k p l e s m args below meth c D α κ A H locs ls hF hP hD hS hl)
theorem zk_tin {S : zkS} {d : Nat} {M : zkY} {Z : zkZ} {pc : Nat} {lv : List (Option Value)} {st : List Value} {mem : zkM} {dflt lo hi : Int} {offs : Array Int} {len : Nat} {x : Int32} {off : Int} (tgt : Nat) (hd : decode M.2.1 pc = .ok (.tableswitch dflt lo hi offs, len)) {v : Int32} (hx : x = v) (h1 : ¬ v.toInt < lo) (h2 : ¬ hi < v.toInt) (ho : offs[(v.toInt - lo).toNat]? = some off) (ht : (pc : Int) + off = (tgt : Int)) (k : zk_J S d M Z tgt lv st mem) : zk_J S d M Z pc lv (.int x :: st) mem := by
  intro p l e s m args below meth c D α κ A H locs ls hF hP hD hS hl
  subst hx
  exact lv_tableIn hF.1 hF.2.1 hd h1 h2 ho ht (k p l e s m args below meth c D α κ A H locs ls hF hP hD hS hl)
theorem zk_tout {S : zkS} {d : Nat} {M : zkY} {Z : zkZ} {pc : Nat} {lv : List (Option Value)} {st : List Value} {mem : zkM} {dflt lo hi : Int} {offs : Array Int} {len : Nat} {x : Int32} (tgt : Nat) (hd : decode M.2.1 pc = .ok (.tableswitch dflt lo hi offs, len)) (h : x.toInt < lo ∨ hi < x.toInt) (ht : (pc : Int) + dflt = (tgt : Int)) (k : zk_J S d M Z tgt lv st mem) : zk_J S d M Z pc lv (.int x :: st) mem := by
  intro p l e s m args below meth c D α κ A H locs ls hF hP hD hS hl
  exact lv_tableOut hF.1 hF.2.1 hd h ht (k p l e s m args below meth c D α κ A H locs ls hF hP hD hS hl)
theorem zk_lsw {S : zkS} {d : Nat} {M : zkY} {Z : zkZ} {pc : Nat} {lv : List (Option Value)} {st : List Value} {mem : zkM} {dflt : Int} {ps : Array (Int × Int)} {len : Nat} {x : Int32} {off : Int} (tgt : Nat) (hd : decode M.2.1 pc = .ok (.lookupswitch dflt ps, len)) (hp : (ps.toList.zip (ps.toList.drop 1)).all (fun (a, next) => a.1 < next.1) = true) (ho : Op.lookupswitch.offset ps.toList dflt x.toInt = off) (ht : (pc : Int) + off = (tgt : Int)) (k : zk_J S d M Z tgt lv st mem) : zk_J S d M Z pc lv (.int x :: st) mem := by
  intro p l e s m args below meth c D α κ A H locs ls hF hP hD hS hl
  exact lv_lookup hF.1 hF.2.1 hd hp ho ht (k p l e s m args below meth c D α κ A H locs ls hF hP hD hS hl)
end
section
def zk_ok (ci : Nat) (C : String) (T : u_T) (N : Nat) : Prop := vwCl[ci]? = some (C, T, N) ∧ zk_nf ci = N ∧ (∀ w ∈ u_ws C T N, w ∈ zk_tb) ∧ (∀ k, k < N → parseFieldDescriptor (T k).2.2.1 = some (zk_ty ci k)) ∧ (∀ a, a < N → ∀ b, b < N → a ≠ b → (T a).2.1 ≠ (T b).2.1)
theorem zk_ok0 : zk_ok 0 RX0 TX0 2 := ⟨rfl, rfl, fun w h => zk_in (inX0 w h) ((by decide +kernel : ∀ w ∈ u_ws RX0 TX0 2, goodWord w = true) w h), tyX0_ok, nmX0⟩
theorem zk_ok1 : zk_ok 1 RX1 TX1 2 := ⟨rfl, rfl, fun w h => zk_in (inX1 w h) ((by decide +kernel : ∀ w ∈ u_ws RX1 TX1 2, goodWord w = true) w h), tyX1_ok, nmX1⟩
theorem zk_ok2 : zk_ok 2 RX2 TX2 2 := ⟨rfl, rfl, fun w h => zk_in (inX2 w h) ((by decide +kernel : ∀ w ∈ u_ws RX2 TX2 2, goodWord w = true) w h), tyX2_ok, nmX2⟩
theorem zk_ok3 : zk_ok 3 RX3 TX3 1 := ⟨rfl, rfl, fun w h => zk_in (inX3 w h) ((by decide +kernel : ∀ w ∈ u_ws RX3 TX3 1, goodWord w = true) w h), tyX3_ok, nmX3⟩
theorem zk_ok4 : zk_ok 4 RX4 TX4 1 := ⟨rfl, rfl, fun w h => zk_in (inX4 w h) ((by decide +kernel : ∀ w ∈ u_ws RX4 TX4 1, goodWord w = true) w h), tyX4_ok, nmX4⟩
theorem zk_ok5 : zk_ok 5 RX5 TX5 3 := ⟨rfl, rfl, fun w h => zk_in (inX5 w h) ((by decide +kernel : ∀ w ∈ u_ws RX5 TX5 3, goodWord w = true) w h), tyX5_ok, nmX5⟩
theorem zk_ok6 : zk_ok 6 RX6 TX6 6 := ⟨rfl, rfl, fun w h => zk_in (inX6 w h) ((by decide +kernel : ∀ w ∈ u_ws RX6 TX6 6, goodWord w = true) w h), tyX6_ok, nmX6⟩
theorem zk_ok7 : zk_ok 7 RX7 TX7 6 := ⟨rfl, rfl, fun w h => zk_in (inX7 w h) ((by decide +kernel : ∀ w ∈ u_ws RX7 TX7 6, goodWord w = true) w h), tyX7_ok, nmX7⟩
theorem zk_ok8 : zk_ok 8 RX8 TX8 1 := ⟨rfl, rfl, fun w h => zk_in (inX8 w h) ((by decide +kernel : ∀ w ∈ u_ws RX8 TX8 1, goodWord w = true) w h), tyX8_ok, nmX8⟩
theorem zk_ok9 : zk_ok 9 RX9 TX9 7 := ⟨rfl, rfl, fun w h => zk_in (inX9 w h) ((by decide +kernel : ∀ w ∈ u_ws RX9 TX9 7, goodWord w = true) w h), tyX9_ok, nmX9⟩
theorem zk_ok10 : zk_ok 10 RX10 TX10 11 := ⟨rfl, rfl, fun w h => zk_in (inX10 w h) ((by decide +kernel : ∀ w ∈ u_ws RX10 TX10 11, goodWord w = true) w h), tyX10_ok, nmX10⟩
theorem zk_ok11 : zk_ok 11 RX11 TX11 13 := ⟨rfl, rfl, fun w h => zk_in (inX11 w h) ((by decide +kernel : ∀ w ∈ u_ws RX11 TX11 13, goodWord w = true) w h), tyX11_ok, nmX11⟩
theorem zk_ok12 : zk_ok 12 RX12 TX12 34 := ⟨rfl, rfl, fun w h => zk_in (inX12 w h) ((by decide +kernel : ∀ w ∈ u_ws RX12 TX12 34, goodWord w = true) w h), tyX12_ok, nmX12⟩
/-- a field's link: the pool's entry idx of the class own is field f of kind ci -/
def zk_fl (own : String) (idx ci f : Nat) : Prop := ∃ C T N, zk_ok ci C T N ∧ f < N ∧ Cond.fieldLink own idx (T f).1 (T f).2.1 (T f).2.2.1 ∈ zk_tb
def zk_fp (own : String) (idx ci f : Nat) : Prop := ∃ C T N, zk_ok ci C T N ∧ f < N ∧ Cond.fieldLink own idx (T f).1 (T f).2.1 (T f).2.2.1 ∈ zk_tb ∧ (T f).2.2.2 = false
theorem zk_fs {n f : Nat} {g : Nat → Value} (h : f < n) : ((List.range n).map g)[f]? = some (g f) := by
  rw [List.getElem?_map, List.getElem?_range h]
  rfl
theorem zk_fs_set {n f : Nat} {g g' : Nat → Value} {v : Value} (hv : g' f = v) (ho : ∀ j, j ≠ f → g' j = g j) : ((List.range n).map g).set f v = (List.range n).map g' := by
  subst hv
  apply List.ext_getElem?
  intro j
  rw [List.getElem?_set]
  by_cases h : f = j
  · subst h
    by_cases hl : f < n
    · simp [hl]
    · simp [hl]
  · rw [if_neg h, List.getElem?_map, List.getElem?_map]
    by_cases hl : j < n
    · rw [List.getElem?_range hl]
      simp [ho j (fun q => h q.symm)]
    · rw [List.getElem?_eq_none (by simpa using hl)]
      rfl
theorem zk_put_obj {S : zkS} {α : Nat → Nat} {κ : Nat → ClassId} {mem mem' : zkM} {k ci f : Nat} {v : Value} (hly : S.2.1 k = some (.inr ci)) (h1 : ∀ j, j ≠ k → mem'.1 j = mem.1 j) (h2 : ∀ j, j ≠ k → mem'.2 j = mem.2 j) (h3 : ∀ j, j ≠ f → mem'.1 k j = mem.1 k j) (h4 : ∀ j, j ≠ f → mem'.2 k j = mem.2 k j) (hv : zk_fv S α mem' k ci f = v) :
    (zk_w S α κ mem).set k (α k, .inr (ci, ((List.range (zk_nf ci)).map (zk_fv S α mem k ci)).set f v)) = zk_w S α κ mem' := by
  refine zk_w_set ?_ (fun j hj => zk_cell_congr (h1 j hj) (h2 j hj))
  rw [zk_cell_obj hly, zk_fs_set hv]
  intro j hj
  unfold zk_fv
  rw [h3 j hj, h4 j hj]
theorem zk_put_arr {S : zkS} {α : Nat → Nat} {κ : Nat → ClassId} {mem mem' : zkM} {k n q : Nat} {x : va_E} (hly : S.2.1 k = some (.inl (n, q))) (h1 : ∀ j, j ≠ k → mem'.1 j = mem.1 j) (h2 : ∀ j, j ≠ k → mem'.2 j = mem.2 j) (hx : zk_arr S α κ mem' k n q = x) : (zk_w S α κ mem).set k (α k, x) = zk_w S α κ mem' :=
  zk_w_set ((zk_cell_arr hly).trans hx) (fun j hj => zk_cell_congr (h1 j hj) (h2 j hj))
theorem zk_F.ts {M : zkY} {p : Program} {s : State} {m : MethodId} {args : Array Value} {meth : Method} {c : Code} {D : va_G} {α : Nat → Nat} {κ : Nat → ClassId} {A : Nat → Prop} (hF : zk_F M p s m args meth c D α κ A) {w : Cond} (h : w ∈ zk_tb) : w.before args s = true := hF.2.2.2.2.2.2.1 w (List.mem_cons_of_mem _ h)

theorem zk_getI {S : zkS} {d : Nat} {M : zkY} {Z : zkZ} {pc : Nat} {lv : List (Option Value)} {st : List Value} {mem : zkM} (k ci f : Nat) {idx : Nat} (hd : decode M.2.1 pc = .ok (.getfield idx, 3)) (hf : zk_fl M.1.cls idx ci f) (hk : k < S.1) (hly : S.2.1 k = some (.inr ci)) (ht : zk_ty ci f = .int) (kk : zk_J S d M Z (pc + 3) lv (.int (mem.1 k f) :: st) mem) : zk_J S d M Z pc lv (.ref k :: st) mem := by
  intro p l e s m args below meth c D α κ A H locs ls hF hP hD hS hl
  obtain ⟨C, T, N, ⟨o1, o2, o3, o4, o5⟩, hfN, hlk⟩ := hf
  exact va_get hF.1 hF.2.1 hF.2.2.2.2.2.2.1 (fun w h => List.mem_cons_of_mem _ (o3 w h)) hF.2.2.2.2.2.1 hF.2.2.2.2.2.2.2.1 hP k (by rw [zk_w_get hk, zk_cell_obj hly]) o1 f hfN (hF.ts hlk) (fun _ h => h) (by rw [zk_fs (by rw [o2]; exact hfN)]; unfold zk_fv; rw [ht]; rfl) hd (kk p l e s m args below meth c D α κ A H locs ls hF hP hD hS hl)
theorem zk_getZ {S : zkS} {d : Nat} {M : zkY} {Z : zkZ} {pc : Nat} {lv : List (Option Value)} {st : List Value} {mem : zkM} (k ci f : Nat) {idx : Nat} (hd : decode M.2.1 pc = .ok (.getfield idx, 3)) (hf : zk_fl M.1.cls idx ci f) (hk : k < S.1) (hly : S.2.1 k = some (.inr ci)) (ht : zk_ty ci f = .boolean) (kk : zk_J S d M Z (pc + 3) lv (.int (mem.1 k f) :: st) mem) : zk_J S d M Z pc lv (.ref k :: st) mem := by
  intro p l e s m args below meth c D α κ A H locs ls hF hP hD hS hl
  obtain ⟨C, T, N, ⟨o1, o2, o3, o4, o5⟩, hfN, hlk⟩ := hf
  exact va_get hF.1 hF.2.1 hF.2.2.2.2.2.2.1 (fun w h => List.mem_cons_of_mem _ (o3 w h)) hF.2.2.2.2.2.1 hF.2.2.2.2.2.2.2.1 hP k (by rw [zk_w_get hk, zk_cell_obj hly]) o1 f hfN (hF.ts hlk) (fun _ h => h) (by rw [zk_fs (by rw [o2]; exact hfN)]; unfold zk_fv; rw [ht]; rfl) hd (kk p l e s m args below meth c D α κ A H locs ls hF hP hD hS hl)
theorem zk_getL {S : zkS} {d : Nat} {M : zkY} {Z : zkZ} {pc : Nat} {lv : List (Option Value)} {st : List Value} {mem : zkM} (k ci f : Nat) {idx : Nat} (hd : decode M.2.1 pc = .ok (.getfield idx, 3)) (hf : zk_fl M.1.cls idx ci f) (hk : k < S.1) (hly : S.2.1 k = some (.inr ci)) (ht : zk_ty ci f = .long) (kk : zk_J S d M Z (pc + 3) lv (.long (mem.2 k f) :: st) mem) : zk_J S d M Z pc lv (.ref k :: st) mem := by
  intro p l e s m args below meth c D α κ A H locs ls hF hP hD hS hl
  obtain ⟨C, T, N, ⟨o1, o2, o3, o4, o5⟩, hfN, hlk⟩ := hf
  exact va_get hF.1 hF.2.1 hF.2.2.2.2.2.2.1 (fun w h => List.mem_cons_of_mem _ (o3 w h)) hF.2.2.2.2.2.1 hF.2.2.2.2.2.2.2.1 hP k (by rw [zk_w_get hk, zk_cell_obj hly]) o1 f hfN (hF.ts hlk) (fun _ h => h) (by rw [zk_fs (by rw [o2]; exact hfN)]; unfold zk_fv; rw [ht]; rfl) hd (kk p l e s m args below meth c D α κ A H locs ls hF hP hD hS hl)
theorem zk_getR {S : zkS} {d : Nat} {M : zkY} {Z : zkZ} {pc : Nat} {lv : List (Option Value)} {st : List Value} {mem : zkM} (k ci f : Nat) {idx : Nat} (hd : decode M.2.1 pc = .ok (.getfield idx, 3)) (hf : zk_fl M.1.cls idx ci f) (hk : k < S.1) (hly : S.2.1 k = some (.inr ci)) (ht : (match zk_ty ci f with | .int => false | .boolean => false | .long => false | _ => true) = true) (kk : zk_J S d M Z (pc + 3) lv (.ref (S.2.2 k f) :: st) mem) : zk_J S d M Z pc lv (.ref k :: st) mem := by
  intro p l e s m args below meth c D α κ A H locs ls hF hP hD hS hl
  obtain ⟨C, T, N, ⟨o1, o2, o3, o4, o5⟩, hfN, hlk⟩ := hf
  exact va_get hF.1 hF.2.1 hF.2.2.2.2.2.2.1 (fun w h => List.mem_cons_of_mem _ (o3 w h)) hF.2.2.2.2.2.1 hF.2.2.2.2.2.2.2.1 hP k (by rw [zk_w_get hk, zk_cell_obj hly]) o1 f hfN (hF.ts hlk) (fun _ h => h) (v := .ref (α (S.2.2 k f))) (by rw [zk_fs (by rw [o2]; exact hfN)]; unfold zk_fv; split <;> simp_all) hd (kk p l e s m args below meth c D α κ A H locs ls hF hP hD hS hl)
theorem zk_putI {S : zkS} {d : Nat} {M : zkY} {Z : zkZ} {pc : Nat} {lv : List (Option Value)} {st : List Value} {mem : zkM} (k ci f : Nat) {idx : Nat} {x : Int32} (hd : decode M.2.1 pc = .ok (.putfield idx, 3)) (hf : zk_fp M.1.cls idx ci f) (hk : k < S.1) (hly : S.2.1 k = some (.inr ci)) (ht : zk_ty ci f = .int) (kk : zk_J S d M Z (pc + 3) lv st (zk_u mem k f x)) : zk_J S d M Z pc lv (.int x :: .ref k :: st) mem := by
  intro p l e s m args below meth c D α κ A H locs ls hF hP hD hS hl
  obtain ⟨C, T, N, ⟨o1, o2, o3, o4, o5⟩, hfN, hlk, hfin⟩ := hf
  have ho := o4 f hfN
  rw [ht] at ho
  refine va_put hF.1 hF.2.1 hF.2.2.2.2.2.2.1 (fun w h => List.mem_cons_of_mem _ (o3 w h)) (zk_ty ci) o4 o5 hF.2.2.2.2.2.1 hF.2.2.2.2.2.2.2.1 hP hD hS k (by rw [zk_w_get hk, zk_cell_obj hly]) o1 f hfN (hF.ts hlk) (fun _ h => h) hfin (v := .int x) ho rfl rfl (by rw [List.length_map, List.length_range, o2]; exact hfN) hd (fun H1 locs1 hP1 hD1 hS1 => ?_)
  have he := zk_put_obj (S := S) (α := α) (κ := κ) (mem := mem) (mem' := zk_u mem k f x) (f := f) (v := .int x) hly (fun j hj => zk_u_off hj) (fun j hj => rfl) (fun j hj => by simp [zk_u, hj]) (fun j hj => by simp [zk_u, hj]) (by unfold zk_fv; rw [ht]; simp [zk_u])
  rw [he] at hP1 hD1
  exact kk p l e s m args below meth c D α κ A H1 locs1 ls hF hP1 hD1 hS1 hl
theorem zk_putZ {S : zkS} {d : Nat} {M : zkY} {Z : zkZ} {pc : Nat} {lv : List (Option Value)} {st : List Value} {mem : zkM} (k ci f : Nat) {idx : Nat} {x : Int32} (hd : decode M.2.1 pc = .ok (.putfield idx, 3)) (hf : zk_fp M.1.cls idx ci f) (hk : k < S.1) (hly : S.2.1 k = some (.inr ci)) (ht : zk_ty ci f = .boolean) (hn : narrow .boolean (.int x) = .int x) (hb : fits .boolean (.int x) = true) (kk : zk_J S d M Z (pc + 3) lv st (zk_u mem k f x)) : zk_J S d M Z pc lv (.int x :: .ref k :: st) mem := by
  intro p l e s m args below meth c D α κ A H locs ls hF hP hD hS hl
  obtain ⟨C, T, N, ⟨o1, o2, o3, o4, o5⟩, hfN, hlk, hfin⟩ := hf
  have ho := o4 f hfN
  rw [ht] at ho
  refine va_put hF.1 hF.2.1 hF.2.2.2.2.2.2.1 (fun w h => List.mem_cons_of_mem _ (o3 w h)) (zk_ty ci) o4 o5 hF.2.2.2.2.2.1 hF.2.2.2.2.2.2.2.1 hP hD hS k (by rw [zk_w_get hk, zk_cell_obj hly]) o1 f hfN (hF.ts hlk) (fun _ h => h) hfin (v := .int x) ho hn hb (by rw [List.length_map, List.length_range, o2]; exact hfN) hd (fun H1 locs1 hP1 hD1 hS1 => ?_)
  have he := zk_put_obj (S := S) (α := α) (κ := κ) (mem := mem) (mem' := zk_u mem k f x) (f := f) (v := .int x) hly (fun j hj => zk_u_off hj) (fun j hj => rfl) (fun j hj => by simp [zk_u, hj]) (fun j hj => by simp [zk_u, hj]) (by unfold zk_fv; rw [ht]; simp [zk_u])
  rw [he] at hP1 hD1
  exact kk p l e s m args below meth c D α κ A H1 locs1 ls hF hP1 hD1 hS1 hl
theorem zk_putL {S : zkS} {d : Nat} {M : zkY} {Z : zkZ} {pc : Nat} {lv : List (Option Value)} {st : List Value} {mem : zkM} (k ci f : Nat) {idx : Nat} {x : Int64} (hd : decode M.2.1 pc = .ok (.putfield idx, 3)) (hf : zk_fp M.1.cls idx ci f) (hk : k < S.1) (hly : S.2.1 k = some (.inr ci)) (ht : zk_ty ci f = .long) (kk : zk_J S d M Z (pc + 3) lv st (zk_ul mem k f x)) : zk_J S d M Z pc lv (.long x :: .ref k :: st) mem := by
  intro p l e s m args below meth c D α κ A H locs ls hF hP hD hS hl
  obtain ⟨C, T, N, ⟨o1, o2, o3, o4, o5⟩, hfN, hlk, hfin⟩ := hf
  have ho := o4 f hfN
  rw [ht] at ho
  refine va_put hF.1 hF.2.1 hF.2.2.2.2.2.2.1 (fun w h => List.mem_cons_of_mem _ (o3 w h)) (zk_ty ci) o4 o5 hF.2.2.2.2.2.1 hF.2.2.2.2.2.2.2.1 hP hD hS k (by rw [zk_w_get hk, zk_cell_obj hly]) o1 f hfN (hF.ts hlk) (fun _ h => h) hfin (v := .long x) ho rfl rfl (by rw [List.length_map, List.length_range, o2]; exact hfN) hd (fun H1 locs1 hP1 hD1 hS1 => ?_)
  have he := zk_put_obj (S := S) (α := α) (κ := κ) (mem := mem) (mem' := zk_ul mem k f x) (f := f) (v := .long x) hly (fun j hj => rfl) (fun j hj => zk_ul_off hj) (fun j hj => by simp [zk_ul, hj]) (fun j hj => by simp [zk_ul, hj]) (by unfold zk_fv; rw [ht]; simp [zk_ul])
  rw [he] at hP1 hD1
  exact kk p l e s m args below meth c D α κ A H1 locs1 ls hF hP1 hD1 hS1 hl
/-! arrays -/
theorem zk_iaload {S : zkS} {d : Nat} {M : zkY} {Z : zkZ} {pc : Nat} {lv : List (Option Value)} {st : List Value} {mem : zkM} (k n : Nat) {i : Int32} (hd : decode M.2.1 pc = .ok (.iaload, 1)) (hk : k < S.1) (hly : S.2.1 k = some (.inl (n, 0))) (hin : vp_in i n) (kk : zk_J S d M Z (pc + 1) lv (.int (mem.1 k i.toNatClampNeg) :: st) mem) : zk_J S d M Z pc lv (.int i :: .ref k :: st) mem := by
  intro p l e s m args below meth c D α κ A H locs ls hF hP hD hS hl
  exact va_iald hF.1 hF.2.1 hF.2.2.2.2.2.2.2.1 hP k 0 (by rw [zk_w_get hk, zk_cell_arr hly]; rfl) rfl hin hd (kk p l e s m args below meth c D α κ A H locs ls hF hP hD hS hl)
theorem zk_zaload {S : zkS} {d : Nat} {M : zkY} {Z : zkZ} {pc : Nat} {lv : List (Option Value)} {st : List Value} {mem : zkM} (k n : Nat) {i : Int32} (hd : decode M.2.1 pc = .ok (.baload, 1)) (hk : k < S.1) (hly : S.2.1 k = some (.inl (n, 1))) (hin : vp_in i n) (kk : zk_J S d M Z (pc + 1) lv (.int (mem.1 k i.toNatClampNeg) :: st) mem) : zk_J S d M Z pc lv (.int i :: .ref k :: st) mem := by
  intro p l e s m args below meth c D α κ A H locs ls hF hP hD hS hl
  exact va_zald hF.1 hF.2.1 hF.2.2.2.2.2.2.2.1 hP k 1 (by rw [zk_w_get hk, zk_cell_arr hly]; rfl) rfl hin hd (kk p l e s m args below meth c D α κ A H locs ls hF hP hD hS hl)
theorem zk_laload {S : zkS} {d : Nat} {M : zkY} {Z : zkZ} {pc : Nat} {lv : List (Option Value)} {st : List Value} {mem : zkM} (k n : Nat) {i : Int32} (hd : decode M.2.1 pc = .ok (.laload, 1)) (hk : k < S.1) (hly : S.2.1 k = some (.inl (n, 2))) (hin : vp_in i n) (kk : zk_J S d M Z (pc + 1) lv (.long (mem.2 k i.toNatClampNeg) :: st) mem) : zk_J S d M Z pc lv (.int i :: .ref k :: st) mem := by
  intro p l e s m args below meth c D α κ A H locs ls hF hP hD hS hl
  exact va_lald hF.1 hF.2.1 hF.2.2.2.2.2.2.2.1 hP k 2 (by rw [zk_w_get hk, zk_cell_arr hly]; rfl) rfl hin hd (kk p l e s m args below meth c D α κ A H locs ls hF hP hD hS hl)
theorem zk_aaload {S : zkS} {d : Nat} {M : zkY} {Z : zkZ} {pc : Nat} {lv : List (Option Value)} {st : List Value} {mem : zkM} (k n : Nat) {i : Int32} (hd : decode M.2.1 pc = .ok (.aaload, 1)) (hk : k < S.1) (hly : S.2.1 k = some (.inl (n, 3))) (hin : vp_in i n) (kk : zk_J S d M Z (pc + 1) lv (.ref (S.2.2 k i.toNatClampNeg) :: st) mem) : zk_J S d M Z pc lv (.int i :: .ref k :: st) mem := by
  intro p l e s m args below meth c D α κ A H locs ls hF hP hD hS hl
  have hlt : i.toNatClampNeg < n := Nat.not_le.mp fun q => hin (Or.inr q)
  have hg : (zk_w S α κ mem)[k]? = some (α k, .inl (κ 3, n, .inr (.inr (.inr (.inr (fun i => if i < n then some (α (S.2.2 k i)) else none)))))) := by rw [zk_w_get hk, zk_cell_arr hly]; rfl
  exact W.aald (v := .ref (α (S.2.2 k i.toNatClampNeg))) (ty := .array .int) hF.1 hF.2.1 (hP k _ hg) ((hF.2.2.2.2.2.2.2.1.2 3 _ rfl).1 n (fun j => va_rf (if j < n then some (α (S.2.2 k j)) else none))) rfl (fun q => by cases q) (by show ¬ (i < 0 ∨ (arrV _ _ _).slots.size ≤ _); rw [arrV_size]; exact hin) (by show (arrV _ _ _).slots[_]? = _; rw [arrV_read _ _ hlt]; simp [hlt, va_rf]) rfl rfl hd (kk p l e s m args below meth c D α κ A H locs ls hF hP hD hS hl)
theorem zk_ialoadR {S : zkS} {d : Nat} {M : zkY} {Z : zkZ} {pc : Nat} {lv : List (Option Value)} {st : List Value} {mem : zkM} (j : Nat) {q : String × List Int32} {i : Int32} (hd : decode M.2.1 pc = .ok (.iaload, 1)) (hq : zk_stt[j]? = some q) (hin : vp_in i q.2.length) (kk : zk_J S d M Z (pc + 1) lv (.int (q.2.getD i.toNatClampNeg 0) :: st) mem) : zk_J S d M Z pc lv (.int i :: .ref (1000 + j) :: st) mem := by
  intro p l e s m args below meth c D α κ A H locs ls hF hP hD hS hl
  exact va_ti hF.1 hF.2.1 (hF.2.2.2.2.2.2.2.2.2 j q hq).2 hS hin rfl hd (kk p l e s m args below meth c D α κ A H locs ls hF hP hD hS hl)
theorem zk_alenR {S : zkS} {d : Nat} {M : zkY} {Z : zkZ} {pc : Nat} {lv : List (Option Value)} {st : List Value} {mem : zkM} (j : Nat) {q : String × List Int32} {v : Int32} (hd : decode M.2.1 pc = .ok (.arraylength, 1)) (hq : zk_stt[j]? = some q) (hv : Int32.ofNat q.2.length = v) (kk : zk_J S d M Z (pc + 1) lv (.int v :: st) mem) : zk_J S d M Z pc lv (.ref (1000 + j) :: st) mem := by
  intro p l e s m args below meth c D α κ A H locs ls hF hP hD hS hl
  exact va_tlen hF.1 hF.2.1 (hF.2.2.2.2.2.2.2.2.2 j q hq).2 hS hv hd (kk p l e s m args below meth c D α κ A H locs ls hF hP hD hS hl)
theorem zk_gets {S : zkS} {d : Nat} {M : zkY} {Z : zkZ} {pc : Nat} {lv : List (Option Value)} {st : List Value} {mem : zkM} (j : Nat) {q : String × List Int32} {idx : Nat} (hd : decode M.2.1 pc = .ok (.getstatic idx, 3)) (hq : zk_stt[j]? = some q) (hlk : Cond.fieldLink M.1.cls idx "TreePlanks$Script" q.1 "[I" ∈ zk_tb) (kk : zk_J S d M Z (pc + 3) lv (.ref (1000 + j) :: st) mem) : zk_J S d M Z pc lv st mem := by
  intro p l e s m args below meth c D α κ A H locs ls hF hP hD hS hl
  exact va_gets hF.1 hF.2.1 (hF.2.2.2.2.2.2.2.2.2 j q hq).1 hS hF.2.2.2.2.2.1 (hF.ts hlk) (fun _ h => h) hd (kk p l e s m args below meth c D α κ A H locs ls hF hP hD hS hl)
theorem zk_alen {S : zkS} {d : Nat} {M : zkY} {Z : zkZ} {pc : Nat} {lv : List (Option Value)} {st : List Value} {mem : zkM} (k n : Nat) {v : Int32} (hd : decode M.2.1 pc = .ok (.arraylength, 1)) (hk : k < S.1) (hly : S.2.1 k = some (.inl (n, 0))) (hv : Int32.ofNat n = v) (kk : zk_J S d M Z (pc + 1) lv (.int v :: st) mem) : zk_J S d M Z pc lv (.ref k :: st) mem := by
  intro p l e s m args below meth c D α κ A H locs ls hF hP hD hS hl
  exact va_alen hF.1 hF.2.1 hF.2.2.2.2.2.2.2.1 hP k 0 (x := (n, .inl (mem.1 k))) (by rw [zk_w_get hk, zk_cell_arr hly]; rfl) rfl hv hd (kk p l e s m args below meth c D α κ A H locs ls hF hP hD hS hl)
theorem zk_iastore {S : zkS} {d : Nat} {M : zkY} {Z : zkZ} {pc : Nat} {lv : List (Option Value)} {st : List Value} {mem : zkM} (k n : Nat) {i : Int32} {x : Int32} (hd : decode M.2.1 pc = .ok (.iastore, 1)) (hk : k < S.1) (hly : S.2.1 k = some (.inl (n, 0))) (hin : vp_in i n) (kk : zk_J S d M Z (pc + 1) lv st (zk_u mem k i.toNatClampNeg x)) : zk_J S d M Z pc lv (.int x :: .int i :: .ref k :: st) mem := by
  intro p l e s m args below meth c D α κ A H locs ls hF hP hD hS hl
  refine va_iast hF.1 hF.2.1 hF.2.2.2.2.2.2.2.1 hP hD hS k 0 (by rw [zk_w_get hk, zk_cell_arr hly]; rfl) rfl hin hd (fun H1 locs1 hP1 hD1 hS1 => ?_)
  have he := zk_put_arr (S := S) (α := α) (κ := κ) (mem := mem) (mem' := zk_u mem k i.toNatClampNeg x) hly (fun j hj => zk_u_off hj) (fun j hj => rfl) rfl
  unfold zk_arr at he
  simp only [zk_u_on] at he
  rw [he] at hP1 hD1
  exact kk p l e s m args below meth c D α κ A H1 locs1 ls hF hP1 hD1 hS1 hl
theorem zk_zastore {S : zkS} {d : Nat} {M : zkY} {Z : zkZ} {pc : Nat} {lv : List (Option Value)} {st : List Value} {mem : zkM} (k n : Nat) {i : Int32} {x : Int32} (hd : decode M.2.1 pc = .ok (.bastore, 1)) (hk : k < S.1) (hly : S.2.1 k = some (.inl (n, 1))) (hn : vp_nar .boolean x = x) (hin : vp_in i n) (kk : zk_J S d M Z (pc + 1) lv st (zk_u mem k i.toNatClampNeg x)) : zk_J S d M Z pc lv (.int x :: .int i :: .ref k :: st) mem := by
  intro p l e s m args below meth c D α κ A H locs ls hF hP hD hS hl
  refine va_zast hF.1 hF.2.1 hF.2.2.2.2.2.2.2.1 hP hD hS k 1 (by rw [zk_w_get hk, zk_cell_arr hly]; rfl) rfl hin hd (fun H1 locs1 hP1 hD1 hS1 => ?_)
  rw [hn] at hP1 hD1
  have he := zk_put_arr (S := S) (α := α) (κ := κ) (mem := mem) (mem' := zk_u mem k i.toNatClampNeg x) hly (fun j hj => zk_u_off hj) (fun j hj => rfl) rfl
  unfold zk_arr at he
  simp only [zk_u_on] at he
  rw [he] at hP1 hD1
  exact kk p l e s m args below meth c D α κ A H1 locs1 ls hF hP1 hD1 hS1 hl
theorem zk_lastore {S : zkS} {d : Nat} {M : zkY} {Z : zkZ} {pc : Nat} {lv : List (Option Value)} {st : List Value} {mem : zkM} (k n : Nat) {i : Int32} {x : Int64} (hd : decode M.2.1 pc = .ok (.lastore, 1)) (hk : k < S.1) (hly : S.2.1 k = some (.inl (n, 2))) (hin : vp_in i n) (kk : zk_J S d M Z (pc + 1) lv st (zk_ul mem k i.toNatClampNeg x)) : zk_J S d M Z pc lv (.long x :: .int i :: .ref k :: st) mem := by
  intro p l e s m args below meth c D α κ A H locs ls hF hP hD hS hl
  refine va_last hF.1 hF.2.1 hF.2.2.2.2.2.2.2.1 hP hD hS k 2 (by rw [zk_w_get hk, zk_cell_arr hly]; rfl) rfl hin hd (fun H1 locs1 hP1 hD1 hS1 => ?_)
  have he := zk_put_arr (S := S) (α := α) (κ := κ) (mem := mem) (mem' := zk_ul mem k i.toNatClampNeg x) hly (fun j hj => rfl) (fun j hj => zk_ul_off hj) rfl
  unfold zk_arr at he
  simp only [zk_ul_on] at he
  rw [he] at hP1 hD1
  exact kk p l e s m args below meth c D α κ A H1 locs1 ls hF hP1 hD1 hS1 hl
theorem zk_ldc {S : zkS} {d : Nat} {M : zkY} {Z : zkZ} {pc : Nat} {lv : List (Option Value)} {st : List Value} {mem : zkM} {idx : Nat} {v : Int32} (hd : decode M.2.1 pc = .ok (.ldc idx, 2)) (hc : Cond.constant M.1.cls idx v ∈ zk_tb) (kk : zk_J S d M Z (pc + 2) lv (.int v :: st) mem) : zk_J S d M Z pc lv st mem := by
  intro p l e s m args below meth c D α κ A H locs ls hF hP hD hS hl
  exact lv_ldc hF.1 hF.2.1 hF.2.2.2.2.2.1 (hF.ts hc) hd (kk p l e s m args below meth c D α κ A H locs ls hF hP hD hS hl)
theorem zk_ldcw {S : zkS} {d : Nat} {M : zkY} {Z : zkZ} {pc : Nat} {lv : List (Option Value)} {st : List Value} {mem : zkM} {idx : Nat} {v : Int32} (hd : decode M.2.1 pc = .ok (.ldc_w idx, 3)) (hc : Cond.constant M.1.cls idx v ∈ zk_tb) (kk : zk_J S d M Z (pc + 3) lv (.int v :: st) mem) : zk_J S d M Z pc lv st mem := by
  intro p l e s m args below meth c D α κ A H locs ls hF hP hD hS hl
  exact lv_ldcw hF.1 hF.2.1 hF.2.2.2.2.2.1 (hF.ts hc) hd (kk p l e s m args below meth c D α κ A H locs ls hF hP hD hS hl)
theorem zk_ldc2 {S : zkS} {d : Nat} {M : zkY} {Z : zkZ} {pc : Nat} {lv : List (Option Value)} {st : List Value} {mem : zkM} {idx : Nat} {v : Int64} (hd : decode M.2.1 pc = .ok (.ldc2_w idx, 3)) (hc : Cond.constantLong M.1.cls idx v ∈ zk_tb) (kk : zk_J S d M Z (pc + 3) lv (.long v :: st) mem) : zk_J S d M Z pc lv st mem := by
  intro p l e s m args below meth c D α κ A H locs ls hF hP hD hS hl
  exact lv_ldc2 hF.1 hF.2.1 hF.2.2.2.2.2.1 (hF.ts hc) hd (kk p l e s m args below meth c D α κ A H locs ls hF hP hD hS hl)
theorem zk_copy {S : zkS} {d : Nat} {M : zkY} {Z : zkZ} {pc : Nat} {lv : List (Option Value)} {st : List Value} {mem : zkM} (k0 k1 n0 n1 : Nat) {idx : Nat} {sp dp n : Int32} (hd : decode M.2.1 pc = .ok (.invokestatic idx, 3)) (hlk : Cond.methodLink M.1.cls idx arraycopyName ∈ zk_tb) (hw : Cond.native arraycopyName ∈ zk_tb ∧ Cond.static arraycopyName ∈ zk_tb ∧ Cond.initialized "java/lang/System" ∈ zk_tb) (hk0 : k0 < S.1) (hk1 : k1 < S.1) (hl0 : S.2.1 k0 = some (.inl (n0, 0))) (hl1 : S.2.1 k1 = some (.inl (n1, 0)))
    (h1 : ¬ sp < 0) (h2 : ¬ dp < 0) (h3 : ¬ n < 0) (h4 : sp.toNatClampNeg + n.toNatClampNeg ≤ n0) (h5 : dp.toNatClampNeg + n.toNatClampNeg ≤ n1) (hcat : (st.map fun v => v.category).sum ≤ 8)
    (kk : zk_J S d M Z (pc + 3) lv st (zk_cp mem k0 k1 sp.toNatClampNeg dp.toNatClampNeg n.toNatClampNeg)) : zk_J S d M Z pc lv (.int n :: .int dp :: .ref k1 :: .int sp :: .ref k0 :: st) mem := by
  intro p l e s m args below meth c D α κ A H locs ls hF hP hD hS hl
  refine va_copyi hF.1 hF.2.1 (hF.2.2.1.trans hl.1.symm) hF.2.2.2.2.2.1 (hF.ts hlk) (hF.ts hw.1) (hF.ts hw.2.1) (hF.ts hw.2.2) hF.2.2.2.2.2.2.2.1 hP hD hS k0 k1 0 0 (n0 := n0) (n1 := n1) (f := mem.1 k0) (g := mem.1 k1) (ty := .int) (by rw [zk_w_get hk0, zk_cell_arr hl0]; rfl) (by rw [zk_w_get hk1, zk_cell_arr hl1]; rfl) rfl rfl rfl h1 h2 h3 h4 h5 (fun _ _ => rfl) (by show 1 ≤ d + 1; omega) ?_ hd (fun H1 locs1 hP1 hD1 hS1 => ?_)
  · rw [zk_cat]
    have h7 : nativeFrameWords "java/lang/System" "arraycopy" 5 = 7 := by decide +kernel
    rw [h7]
    show _ ≤ 64 * d + 64
    omega
  · have he := zk_put_arr (S := S) (α := α) (κ := κ) (mem := mem) (mem' := zk_cp mem k0 k1 sp.toNatClampNeg dp.toNatClampNeg n.toNatClampNeg) hl1 (fun j hj => zk_cp_off hj) (fun j hj => rfl) rfl
    unfold zk_arr at he
    simp only [zk_cp_on] at he
    rw [he] at hP1 hD1
    exact kk p l e s m args below meth c D α κ A H1 locs1 ls hF hP1 hD1 hS1 hl
/-! calls -/
theorem zk_ro.go {α : Nat → Nat} {A : Nat → Prop} {s U : State} {H0 H : Heap} {locs : List Loc} (h : zk_ro α A s H0) (hS : va_S A H0 H locs) (hW : s.WarmedH U.vm) : zk_ro α A U H :=
  ⟨fun q hq => va_Nw.warmM hW (h.1 q hq), fun j q hq => ⟨((h.2 j q hq).1.moved hW.alike).kept hS.2.1, ((h.2 j q hq).2.moved hW.alike).kept hS.2.1⟩⟩
theorem zk_B.blind {S : zkS} {D : va_G} {α : Nat → Nat} {κ : Nat → ClassId} {A : Nat → Prop} {mem : zkM} {av : List Value} : FrameBlind (va_Pc av (zk_B S D α κ A mem)) := fun a U g mk q => by
  obtain ⟨q0, qP, qK, qD, qR⟩ := q
  exact ⟨q0, qP, va_K.moved (u := U) (U := U.calling g mk a) (Vm.Alike.refl U.vm) qK, qD, fun x hx => va_Nw.same (u := U) rfl rfl (qR.1 x hx), fun j x hx => ⟨(qR.2 j x hx).1.moved (U := U.calling g mk a) (Vm.Alike.refl U.vm), (qR.2 j x hx).2.moved (U := U.calling g mk a) (Vm.Alike.refl U.vm)⟩⟩
theorem zk_good {M M' : zkY} (h : Cond.code M'.1 M'.2.1 M'.2.2.1 M'.2.2.2 ∈ zk_tb) : GoodIn (zk_ws M) (zk_ws M') := by
  intro w hw
  rcases List.mem_cons.mp hw with rfl | hw
  · exact ⟨List.mem_cons_of_mem _ h, Or.inl rfl⟩
  · exact ⟨List.mem_cons_of_mem _ hw, good_of_word (List.mem_filter.mp hw).2⟩
def zk_lk (M' : zkY) (n : Nat) : Prop := Cond.code M'.1 M'.2.1 M'.2.2.1 M'.2.2.2 ∈ zk_tb ∧ Cond.initialized M'.1.cls ∈ zk_tb ∧ (M'.1.cls ≠ "java/lang/invoke/MethodHandle" ∧ M'.1.cls ≠ "java/lang/invoke/VarHandle" ∧ (parseMethodDescriptor M'.1.desc).map (fun d => d.parameters.length) = some n) ∧ M'.2.2.1 ≤ 40
/-- behind a call -/
theorem zk_run {S : zkS} {d : Nat} {M : zkY} {Z : zkZ} {r' : Option Value × zkM} {pc : Nat} {lv : List (Option Value)} {st : List Value}
    {p : Program} {l : Launch} {e : Env} {s : State} {m : MethodId} {args : Array Value} {below : List Frame} {meth : Method} {c : Code} {D : va_G} {α : Nat → Nat} {κ : Nat → ClassId} {A : Nat → Prop} {H : Heap} {locs : List Loc} {ls : Array Slot} {st0 : List Value} {a : Array Value}
    (hr : va_Run p l e (zk_room d) s m args below meth c H locs 0 0 0 0 (F0 m pc ls st0) (st.map (zk_cv α)) (zk_Q S D α κ A r' a) A)
    (hF : zk_F M p s m args meth c D α κ A) (hS : va_S A s.heap H locs) (hl : zk_lv α M.2.2.1 ls lv) (kk : zk_J S d M Z (pc + 3) lv (r'.1.toList ++ st) r'.2) :
    W p l e (zk_room d) s m args below meth c H locs 0 0 (MQ below (Z D α κ A) args s 0 0 A) (F0 m pc ls st0) := by
  intro T hT X
  obtain ⟨v, st₀, t, T', L, h0, X', hL, e1, e2, ⟨hv, ⟨hP1, hK1, hD1, hR1⟩, hz, hk⟩, stp⟩ := hr T hT X
  cases hv
  rw [h0] at hz hk
  obtain ⟨t2, a1, b1⟩ := kk p l e s m args below meth c D α κ A T'.heap (locs ++ L) ls hF (by rw [e1]; exact hP1) hD1
    ⟨Nat.le_trans hS.1 (by rw [e1]; exact hz), fun q h1 h2 => by rw [e1, hk q (Nat.lt_of_lt_of_le h1 hS.1) h2]; exact hS.2.1 q h1 h2, fun q hq => by
      rcases List.mem_append.mp hq with h | h
      · exact hS.2.2 q h
      · exact hL q h⟩ hl T' rfl X'
  refine ⟨t2, stp t2 ?_, b1⟩
  have hm : (r'.1.toList ++ st).map (zk_cv α) = (r'.1.map (zk_cv α)).toList ++ st.map (zk_cv α) := by
    rw [List.map_append]
    cases r'.1 <;> rfl
  rw [hm] at a1
  exact a1
theorem zk_room_ok {d d' n : Nat} (hd : d' < d) (hn : n ≤ 40) : (zk_room d').frames + 1 ≤ (zk_room d).frames ∧ 8 + (n + 11) + (zk_room d').locals ≤ (zk_room d).locals := by
  show d' + 1 + 1 ≤ d + 1 ∧ 8 + (n + 11) + (64 * d' + 64) ≤ 64 * d + 64
  omega

theorem zk_callS {S : zkS} {d : Nat} {M : zkY} {Z : zkZ} {pc : Nat} {lv : List (Option Value)} {mem : zkM} (M' : zkY) (as : List Value) {st : List Value} {d' idx : Nat} {r' : Option Value × zkM} (hd : decode M.2.1 pc = .ok (.invokestatic idx, 3)) (hL : zk_lk M' as.length) (hlk : Cond.methodLink M.1.cls idx M'.1 ∈ zk_tb ∧ Cond.static M'.1 ∈ zk_tb) (hM : zk_X S d' M' as mem r') (hdd : d' < d) (hcat : (st.map fun v => v.category).sum ≤ 8)
    (kk : zk_J S d M Z (pc + 3) lv (r'.1.toList ++ st) r'.2) : zk_J S d M Z pc lv (as.reverse ++ st) mem := by
  intro p l e s m args below meth c D α κ A H locs ls hF hP hD hS hl
  refine zk_run (va_runS (As := as.map (zk_cv α)) ⟨hF.1, hF.2.1, hF.2.2.1, hF.2.2.2.2.2.1, hF.2.2.2.2.2.2.1⟩ (hM l D α κ A) ⟨callB_of as.length hF.2.2.2.2.2.2.1 (zk_good hL.1) rfl rfl rfl (hF.ts hL.2.1) (hF.ts hlk.1) hL.2.2.1 (zk_room_ok hdd hL.2.2.2), hF.ts hlk.2⟩ ⟨zk_B.blind, fun U hU hW => ⟨rfl, ⟨by rw [hU]; exact hP, va_K.moved hW.alike hF.2.2.2.2.2.2.2.1, hD, by rw [hU]; exact hF.2.2.2.2.2.2.2.2.go hS hW⟩⟩⟩ rfl (by rw [List.length_map]) hl.1 (by simp [List.map_reverse]) (by rw [zk_cat]; exact lv_room hcat) hd ⟨Nat.le_refl _, Nat.le_refl _⟩) hF hS hl kk
theorem zk_callN {S : zkS} {d : Nat} {M : zkY} {Z : zkZ} {pc : Nat} {lv : List (Option Value)} {mem : zkM} (M' : zkY) (as : List Value) {st : List Value} {d' idx : Nat} {r' : Option Value × zkM} (hd : decode M.2.1 pc = .ok (.invokestatic idx, 3)) (hL : zk_lk M' as.length) (hlk : (M.1.cls, idx, M'.1, "TreePlanks") ∈ zk_nst ∧ Cond.static M'.1 ∈ zk_tb) (hM : zk_X S d' M' as mem r') (hdd : d' < d) (hcat : (st.map fun v => v.category).sum ≤ 8)
    (kk : zk_J S d M Z (pc + 3) lv (r'.1.toList ++ st) r'.2) : zk_J S d M Z pc lv (as.reverse ++ st) mem := by
  intro p l e s m args below meth c D α κ A H locs ls hF hP hD hS hl
  refine zk_run (va_runSN (As := as.map (zk_cv α)) ⟨hF.1, hF.2.1, hF.2.2.1, hF.2.2.2.2.2.1, hF.2.2.2.2.2.2.1⟩ (hM l D α κ A) ⟨va_cnB as.length hF.2.2.2.2.2.2.1 (zk_good hL.1) rfl rfl rfl (hF.2.2.2.2.2.2.2.2.1 _ hlk.1) (hF.ts hL.2.1) hL.2.2.1 (zk_room_ok hdd hL.2.2.2), hF.ts hlk.2, trivial⟩ ⟨zk_B.blind, fun U hU hW => ⟨rfl, ⟨by rw [hU]; exact hP, va_K.moved hW.alike hF.2.2.2.2.2.2.2.1, hD, by rw [hU]; exact hF.2.2.2.2.2.2.2.2.go hS hW⟩⟩⟩ rfl (by rw [List.length_map]) hl.1 (by simp [List.map_reverse]) (by rw [zk_cat]; exact lv_room hcat) hd ⟨Nat.le_refl _, Nat.le_refl _⟩) hF hS hl kk
theorem zk_callV {S : zkS} {d : Nat} {M : zkY} {Z : zkZ} {pc : Nat} {lv : List (Option Value)} {mem : zkM} (M' : zkY) (k ci : Nat) (as : List Value) {C : String} {T : u_T} {N : Nat} {st : List Value} {d' idx : Nat} {r' : Option Value × zkM} (hd : decode M.2.1 pc = .ok (.invokevirtual idx, 3)) (hL : zk_lk M' as.length) (hlk : Cond.methodLink M.1.cls idx M'.1 ∈ zk_tb ∧ Cond.instanceMethod M'.1 ∈ zk_tb ∧ Cond.selects C M'.1 M'.1 ∈ zk_tb) (hok : zk_ok ci C T N) (hk : k < S.1) (hly : S.2.1 k = some (.inr ci)) (hM : zk_X S d' M' (.ref k :: as) mem r') (hdd : d' < d) (hcat : (st.map fun v => v.category).sum ≤ 8)
    (kk : zk_J S d M Z (pc + 3) lv (r'.1.toList ++ st) r'.2) : zk_J S d M Z pc lv (as.reverse ++ .ref k :: st) mem := by
  intro p l e s m args below meth c D α κ A H locs ls hF hP hD hS hl
  refine zk_run (va_runV (As := as.map (zk_cv α)) (b := α k) (C := C) ⟨hF.1, hF.2.1, hF.2.2.1, hF.2.2.2.2.2.1, hF.2.2.2.2.2.2.1⟩ (hM l D α κ A) ⟨callB_of as.length hF.2.2.2.2.2.2.1 (zk_good hL.1) rfl rfl rfl (hF.ts hL.2.1) (hF.ts hlk.1) hL.2.2.1 (zk_room_ok hdd hL.2.2.2), hF.ts hlk.2.1, hF.ts hlk.2.2⟩ ⟨zk_B.blind, va_recv hF.2.2.2.2.2.2.2.1 hP hok.1 (q0 := k) (by rw [zk_w_get hk, zk_cell_obj hly]), fun U hU hW => ⟨rfl, ⟨by rw [hU]; exact hP, va_K.moved hW.alike hF.2.2.2.2.2.2.2.1, hD, by rw [hU]; exact hF.2.2.2.2.2.2.2.2.go hS hW⟩⟩⟩ rfl (by rw [List.length_map]) hl.1 (by simp [List.map_reverse, zk_cv]) (by rw [zk_cat]; exact lv_room hcat) hd ⟨Nat.le_refl _, Nat.le_refl _⟩) hF hS hl kk
theorem zk_ireturn {S : zkS} {d : Nat} {M : zkY} {r : Option Value × zkM} {pc : Nat} {lv : List (Option Value)} {mem : zkM} {x : Int32} (hd : decode M.2.1 pc = .ok (.ireturn, 1)) (hrt : M.2.2.2 = some .int) (hr : (some (.int x), mem) = r) : zk_J S d M (zk_R S r) pc lv [.int x] mem := by
  intro p l e s m args below meth c D α κ A H locs ls hF hP hD hS hl
  subst hr
  exact W.iret hF.1 hF.2.1 (hF.2.2.2.1.trans hrt) (fun t ht hW => ⟨rfl, ⟨by rw [ht]; exact hP, va_K.moved hW.alike hF.2.2.2.2.2.2.2.1, hD, by rw [ht]; exact hF.2.2.2.2.2.2.2.2.go hS hW⟩, hS.F ht⟩) hS.2.2 hd hF.2.2.2.2.1
theorem zk_zreturn {S : zkS} {d : Nat} {M : zkY} {r : Option Value × zkM} {pc : Nat} {lv : List (Option Value)} {mem : zkM} {x : Int32} (hd : decode M.2.1 pc = .ok (.ireturn, 1)) (hrt : M.2.2.2 = some .boolean) (hn : narrow .boolean (.int x) = .int x) (hr : (some (.int x), mem) = r) : zk_J S d M (zk_R S r) pc lv [.int x] mem := by
  intro p l e s m args below meth c D α κ A H locs ls hF hP hD hS hl
  subst hr
  exact W.zret hF.1 hF.2.1 (hF.2.2.2.1.trans hrt) hn (fun t ht hW => ⟨rfl, ⟨by rw [ht]; exact hP, va_K.moved hW.alike hF.2.2.2.2.2.2.2.1, hD, by rw [ht]; exact hF.2.2.2.2.2.2.2.2.go hS hW⟩, hS.F ht⟩) hS.2.2 hd hF.2.2.2.2.1
theorem zk_lreturn {S : zkS} {d : Nat} {M : zkY} {r : Option Value × zkM} {pc : Nat} {lv : List (Option Value)} {mem : zkM} {x : Int64} (hd : decode M.2.1 pc = .ok (.lreturn, 1)) (hrt : M.2.2.2 = some .long) (hr : (some (.long x), mem) = r) : zk_J S d M (zk_R S r) pc lv [.long x] mem := by
  intro p l e s m args below meth c D α κ A H locs ls hF hP hD hS hl
  subst hr
  exact W.lret hF.1 hF.2.1 (hF.2.2.2.1.trans hrt) (fun t ht hW => ⟨rfl, ⟨by rw [ht]; exact hP, va_K.moved hW.alike hF.2.2.2.2.2.2.2.1, hD, by rw [ht]; exact hF.2.2.2.2.2.2.2.2.go hS hW⟩, hS.F ht⟩) hS.2.2 hd hF.2.2.2.2.1
theorem zk_vreturn {S : zkS} {d : Nat} {M : zkY} {r : Option Value × zkM} {pc : Nat} {lv : List (Option Value)} {mem : zkM}  (hd : decode M.2.1 pc = .ok (.return_, 1)) (hrt : M.2.2.2 = none) (hr : (none, mem) = r) : zk_J S d M (zk_R S r) pc lv [] mem := by
  intro p l e s m args below meth c D α κ A H locs ls hF hP hD hS hl
  subst hr
  exact W.vret hF.1 hF.2.1 (hF.2.2.2.1.trans hrt) (fun t ht hW => ⟨rfl, ⟨by rw [ht]; exact hP, va_K.moved hW.alike hF.2.2.2.2.2.2.2.1, hD, by rw [ht]; exact hF.2.2.2.2.2.2.2.2.go hS hW⟩, hS.F ht⟩) hS.2.2 hd hF.2.2.2.2.1
/-! entry -/
def zk_ent : List Value → List (Option Value)
  | [] => []
  | v :: vs => if v.category = 2 then some v :: none :: zk_ent vs else some v :: zk_ent vs
theorem zk_ent_mem (α : Nat → Nat) : ∀ (as : List Value) (n i : Nat) (v : Value), (zk_ent as)[i]? = some (some v) → (n + i, zk_cv α v) ∈ lv_args n (as.map (zk_cv α))
  | [], n, i, v, h => by simp [zk_ent] at h
  | a :: as, n, i, v, h => by
    rw [List.map_cons]
    unfold lv_args
    rw [zk_cv_cat]
    unfold zk_ent at h
    by_cases hc : a.category = 2
    · rw [if_pos hc] at h ⊢
      match i, h with
      | 0, h => simp at h; subst h; exact List.mem_cons_self
      | 1, h => simp at h
      | i + 2, h =>
        have := zk_ent_mem α as (n + 2) i v (by simpa using h)
        rw [show n + (i + 2) = n + 2 + i by omega]
        exact List.mem_cons_of_mem _ this
    · rw [if_neg hc] at h ⊢
      match i, h with
      | 0, h => simp at h; subst h; exact List.mem_cons_self
      | i + 1, h =>
        have := zk_ent_mem α as (n + 1) i v (by simpa using h)
        rw [show n + (i + 1) = n + 1 + i by omega]
        exact List.mem_cons_of_mem _ this
theorem zk_pad {a : List (Option Value)} {n i : Nat} {v : Value} (h : (a ++ List.replicate n none)[i]? = some (some v)) : a[i]? = some (some v) := by
  by_cases hl : i < a.length
  · rwa [List.getElem?_append_left hl] at h
  · rw [List.getElem?_append_right (by omega)] at h
    have := List.eq_of_mem_replicate (List.mem_of_getElem? h)
    cases this
/-- a contract out of the walk of the body -/
theorem zk_meet {S : zkS} {d : Nat} {M : zkY} {as : List Value} {mem : zkM} {r : Option Value × zkM} {n : Nat} {lv : List (Option Value)} (hy : plainName M.1.cls = true) (hlv : zk_ent as ++ List.replicate n none = lv) (hz : (as.map fun v => v.category).sum ≤ M.2.2.1)
    (k : zk_J S d M (zk_R S r) 0 lv [] mem) : zk_X S d M as mem r := by
  intro l D α κ A
  refine Met.ofW (cc := M.2.1) (maxL := M.2.2.1) (ret := M.2.2.2) hy rfl ?_
  intro p e s m args below meth c s₁ B hml hv
  obtain ⟨rfl, hP, hK, hD, hR⟩ := hv
  have hlen : (lg_sl (as.map (zk_cv α))).length ≤ M.2.2.1 := by
    have : ∀ xs : List Value, (lg_sl xs).length = (xs.map fun v => v.category).sum := by
      intro xs
      induction xs with
      | nil => rfl
      | cons x xs ih =>
        unfold lg_sl at ih ⊢
        rw [List.flatMap_cons, List.length_append, ih, List.map_cons, List.sum_cons]
        cases x <;> rfl
    rw [this, zk_cat]
    exact hz
  have hl := lv_entry (as.map (zk_cv α)) (n := M.2.2.1) hlen
  rw [lg_entry_eq]
  generalize (lg_sl (as.map (zk_cv α)) ++ List.replicate (M.2.2.1 - (lg_sl (as.map (zk_cv α))).length) Slot.unset).toArray = ls at hl ⊢
  exact k p l e s m _ below meth c D α κ A s.heap [] ls ⟨B.exec, B.bytes, hml, B.returns, B.notSynchronized, findClass_of_methodNamed B.named, atoms_spec (ws := zk_ws M) B.pre, hK, hR⟩ hP hD va_S.rf
    ⟨hl.1, hl.2.1, fun i v h => by
      rw [← hlv] at h
      have h2 := zk_ent_mem α as 0 i v (zk_pad h)
      rw [Nat.zero_add] at h2
      exact hl.2.2 _ h2⟩
/-! what an equation of an Option gives -/
theorem zk_ob {α β : Type} {o : Option α} {g : α → Option β} {z : β} (h : o.bind g = some z) : ∃ v, o = some v ∧ g v = some z := Option.bind_eq_some_iff.mp h
theorem zk_it {α : Type} {c : Prop} (dc : Decidable c) {a b z : α} (h : (if c then a else b) = z) (hc : c) : a = z := by rw [if_pos hc] at h; exact h
theorem zk_if {α : Type} {c : Prop} (dc : Decidable c) {a b z : α} (h : (if c then a else b) = z) (hc : ¬ c) : b = z := by rw [if_neg hc] at h; exact h
def zk_inb (i : Int32) (n : Nat) : Bool := decide (0 ≤ i) && decide (i.toNatClampNeg < n)
theorem zk_inb_in {i : Int32} {n : Nat} (h : zk_inb i n = true) : vp_in i n := by
  unfold zk_inb at h
  simp only [Bool.and_eq_true, decide_eq_true_eq] at h
  rintro (q | q)
  · exact absurd h.1 (Int32.not_le.mpr q)
  · omega
theorem zk_gd {α : Type} {c : Bool} {o : Option α} {z : α} (h : (bif c then o else none) = some z) : c = true ∧ o = some z := by
  cases c with
  | true => exact ⟨rfl, h⟩
  | false => cases h
theorem zk_nb (b : Bool) : narrow .boolean (.int (zk_b b)) = .int (zk_b b) := by cases b <;> rfl
theorem zk_b_eq0 (b : Bool) : zk_b b = 0 ↔ b = false := by cases b <;> decide
theorem zk_b_eq1 (b : Bool) : zk_b b = 1 ↔ b = true := by cases b <;> decide
end
section
/-! names for what is computed; calls by the kind of their answer; fewer locals -/
def zk_let {α β : Type} (a : α) (g : α → β) : β := g a
theorem zk_lt {α β : Type} {a : α} {g : α → β} {z : β} (h : zk_let a g = z) : ∃ q, a = q ∧ g q = z := ⟨a, rfl, h⟩
theorem zk_dz {α : Type} {c : Prop} {dc : Decidable c} {o : Option α} {z : α} (h : (if c then none else o) = some z) : ¬ c ∧ o = some z := by
  by_cases hc : c
  · rw [if_pos hc] at h; cases h
  · rw [if_neg hc] at h; exact ⟨hc, h⟩
theorem zk_er {α β γ : Type} {f : α → γ} {g : β → γ} {y : β} {z : γ} (h : Sum.elim f g (.inr y) = z) : g y = z := h
theorem zk_el {α β γ : Type} {f : α → γ} {g : β → γ} {y : α} {z : γ} (h : Sum.elim f g (.inl y) = z) : f y = z := h
theorem zk_leE {b : List (Option Value)} : zk_le [] b := trivial
theorem zk_leN {a b : List (Option Value)} {y : Option Value} (h : zk_le a b) : zk_le (none :: a) (y :: b) := h
theorem zk_leS {a b : List (Option Value)} {v : Value} (h : zk_le a b) : zk_le (some v :: a) (some v :: b) := ⟨rfl, h⟩
section
variable {S : zkS} {d : Nat} {M : zkY} {Z : zkZ} {pc : Nat} {lv : List (Option Value)} {st : List Value} {mem mem' : zkM}
theorem zk_istore_n' {j : Fin 4} {i : Nat} {x x' : Int32} (hd : decode M.2.1 pc = .ok (.istore_n j, 1)) (hi : (j : Nat) = i) (e : x = x') (hn : i < M.2.2.1) (hc : zk_nl lv i = true) (k : zk_J S d M Z (pc + 1) (lv.set i (some (.int x'))) st mem) : zk_J S d M Z pc lv (.int x :: st) mem := by subst e; exact zk_istore_n hd hi hn hc k
theorem zk_istore' {i : Nat} {x x' : Int32} (hd : decode M.2.1 pc = .ok (.istore i, 2)) (e : x = x') (hn : i < M.2.2.1) (hc : zk_nl lv i = true) (k : zk_J S d M Z (pc + 2) (lv.set i (some (.int x'))) st mem) : zk_J S d M Z pc lv (.int x :: st) mem := by subst e; exact zk_istore hd hn hc k
theorem zk_lstore_n' {j : Fin 4} {i : Nat} {x x' : Int64} (hd : decode M.2.1 pc = .ok (.lstore_n j, 1)) (hi : (j : Nat) = i) (e : x = x') (hn : i + 1 < M.2.2.1) (hc : zk_nl lv i = true) (k : zk_J S d M Z (pc + 1) ((lv.set i (some (.long x'))).set (i + 1) none) st mem) : zk_J S d M Z pc lv (.long x :: st) mem := by subst e; exact zk_lstore_n hd hi hn hc k
theorem zk_lstore' {i : Nat} {x x' : Int64} (hd : decode M.2.1 pc = .ok (.lstore i, 2)) (e : x = x') (hn : i + 1 < M.2.2.1) (hc : zk_nl lv i = true) (k : zk_J S d M Z (pc + 2) ((lv.set i (some (.long x'))).set (i + 1) none) st mem) : zk_J S d M Z pc lv (.long x :: st) mem := by subst e; exact zk_lstore hd hn hc k
theorem zk_iinc2 {i : Nat} {n : Int} {x w : Int32} (hd : decode M.2.1 pc = .ok (.iinc i n, 3)) (hv : lv[i]? = some (some (.int x))) (he : Int32.ofInt n = w) (hn : i < M.2.2.1) (hc : zk_nl lv i = true) (k : zk_J S d M Z (pc + 3) (lv.set i (some (.int (x + w)))) st mem) : zk_J S d M Z pc lv st mem := zk_iinc hd hv (by rw [he]) hn hc k
theorem zk_putI' (k ci f : Nat) {idx : Nat} {x : Int32} (hd : decode M.2.1 pc = .ok (.putfield idx, 3)) (hf : zk_fp M.1.cls idx ci f) (hk : k < S.1) (hly : S.2.1 k = some (.inr ci)) (ht : zk_ty ci f = .int) (e : zk_u mem k f x = mem') (kk : zk_J S d M Z (pc + 3) lv st mem') : zk_J S d M Z pc lv (.int x :: .ref k :: st) mem := by subst e; exact zk_putI k ci f hd hf hk hly ht kk
theorem zk_putZ' (k ci f : Nat) {idx : Nat} {x : Int32} (hd : decode M.2.1 pc = .ok (.putfield idx, 3)) (hf : zk_fp M.1.cls idx ci f) (hk : k < S.1) (hly : S.2.1 k = some (.inr ci)) (ht : zk_ty ci f = .boolean) (hn : narrow .boolean (.int x) = .int x) (hb : fits .boolean (.int x) = true) (e : zk_u mem k f x = mem') (kk : zk_J S d M Z (pc + 3) lv st mem') : zk_J S d M Z pc lv (.int x :: .ref k :: st) mem := by subst e; exact zk_putZ k ci f hd hf hk hly ht hn hb kk
theorem zk_putL' (k ci f : Nat) {idx : Nat} {x : Int64} (hd : decode M.2.1 pc = .ok (.putfield idx, 3)) (hf : zk_fp M.1.cls idx ci f) (hk : k < S.1) (hly : S.2.1 k = some (.inr ci)) (ht : zk_ty ci f = .long) (e : zk_ul mem k f x = mem') (kk : zk_J S d M Z (pc + 3) lv st mem') : zk_J S d M Z pc lv (.long x :: .ref k :: st) mem := by subst e; exact zk_putL k ci f hd hf hk hly ht kk
theorem zk_iastore' (k n : Nat) {i : Int32} {x : Int32} (hd : decode M.2.1 pc = .ok (.iastore, 1)) (hk : k < S.1) (hly : S.2.1 k = some (.inl (n, 0))) (hin : vp_in i n) (e : zk_u mem k i.toNatClampNeg x = mem') (kk : zk_J S d M Z (pc + 1) lv st mem') : zk_J S d M Z pc lv (.int x :: .int i :: .ref k :: st) mem := by subst e; exact zk_iastore k n hd hk hly hin kk
theorem zk_zastore' (k n : Nat) {i : Int32} {x : Int32} (hd : decode M.2.1 pc = .ok (.bastore, 1)) (hk : k < S.1) (hly : S.2.1 k = some (.inl (n, 1))) (hn : vp_nar .boolean x = x) (hin : vp_in i n) (e : zk_u mem k i.toNatClampNeg x = mem') (kk : zk_J S d M Z (pc + 1) lv st mem') : zk_J S d M Z pc lv (.int x :: .int i :: .ref k :: st) mem := by subst e; exact zk_zastore k n hd hk hly hn hin kk
theorem zk_lastore' (k n : Nat) {i : Int32} {x : Int64} (hd : decode M.2.1 pc = .ok (.lastore, 1)) (hk : k < S.1) (hly : S.2.1 k = some (.inl (n, 2))) (hin : vp_in i n) (e : zk_ul mem k i.toNatClampNeg x = mem') (kk : zk_J S d M Z (pc + 1) lv st mem') : zk_J S d M Z pc lv (.long x :: .int i :: .ref k :: st) mem := by subst e; exact zk_lastore k n hd hk hly hin kk
theorem zk_copyI (k0 k1 n0 n1 N : Nat) {idx : Nat} {n : Int32} (hd : decode M.2.1 pc = .ok (.invokestatic idx, 3)) (hlk : Cond.methodLink M.1.cls idx arraycopyName ∈ zk_tb) (hw : Cond.native arraycopyName ∈ zk_tb ∧ Cond.static arraycopyName ∈ zk_tb ∧ Cond.initialized "java/lang/System" ∈ zk_tb) (hk0 : k0 < S.1) (hk1 : k1 < S.1) (hl0 : S.2.1 k0 = some (.inl (n0, 0))) (hl1 : S.2.1 k1 = some (.inl (n1, 0))) (h3 : ¬ n < 0) (hN : n.toNatClampNeg = N) (h4 : N ≤ n0) (h5 : N ≤ n1) (hcat : (st.map fun v => v.category).sum ≤ 8) (e : zk_cp mem k0 k1 0 0 N = mem') (kk : zk_J S d M Z (pc + 3) lv st mem') : zk_J S d M Z pc lv (.int n :: .int 0 :: .ref k1 :: .int 0 :: .ref k0 :: st) mem := by
  subst e
  subst hN
  have h0 : (0 : Int32).toNatClampNeg = 0 := by decide
  refine zk_copy k0 k1 n0 n1 hd hlk hw hk0 hk1 hl0 hl1 (by decide) (by decide) h3 (by rw [h0]; omega) (by rw [h0]; omega) hcat ?_
  rw [h0]
  exact kk
end
section
variable {S : zkS} {d : Nat} {M : zkY} {Z : zkZ} {pc : Nat} {lv : List (Option Value)} {st : List Value} {mem mem' : zkM}
theorem zk_callSi (M' : zkY) (as : List Value) {d' idx : Nat} {v : Int32} (hd : decode M.2.1 pc = .ok (.invokestatic idx, 3)) (hL : zk_lk M' as.length) (hlk : Cond.methodLink M.1.cls idx M'.1 ∈ zk_tb ∧ Cond.static M'.1 ∈ zk_tb) (hM : zk_X S d' M' as mem (some (.int v), mem')) (hdd : d' < d) (hcat : (st.map fun v => v.category).sum ≤ 8) (kk : zk_J S d M Z (pc + 3) lv (.int v :: st) mem') : zk_J S d M Z pc lv (as.reverse ++ st) mem := zk_callS M' as hd hL hlk hM hdd hcat kk
theorem zk_callSl (M' : zkY) (as : List Value) {d' idx : Nat} {v : Int64} (hd : decode M.2.1 pc = .ok (.invokestatic idx, 3)) (hL : zk_lk M' as.length) (hlk : Cond.methodLink M.1.cls idx M'.1 ∈ zk_tb ∧ Cond.static M'.1 ∈ zk_tb) (hM : zk_X S d' M' as mem (some (.long v), mem')) (hdd : d' < d) (hcat : (st.map fun v => v.category).sum ≤ 8) (kk : zk_J S d M Z (pc + 3) lv (.long v :: st) mem') : zk_J S d M Z pc lv (as.reverse ++ st) mem := zk_callS M' as hd hL hlk hM hdd hcat kk
theorem zk_callSv (M' : zkY) (as : List Value) {d' idx : Nat} (hd : decode M.2.1 pc = .ok (.invokestatic idx, 3)) (hL : zk_lk M' as.length) (hlk : Cond.methodLink M.1.cls idx M'.1 ∈ zk_tb ∧ Cond.static M'.1 ∈ zk_tb) (hM : zk_X S d' M' as mem (none, mem')) (hdd : d' < d) (hcat : (st.map fun v => v.category).sum ≤ 8) (kk : zk_J S d M Z (pc + 3) lv st mem') : zk_J S d M Z pc lv (as.reverse ++ st) mem := zk_callS M' as hd hL hlk hM hdd hcat kk
theorem zk_callNi (M' : zkY) (as : List Value) {d' idx : Nat} {v : Int32} (hd : decode M.2.1 pc = .ok (.invokestatic idx, 3)) (hL : zk_lk M' as.length) (hlk : (M.1.cls, idx, M'.1, "TreePlanks") ∈ zk_nst ∧ Cond.static M'.1 ∈ zk_tb) (hM : zk_X S d' M' as mem (some (.int v), mem')) (hdd : d' < d) (hcat : (st.map fun v => v.category).sum ≤ 8) (kk : zk_J S d M Z (pc + 3) lv (.int v :: st) mem') : zk_J S d M Z pc lv (as.reverse ++ st) mem := zk_callN M' as hd hL hlk hM hdd hcat kk
theorem zk_callVi (M' : zkY) (k ci : Nat) (as : List Value) {C : String} {T : u_T} {N : Nat} {d' idx : Nat} {v : Int32} (hd : decode M.2.1 pc = .ok (.invokevirtual idx, 3)) (hL : zk_lk M' as.length) (hlk : Cond.methodLink M.1.cls idx M'.1 ∈ zk_tb ∧ Cond.instanceMethod M'.1 ∈ zk_tb ∧ Cond.selects C M'.1 M'.1 ∈ zk_tb) (hok : zk_ok ci C T N) (hk : k < S.1) (hly : S.2.1 k = some (.inr ci)) (hM : zk_X S d' M' (.ref k :: as) mem (some (.int v), mem')) (hdd : d' < d) (hcat : (st.map fun v => v.category).sum ≤ 8) (kk : zk_J S d M Z (pc + 3) lv (.int v :: st) mem') : zk_J S d M Z pc lv (as.reverse ++ .ref k :: st) mem := zk_callV M' k ci as hd hL hlk hok hk hly hM hdd hcat kk
theorem zk_callVl (M' : zkY) (k ci : Nat) (as : List Value) {C : String} {T : u_T} {N : Nat} {d' idx : Nat} {v : Int64} (hd : decode M.2.1 pc = .ok (.invokevirtual idx, 3)) (hL : zk_lk M' as.length) (hlk : Cond.methodLink M.1.cls idx M'.1 ∈ zk_tb ∧ Cond.instanceMethod M'.1 ∈ zk_tb ∧ Cond.selects C M'.1 M'.1 ∈ zk_tb) (hok : zk_ok ci C T N) (hk : k < S.1) (hly : S.2.1 k = some (.inr ci)) (hM : zk_X S d' M' (.ref k :: as) mem (some (.long v), mem')) (hdd : d' < d) (hcat : (st.map fun v => v.category).sum ≤ 8) (kk : zk_J S d M Z (pc + 3) lv (.long v :: st) mem') : zk_J S d M Z pc lv (as.reverse ++ .ref k :: st) mem := zk_callV M' k ci as hd hL hlk hok hk hly hM hdd hcat kk
theorem zk_callVv (M' : zkY) (k ci : Nat) (as : List Value) {C : String} {T : u_T} {N : Nat} {d' idx : Nat} (hd : decode M.2.1 pc = .ok (.invokevirtual idx, 3)) (hL : zk_lk M' as.length) (hlk : Cond.methodLink M.1.cls idx M'.1 ∈ zk_tb ∧ Cond.instanceMethod M'.1 ∈ zk_tb ∧ Cond.selects C M'.1 M'.1 ∈ zk_tb) (hok : zk_ok ci C T N) (hk : k < S.1) (hly : S.2.1 k = some (.inr ci)) (hM : zk_X S d' M' (.ref k :: as) mem (none, mem')) (hdd : d' < d) (hcat : (st.map fun v => v.category).sum ≤ 8) (kk : zk_J S d M Z (pc + 3) lv st mem') : zk_J S d M Z pc lv (as.reverse ++ .ref k :: st) mem := zk_callV M' k ci as hd hL hlk hok hk hly hM hdd hcat kk
end
end
