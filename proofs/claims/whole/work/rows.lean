section
-- ===== PART A: goes FIRST, ahead of the names: the tables' words, and 'selects' of the private methods out of them =====
/-- a private method of a class that the tables say can be made, by its rows of tables_1 -/
def lw_okq (q : MethodName × Nat) : Prop := (q.1.cls ≠ "java/lang/invoke/MethodHandle" ∧ q.1.cls ≠ "java/lang/invoke/VarHandle") ∧ Cond.instantiable q.1.cls q.2 ∈ tables_1 ∧ Cond.privateMethod q.1 ∈ tables_1 ∧ Cond.instanceMethod q.1 ∈ tables_1
theorem lw_p0 : lw_okq (⟨"FibreBench", "recordChange", "()V"⟩, 9) := ⟨⟨by decide +kernel, by decide +kernel⟩, List.mem_of_getElem? (i := 16) (by decide +kernel), List.mem_of_getElem? (i := 355) (by decide +kernel), List.mem_of_getElem? (i := 356) (by decide +kernel)⟩
theorem lw_p1 : lw_okq (⟨"FibreBench", "viewOf", "(I)LFibreBench$View;"⟩, 9) := ⟨⟨by decide +kernel, by decide +kernel⟩, List.mem_of_getElem? (i := 16) (by decide +kernel), List.mem_of_getElem? (i := 460) (by decide +kernel), List.mem_of_getElem? (i := 461) (by decide +kernel)⟩
theorem lw_p2 : lw_okq (⟨"FibreBench", "traceOf", "(II)LFibreBench$Trace;"⟩, 9) := ⟨⟨by decide +kernel, by decide +kernel⟩, List.mem_of_getElem? (i := 16) (by decide +kernel), List.mem_of_getElem? (i := 507) (by decide +kernel), List.mem_of_getElem? (i := 508) (by decide +kernel)⟩
theorem lw_p3 : lw_okq (⟨"FibreBench", "stitchedAt", "(II)I"⟩, 9) := ⟨⟨by decide +kernel, by decide +kernel⟩, List.mem_of_getElem? (i := 16) (by decide +kernel), List.mem_of_getElem? (i := 560) (by decide +kernel), List.mem_of_getElem? (i := 561) (by decide +kernel)⟩
theorem lw_p4 : lw_okq (⟨"FibreBench", "eventsOf", "(II)LFibreBench$EventList;"⟩, 9) := ⟨⟨by decide +kernel, by decide +kernel⟩, List.mem_of_getElem? (i := 16) (by decide +kernel), List.mem_of_getElem? (i := 573) (by decide +kernel), List.mem_of_getElem? (i := 574) (by decide +kernel)⟩
theorem lw_p5 : lw_okq (⟨"FibreBench", "joinSides", "(LFibreBench$EventList;LFibreBench$EventList;)V"⟩, 9) := ⟨⟨by decide +kernel, by decide +kernel⟩, List.mem_of_getElem? (i := 16) (by decide +kernel), List.mem_of_getElem? (i := 633) (by decide +kernel), List.mem_of_getElem? (i := 634) (by decide +kernel)⟩
theorem lw_p6 : lw_okq (⟨"FibreBench", "routeOfEnd", "(II)I"⟩, 9) := ⟨⟨by decide +kernel, by decide +kernel⟩, List.mem_of_getElem? (i := 16) (by decide +kernel), List.mem_of_getElem? (i := 715) (by decide +kernel), List.mem_of_getElem? (i := 716) (by decide +kernel)⟩
theorem lw_p7 : lw_okq (⟨"FibreBenchModel", "renew", "(III)V"⟩, 25) := ⟨⟨by decide +kernel, by decide +kernel⟩, List.mem_of_getElem? (i := 771) (by decide +kernel), List.mem_of_getElem? (i := 778) (by decide +kernel), List.mem_of_getElem? (i := 779) (by decide +kernel)⟩
theorem lw_p8 : lw_okq (⟨"FibreBenchModel", "clearFibre", "()V"⟩, 25) := ⟨⟨by decide +kernel, by decide +kernel⟩, List.mem_of_getElem? (i := 771) (by decide +kernel), List.mem_of_getElem? (i := 782) (by decide +kernel), List.mem_of_getElem? (i := 783) (by decide +kernel)⟩
theorem lw_p9 : lw_okq (⟨"FibreBenchModel", "append", "(III)V"⟩, 25) := ⟨⟨by decide +kernel, by decide +kernel⟩, List.mem_of_getElem? (i := 771) (by decide +kernel), List.mem_of_getElem? (i := 786) (by decide +kernel), List.mem_of_getElem? (i := 787) (by decide +kernel)⟩
theorem lw_p10 : lw_okq (⟨"FibreBenchModel", "keep", "()V"⟩, 25) := ⟨⟨by decide +kernel, by decide +kernel⟩, List.mem_of_getElem? (i := 771) (by decide +kernel), List.mem_of_getElem? (i := 877) (by decide +kernel), List.mem_of_getElem? (i := 878) (by decide +kernel)⟩
theorem lw_p11 : lw_okq (⟨"FibreBenchModel", "whole", "()I"⟩, 25) := ⟨⟨by decide +kernel, by decide +kernel⟩, List.mem_of_getElem? (i := 771) (by decide +kernel), List.mem_of_getElem? (i := 881) (by decide +kernel), List.mem_of_getElem? (i := 882) (by decide +kernel)⟩
theorem lw_p12 : lw_okq (⟨"FibreBenchModel", "placeOf", "(I)I"⟩, 25) := ⟨⟨by decide +kernel, by decide +kernel⟩, List.mem_of_getElem? (i := 771) (by decide +kernel), List.mem_of_getElem? (i := 885) (by decide +kernel), List.mem_of_getElem? (i := 886) (by decide +kernel)⟩
theorem lw_p13 : lw_okq (⟨"FibreBenchModel", "isJoint", "(I)Z"⟩, 25) := ⟨⟨by decide +kernel, by decide +kernel⟩, List.mem_of_getElem? (i := 771) (by decide +kernel), List.mem_of_getElem? (i := 898) (by decide +kernel), List.mem_of_getElem? (i := 899) (by decide +kernel)⟩
theorem lw_p14 : lw_okq (⟨"FibreBenchModel", "isBend", "(I)Z"⟩, 25) := ⟨⟨by decide +kernel, by decide +kernel⟩, List.mem_of_getElem? (i := 771) (by decide +kernel), List.mem_of_getElem? (i := 911) (by decide +kernel), List.mem_of_getElem? (i := 912) (by decide +kernel)⟩
theorem lw_p15 : lw_okq (⟨"FibreBenchModel", "layLosses", "(I)V"⟩, 25) := ⟨⟨by decide +kernel, by decide +kernel⟩, List.mem_of_getElem? (i := 771) (by decide +kernel), List.mem_of_getElem? (i := 951) (by decide +kernel), List.mem_of_getElem? (i := 952) (by decide +kernel)⟩
def lw_privs_1 : List (MethodName × Nat) := [(⟨"FibreBench", "recordChange", "()V"⟩, 9), (⟨"FibreBench", "viewOf", "(I)LFibreBench$View;"⟩, 9), (⟨"FibreBench", "traceOf", "(II)LFibreBench$Trace;"⟩, 9), (⟨"FibreBench", "stitchedAt", "(II)I"⟩, 9), (⟨"FibreBench", "eventsOf", "(II)LFibreBench$EventList;"⟩, 9), (⟨"FibreBench", "joinSides", "(LFibreBench$EventList;LFibreBench$EventList;)V"⟩, 9), (⟨"FibreBench", "routeOfEnd", "(II)I"⟩, 9), (⟨"FibreBenchModel", "renew", "(III)V"⟩, 25), (⟨"FibreBenchModel", "clearFibre", "()V"⟩, 25), (⟨"FibreBenchModel", "append", "(III)V"⟩, 25), (⟨"FibreBenchModel", "keep", "()V"⟩, 25), (⟨"FibreBenchModel", "whole", "()I"⟩, 25), (⟨"FibreBenchModel", "placeOf", "(I)I"⟩, 25), (⟨"FibreBenchModel", "isJoint", "(I)Z"⟩, 25), (⟨"FibreBenchModel", "isBend", "(I)Z"⟩, 25), (⟨"FibreBenchModel", "layLosses", "(I)V"⟩, 25)]
theorem lw_r1 : ∀ q ∈ lw_privs_1, lw_okq q := List.forall_mem_cons.mpr ⟨lw_p0, List.forall_mem_cons.mpr ⟨lw_p1, List.forall_mem_cons.mpr ⟨lw_p2, List.forall_mem_cons.mpr ⟨lw_p3, List.forall_mem_cons.mpr ⟨lw_p4, List.forall_mem_cons.mpr ⟨lw_p5, List.forall_mem_cons.mpr ⟨lw_p6, List.forall_mem_cons.mpr ⟨lw_p7, List.forall_mem_cons.mpr ⟨lw_p8, List.forall_mem_cons.mpr ⟨lw_p9, List.forall_mem_cons.mpr ⟨lw_p10, List.forall_mem_cons.mpr ⟨lw_p11, List.forall_mem_cons.mpr ⟨lw_p12, List.forall_mem_cons.mpr ⟨lw_p13, List.forall_mem_cons.mpr ⟨lw_p14, List.forall_mem_cons.mpr ⟨lw_p15, fun _ h => absurd h List.not_mem_nil⟩⟩⟩⟩⟩⟩⟩⟩⟩⟩⟩⟩⟩⟩⟩⟩
theorem lw_p16 : lw_okq (⟨"FibreBenchModel", "sectionOf", "(II)I"⟩, 25) := ⟨⟨by decide +kernel, by decide +kernel⟩, List.mem_of_getElem? (i := 771) (by decide +kernel), List.mem_of_getElem? (i := 955) (by decide +kernel), List.mem_of_getElem? (i := 956) (by decide +kernel)⟩
theorem lw_p17 : lw_okq (⟨"FibreBenchModel", "far", "(II)I"⟩, 25) := ⟨⟨by decide +kernel, by decide +kernel⟩, List.mem_of_getElem? (i := 771) (by decide +kernel), List.mem_of_getElem? (i := 959) (by decide +kernel), List.mem_of_getElem? (i := 960) (by decide +kernel)⟩
theorem lw_p18 : lw_okq (⟨"FibreBenchModel", "layTrace", "(II)V"⟩, 25) := ⟨⟨by decide +kernel, by decide +kernel⟩, List.mem_of_getElem? (i := 771) (by decide +kernel), List.mem_of_getElem? (i := 970) (by decide +kernel), List.mem_of_getElem? (i := 971) (by decide +kernel)⟩
theorem lw_p19 : lw_okq (⟨"FibreBenchModel", "layReflectors", "(II)V"⟩, 25) := ⟨⟨by decide +kernel, by decide +kernel⟩, List.mem_of_getElem? (i := 771) (by decide +kernel), List.mem_of_getElem? (i := 974) (by decide +kernel), List.mem_of_getElem? (i := 975) (by decide +kernel)⟩
theorem lw_p20 : lw_okq (⟨"FibreBenchModel", "reflect", "(II)V"⟩, 25) := ⟨⟨by decide +kernel, by decide +kernel⟩, List.mem_of_getElem? (i := 771) (by decide +kernel), List.mem_of_getElem? (i := 978) (by decide +kernel), List.mem_of_getElem? (i := 979) (by decide +kernel)⟩
theorem lw_p21 : lw_okq (⟨"FibreBenchModel", "scattered", "(II)I"⟩, 25) := ⟨⟨by decide +kernel, by decide +kernel⟩, List.mem_of_getElem? (i := 771) (by decide +kernel), List.mem_of_getElem? (i := 982) (by decide +kernel), List.mem_of_getElem? (i := 983) (by decide +kernel)⟩
theorem lw_p22 : lw_okq (⟨"FibreBenchModel", "raise", "(II)V"⟩, 25) := ⟨⟨by decide +kernel, by decide +kernel⟩, List.mem_of_getElem? (i := 771) (by decide +kernel), List.mem_of_getElem? (i := 986) (by decide +kernel), List.mem_of_getElem? (i := 987) (by decide +kernel)⟩
theorem lw_p23 : lw_okq (⟨"FibreBenchModel", "addReflector", "(III)V"⟩, 25) := ⟨⟨by decide +kernel, by decide +kernel⟩, List.mem_of_getElem? (i := 771) (by decide +kernel), List.mem_of_getElem? (i := 990) (by decide +kernel), List.mem_of_getElem? (i := 991) (by decide +kernel)⟩
theorem lw_p24 : lw_okq (⟨"FibreBenchModel", "before", "(II)I"⟩, 25) := ⟨⟨by decide +kernel, by decide +kernel⟩, List.mem_of_getElem? (i := 771) (by decide +kernel), List.mem_of_getElem? (i := 994) (by decide +kernel), List.mem_of_getElem? (i := 995) (by decide +kernel)⟩
theorem lw_p25 : lw_okq (⟨"FibreBenchModel", "addGhost", "(III)V"⟩, 25) := ⟨⟨by decide +kernel, by decide +kernel⟩, List.mem_of_getElem? (i := 771) (by decide +kernel), List.mem_of_getElem? (i := 998) (by decide +kernel), List.mem_of_getElem? (i := 999) (by decide +kernel)⟩
theorem lw_p26 : lw_okq (⟨"FibreBenchModel", "layStitches", "(I)V"⟩, 25) := ⟨⟨by decide +kernel, by decide +kernel⟩, List.mem_of_getElem? (i := 771) (by decide +kernel), List.mem_of_getElem? (i := 1015) (by decide +kernel), List.mem_of_getElem? (i := 1016) (by decide +kernel)⟩
theorem lw_p27 : lw_okq (⟨"FibreBenchModel", "stitch", "(II)V"⟩, 25) := ⟨⟨by decide +kernel, by decide +kernel⟩, List.mem_of_getElem? (i := 771) (by decide +kernel), List.mem_of_getElem? (i := 1019) (by decide +kernel), List.mem_of_getElem? (i := 1020) (by decide +kernel)⟩
theorem lw_p28 : lw_okq (⟨"FibreBenchModel", "layEvents", "(II)V"⟩, 25) := ⟨⟨by decide +kernel, by decide +kernel⟩, List.mem_of_getElem? (i := 771) (by decide +kernel), List.mem_of_getElem? (i := 1031) (by decide +kernel), List.mem_of_getElem? (i := 1032) (by decide +kernel)⟩
theorem lw_p29 : lw_okq (⟨"FibreBenchModel", "addEvents", "(II)V"⟩, 25) := ⟨⟨by decide +kernel, by decide +kernel⟩, List.mem_of_getElem? (i := 771) (by decide +kernel), List.mem_of_getElem? (i := 1035) (by decide +kernel), List.mem_of_getElem? (i := 1036) (by decide +kernel)⟩
theorem lw_p30 : lw_okq (⟨"FibreBenchModel", "isMarked", "(I)Z"⟩, 25) := ⟨⟨by decide +kernel, by decide +kernel⟩, List.mem_of_getElem? (i := 771) (by decide +kernel), List.mem_of_getElem? (i := 1039) (by decide +kernel), List.mem_of_getElem? (i := 1040) (by decide +kernel)⟩
theorem lw_p31 : lw_okq (⟨"FibreBenchModel", "deviation", "(I)I"⟩, 25) := ⟨⟨by decide +kernel, by decide +kernel⟩, List.mem_of_getElem? (i := 771) (by decide +kernel), List.mem_of_getElem? (i := 1043) (by decide +kernel), List.mem_of_getElem? (i := 1044) (by decide +kernel)⟩
def lw_privs_2 : List (MethodName × Nat) := [(⟨"FibreBenchModel", "sectionOf", "(II)I"⟩, 25), (⟨"FibreBenchModel", "far", "(II)I"⟩, 25), (⟨"FibreBenchModel", "layTrace", "(II)V"⟩, 25), (⟨"FibreBenchModel", "layReflectors", "(II)V"⟩, 25), (⟨"FibreBenchModel", "reflect", "(II)V"⟩, 25), (⟨"FibreBenchModel", "scattered", "(II)I"⟩, 25), (⟨"FibreBenchModel", "raise", "(II)V"⟩, 25), (⟨"FibreBenchModel", "addReflector", "(III)V"⟩, 25), (⟨"FibreBenchModel", "before", "(II)I"⟩, 25), (⟨"FibreBenchModel", "addGhost", "(III)V"⟩, 25), (⟨"FibreBenchModel", "layStitches", "(I)V"⟩, 25), (⟨"FibreBenchModel", "stitch", "(II)V"⟩, 25), (⟨"FibreBenchModel", "layEvents", "(II)V"⟩, 25), (⟨"FibreBenchModel", "addEvents", "(II)V"⟩, 25), (⟨"FibreBenchModel", "isMarked", "(I)Z"⟩, 25), (⟨"FibreBenchModel", "deviation", "(I)I"⟩, 25)]
theorem lw_r2 : ∀ q ∈ lw_privs_2, lw_okq q := List.forall_mem_cons.mpr ⟨lw_p16, List.forall_mem_cons.mpr ⟨lw_p17, List.forall_mem_cons.mpr ⟨lw_p18, List.forall_mem_cons.mpr ⟨lw_p19, List.forall_mem_cons.mpr ⟨lw_p20, List.forall_mem_cons.mpr ⟨lw_p21, List.forall_mem_cons.mpr ⟨lw_p22, List.forall_mem_cons.mpr ⟨lw_p23, List.forall_mem_cons.mpr ⟨lw_p24, List.forall_mem_cons.mpr ⟨lw_p25, List.forall_mem_cons.mpr ⟨lw_p26, List.forall_mem_cons.mpr ⟨lw_p27, List.forall_mem_cons.mpr ⟨lw_p28, List.forall_mem_cons.mpr ⟨lw_p29, List.forall_mem_cons.mpr ⟨lw_p30, List.forall_mem_cons.mpr ⟨lw_p31, fun _ h => absurd h List.not_mem_nil⟩⟩⟩⟩⟩⟩⟩⟩⟩⟩⟩⟩⟩⟩⟩⟩
theorem lw_p32 : lw_okq (⟨"FibreBenchModel", "addEvent", "(II)V"⟩, 25) := ⟨⟨by decide +kernel, by decide +kernel⟩, List.mem_of_getElem? (i := 771) (by decide +kernel), List.mem_of_getElem? (i := 1047) (by decide +kernel), List.mem_of_getElem? (i := 1048) (by decide +kernel)⟩
theorem lw_p33 : lw_okq (⟨"FibreBenchModel", "name", "(II)V"⟩, 25) := ⟨⟨by decide +kernel, by decide +kernel⟩, List.mem_of_getElem? (i := 771) (by decide +kernel), List.mem_of_getElem? (i := 1051) (by decide +kernel), List.mem_of_getElem? (i := 1052) (by decide +kernel)⟩
theorem lw_p34 : lw_okq (⟨"FibreBenchModel", "of", "(II)I"⟩, 25) := ⟨⟨by decide +kernel, by decide +kernel⟩, List.mem_of_getElem? (i := 771) (by decide +kernel), List.mem_of_getElem? (i := 1055) (by decide +kernel), List.mem_of_getElem? (i := 1056) (by decide +kernel)⟩
theorem lw_p35 : lw_okq (⟨"FibreBenchModel", "firstEnd", "(II)I"⟩, 25) := ⟨⟨by decide +kernel, by decide +kernel⟩, List.mem_of_getElem? (i := 771) (by decide +kernel), List.mem_of_getElem? (i := 1071) (by decide +kernel), List.mem_of_getElem? (i := 1072) (by decide +kernel)⟩
theorem lw_p36 : lw_okq (⟨"FibreBenchModel", "layJoins", "(I)V"⟩, 25) := ⟨⟨by decide +kernel, by decide +kernel⟩, List.mem_of_getElem? (i := 771) (by decide +kernel), List.mem_of_getElem? (i := 1079) (by decide +kernel), List.mem_of_getElem? (i := 1080) (by decide +kernel)⟩
theorem lw_p37 : lw_okq (⟨"FibreBenchModel", "reach", "(I)I"⟩, 25) := ⟨⟨by decide +kernel, by decide +kernel⟩, List.mem_of_getElem? (i := 771) (by decide +kernel), List.mem_of_getElem? (i := 1103) (by decide +kernel), List.mem_of_getElem? (i := 1104) (by decide +kernel)⟩
theorem lw_p38 : lw_okq (⟨"FibreBenchModel", "onRoute", "(I)I"⟩, 25) := ⟨⟨by decide +kernel, by decide +kernel⟩, List.mem_of_getElem? (i := 771) (by decide +kernel), List.mem_of_getElem? (i := 1111) (by decide +kernel), List.mem_of_getElem? (i := 1112) (by decide +kernel)⟩
theorem lw_p39 : lw_okq (⟨"FibreBenchModel", "readAll", "()V"⟩, 25) := ⟨⟨by decide +kernel, by decide +kernel⟩, List.mem_of_getElem? (i := 771) (by decide +kernel), List.mem_of_getElem? (i := 1135) (by decide +kernel), List.mem_of_getElem? (i := 1136) (by decide +kernel)⟩
theorem lw_p40 : lw_okq (⟨"FibreBenchModel", "isWrong", "()Z"⟩, 25) := ⟨⟨by decide +kernel, by decide +kernel⟩, List.mem_of_getElem? (i := 771) (by decide +kernel), List.mem_of_getElem? (i := 1139) (by decide +kernel), List.mem_of_getElem? (i := 1140) (by decide +kernel)⟩
theorem lw_p41 : lw_okq (⟨"FibreBenchModel", "readItem", "(I)V"⟩, 25) := ⟨⟨by decide +kernel, by decide +kernel⟩, List.mem_of_getElem? (i := 771) (by decide +kernel), List.mem_of_getElem? (i := 1143) (by decide +kernel), List.mem_of_getElem? (i := 1144) (by decide +kernel)⟩
theorem lw_p42 : lw_okq (⟨"FibreBenchModel", "isDigit", "()Z"⟩, 25) := ⟨⟨by decide +kernel, by decide +kernel⟩, List.mem_of_getElem? (i := 771) (by decide +kernel), List.mem_of_getElem? (i := 1147) (by decide +kernel), List.mem_of_getElem? (i := 1148) (by decide +kernel)⟩
theorem lw_p43 : lw_okq (⟨"FibreBenchModel", "fails", "(II)V"⟩, 25) := ⟨⟨by decide +kernel, by decide +kernel⟩, List.mem_of_getElem? (i := 771) (by decide +kernel), List.mem_of_getElem? (i := 1151) (by decide +kernel), List.mem_of_getElem? (i := 1152) (by decide +kernel)⟩
theorem lw_p44 : lw_okq (⟨"FibreBenchModel", "readNumber", "(II)I"⟩, 25) := ⟨⟨by decide +kernel, by decide +kernel⟩, List.mem_of_getElem? (i := 771) (by decide +kernel), List.mem_of_getElem? (i := 1155) (by decide +kernel), List.mem_of_getElem? (i := 1156) (by decide +kernel)⟩
theorem lw_p45 : lw_okq (⟨"FibreBenchModel", "want", "(I)V"⟩, 25) := ⟨⟨by decide +kernel, by decide +kernel⟩, List.mem_of_getElem? (i := 771) (by decide +kernel), List.mem_of_getElem? (i := 1159) (by decide +kernel), List.mem_of_getElem? (i := 1160) (by decide +kernel)⟩
def lw_privs_3 : List (MethodName × Nat) := [(⟨"FibreBenchModel", "addEvent", "(II)V"⟩, 25), (⟨"FibreBenchModel", "name", "(II)V"⟩, 25), (⟨"FibreBenchModel", "of", "(II)I"⟩, 25), (⟨"FibreBenchModel", "firstEnd", "(II)I"⟩, 25), (⟨"FibreBenchModel", "layJoins", "(I)V"⟩, 25), (⟨"FibreBenchModel", "reach", "(I)I"⟩, 25), (⟨"FibreBenchModel", "onRoute", "(I)I"⟩, 25), (⟨"FibreBenchModel", "readAll", "()V"⟩, 25), (⟨"FibreBenchModel", "isWrong", "()Z"⟩, 25), (⟨"FibreBenchModel", "readItem", "(I)V"⟩, 25), (⟨"FibreBenchModel", "isDigit", "()Z"⟩, 25), (⟨"FibreBenchModel", "fails", "(II)V"⟩, 25), (⟨"FibreBenchModel", "readNumber", "(II)I"⟩, 25), (⟨"FibreBenchModel", "want", "(I)V"⟩, 25)]
theorem lw_r3 : ∀ q ∈ lw_privs_3, lw_okq q := List.forall_mem_cons.mpr ⟨lw_p32, List.forall_mem_cons.mpr ⟨lw_p33, List.forall_mem_cons.mpr ⟨lw_p34, List.forall_mem_cons.mpr ⟨lw_p35, List.forall_mem_cons.mpr ⟨lw_p36, List.forall_mem_cons.mpr ⟨lw_p37, List.forall_mem_cons.mpr ⟨lw_p38, List.forall_mem_cons.mpr ⟨lw_p39, List.forall_mem_cons.mpr ⟨lw_p40, List.forall_mem_cons.mpr ⟨lw_p41, List.forall_mem_cons.mpr ⟨lw_p42, List.forall_mem_cons.mpr ⟨lw_p43, List.forall_mem_cons.mpr ⟨lw_p44, List.forall_mem_cons.mpr ⟨lw_p45, fun _ h => absurd h List.not_mem_nil⟩⟩⟩⟩⟩⟩⟩⟩⟩⟩⟩⟩⟩⟩
def lw_privs : List (MethodName × Nat) := lw_privs_1 ++ (lw_privs_2 ++ (lw_privs_3))
def lw_tbl : List Cond := k2_sels lw_privs ++ tables_1
theorem lw_privs_ok : ∀ q ∈ lw_privs, lw_okq q := by
  show ∀ q ∈ lw_privs_1 ++ (lw_privs_2 ++ (lw_privs_3)), lw_okq q
  exact List.forall_mem_append.mpr ⟨lw_r1, List.forall_mem_append.mpr ⟨lw_r2, lw_r3⟩⟩
/-- the streams that the claim lets the run draw from -/
abbrev lw_cs : List Choice := [Jvm.Choice.named "NaN.bits"]
theorem lw_bits : nanBits ∈ lw_cs := by first | decide | exact List.mem_cons_self | simp [lw_cs, nanBits]
end
section
def RX0 : String := "FibreBench$CableMap"
def TX0 : u_T := fun k => match k with
  | 0 => ("FibreBench$CableMap", "positions", "[I", true)
  | 1 => ("FibreBench$CableMap", "slacks", "[I", true)
  | 2 => ("FibreBench$CableMap", "points", "I", false)
  | _ => ("FibreBench$CableMap", "excess", "I", false)
def tyX0 : Nat → FieldType := fun k => match k with
  | 0 => .array .int
  | 1 => .array .int
  | 2 => .int
  | _ => .int
abbrev wsX00 : List Cond := u_ws RX0 TX0 4
theorem nmX0 : ∀ a, a < 4 → ∀ b, b < 4 → a ≠ b → (TX0 a).2.1 ≠ (TX0 b).2.1 := by decide +kernel
theorem tyX0_ok : ∀ k, k < 4 → parseFieldDescriptor (TX0 k).2.2.1 = some (tyX0 k) := by decide +kernel
abbrev cX0_init : ByteArray := prog_2_method_1_code
def yX0_init : MethodName := ⟨RX0, "<init>", "()V"⟩
abbrev cX0_copyFrom : ByteArray := prog_2_method_2_code
def yX0_copyFrom : MethodName := ⟨RX0, "copyFrom", "(LFibreBench$CableMap;)V"⟩
abbrev cX0_append : ByteArray := prog_2_method_3_code
def yX0_append : MethodName := ⟨RX0, "append", "(II)V"⟩
abbrev cX0_runAfter : ByteArray := prog_2_method_4_code
def yX0_runAfter : MethodName := ⟨RX0, "runAfter", "(I)I"⟩
abbrev cX0_reachOf : ByteArray := prog_2_method_5_code
def yX0_reachOf : MethodName := ⟨RX0, "reachOf", "(I)I"⟩
abbrev cX0_routeOf : ByteArray := prog_2_method_6_code
def yX0_routeOf : MethodName := ⟨RX0, "routeOf", "(I)I"⟩
abbrev cX0_lastReached : ByteArray := prog_2_method_7_code
def yX0_lastReached : MethodName := ⟨RX0, "lastReached", "(I)I"⟩
def RX1 : String := "FibreBench$EventList"
def TX1 : u_T := fun k => match k with
  | 0 => ("FibreBench$EventList", "starts", "[I", true)
  | 1 => ("FibreBench$EventList", "stops", "[I", true)
  | 2 => ("FibreBench$EventList", "kinds", "[I", true)
  | 3 => ("FibreBench$EventList", "losses", "[I", true)
  | 4 => ("FibreBench$EventList", "rises", "[I", true)
  | 5 => ("FibreBench$EventList", "bounces", "[Z", true)
  | 6 => ("FibreBench$EventList", "count", "I", false)
  | 7 => ("FibreBench$EventList", "width", "I", false)
  | _ => ("FibreBench$EventList", "madeAt", "I", false)
def tyX1 : Nat → FieldType := fun k => match k with
  | 0 => .array .int
  | 1 => .array .int
  | 2 => .array .int
  | 3 => .array .int
  | 4 => .array .int
  | 5 => .array .boolean
  | 6 => .int
  | 7 => .int
  | _ => .int
abbrev wsX10 : List Cond := u_ws RX1 TX1 9
theorem nmX1 : ∀ a, a < 9 → ∀ b, b < 9 → a ≠ b → (TX1 a).2.1 ≠ (TX1 b).2.1 := by decide +kernel
theorem tyX1_ok : ∀ k, k < 9 → parseFieldDescriptor (TX1 k).2.2.1 = some (tyX1 k) := by decide +kernel
abbrev cX1_init : ByteArray := prog_3_method_1_code
def yX1_init : MethodName := ⟨RX1, "<init>", "()V"⟩
abbrev cX1_find : ByteArray := prog_3_method_2_code
def yX1_find : MethodName := ⟨RX1, "find", "(LFibreBench$Trace;II)V"⟩
abbrev cX1_deviation : ByteArray := prog_3_method_3_code
def yX1_deviation : MethodName := ⟨RX1, "deviation", "(LFibreBench$Trace;II)I"⟩
abbrev cX1_isMarked : ByteArray := prog_3_method_4_code
def yX1_isMarked : MethodName := ⟨RX1, "isMarked", "(LFibreBench$Trace;III)Z"⟩
abbrev cX1_keep : ByteArray := prog_3_method_5_code
def yX1_keep : MethodName := ⟨RX1, "keep", "(LFibreBench$Trace;III)V"⟩
abbrev cX1_startOf : ByteArray := prog_3_method_6_code
def yX1_startOf : MethodName := ⟨RX1, "startOf", "(I)I"⟩
abbrev cX1_lossOf : ByteArray := prog_3_method_7_code
def yX1_lossOf : MethodName := ⟨RX1, "lossOf", "(I)I"⟩
abbrev cX1_isInside : ByteArray := prog_3_method_8_code
def yX1_isInside : MethodName := ⟨RX1, "isInside", "(I)Z"⟩
abbrev cX1_bouncesFrom : ByteArray := prog_3_method_9_code
def yX1_bouncesFrom : MethodName := ⟨RX1, "bouncesFrom", "(I)Z"⟩
abbrev cX1_ghostMirror : ByteArray := prog_3_method_10_code
def yX1_ghostMirror : MethodName := ⟨RX1, "ghostMirror", "(I)I"⟩
abbrev cX1_ghostOrigin : ByteArray := prog_3_method_11_code
def yX1_ghostOrigin : MethodName := ⟨RX1, "ghostOrigin", "(I)I"⟩
abbrev cX1_firstEnd : ByteArray := prog_3_method_12_code
def yX1_firstEnd : MethodName := ⟨RX1, "firstEnd", "()I"⟩
def RX2 : String := "FibreBench$Fibre"
def TX2 : u_T := fun k => match k with
  | 0 => ("FibreBench$Fibre", "lengths", "[I", true)
  | 1 => ("FibreBench$Fibre", "attenuations", "[I", true)
  | 2 => ("FibreBench$Fibre", "scatters", "[I", true)
  | 3 => ("FibreBench$Fibre", "sections", "I", false)
  | 4 => ("FibreBench$Fibre", "jointLosses", "[I", true)
  | 5 => ("FibreBench$Fibre", "jointHeights", "[I", true)
  | 6 => ("FibreBench$Fibre", "bendPlaces", "[I", true)
  | 7 => ("FibreBench$Fibre", "bendLosses", "[I", true)
  | 8 => ("FibreBench$Fibre", "bends", "I", false)
  | 9 => ("FibreBench$Fibre", "breakPlace", "I", false)
  | _ => ("FibreBench$Fibre", "breakHeight", "I", false)
def tyX2 : Nat → FieldType := fun k => match k with
  | 0 => .array .int
  | 1 => .array .int
  | 2 => .array .int
  | 3 => .int
  | 4 => .array .int
  | 5 => .array .int
  | 6 => .array .int
  | 7 => .array .int
  | 8 => .int
  | 9 => .int
  | _ => .int
abbrev wsX20 : List Cond := u_ws RX2 TX2 11
theorem nmX2 : ∀ a, a < 11 → ∀ b, b < 11 → a ≠ b → (TX2 a).2.1 ≠ (TX2 b).2.1 := by decide +kernel
theorem tyX2_ok : ∀ k, k < 11 → parseFieldDescriptor (TX2 k).2.2.1 = some (tyX2 k) := by decide +kernel
abbrev cX2_init : ByteArray := prog_4_method_1_code
def yX2_init : MethodName := ⟨RX2, "<init>", "()V"⟩
abbrev cX2_copyFrom : ByteArray := prog_4_method_2_code
def yX2_copyFrom : MethodName := ⟨RX2, "copyFrom", "(LFibreBench$Fibre;)V"⟩
abbrev cX2_clear : ByteArray := prog_4_method_3_code
def yX2_clear : MethodName := ⟨RX2, "clear", "()V"⟩
abbrev cX2_append : ByteArray := prog_4_method_4_code
def yX2_append : MethodName := ⟨RX2, "append", "(III)V"⟩
abbrev cX2_appendBend : ByteArray := prog_4_method_5_code
def yX2_appendBend : MethodName := ⟨RX2, "appendBend", "(II)V"⟩
abbrev cX2_dropBend : ByteArray := prog_4_method_6_code
def yX2_dropBend : MethodName := ⟨RX2, "dropBend", "(I)V"⟩
abbrev cX2_placeOfJoint : ByteArray := prog_4_method_7_code
def yX2_placeOfJoint : MethodName := ⟨RX2, "placeOfJoint", "(I)I"⟩
abbrev cX2_totalLength : ByteArray := prog_4_method_8_code
def yX2_totalLength : MethodName := ⟨RX2, "totalLength", "()I"⟩
def RX3 : String := "FibreBench$History"
def TX3 : u_T := fun k => match k with
  | 0 => ("FibreBench$History", "states", "[LFibreBench$State;", true)
  | 1 => ("FibreBench$History", "oldest", "I", false)
  | _ => ("FibreBench$History", "count", "I", false)
def tyX3 : Nat → FieldType := fun k => match k with
  | 0 => .array (.object "FibreBench$State")
  | 1 => .int
  | _ => .int
abbrev wsX30 : List Cond := u_ws RX3 TX3 3
theorem nmX3 : ∀ a, a < 3 → ∀ b, b < 3 → a ≠ b → (TX3 a).2.1 ≠ (TX3 b).2.1 := by decide +kernel
theorem tyX3_ok : ∀ k, k < 3 → parseFieldDescriptor (TX3 k).2.2.1 = some (tyX3 k) := by decide +kernel
abbrev cX3_init : ByteArray := prog_5_method_1_code
def yX3_init : MethodName := ⟨RX3, "<init>", "()V"⟩
abbrev cX3_keep : ByteArray := prog_5_method_2_code
def yX3_keep : MethodName := ⟨RX3, "keep", "(LFibreBench$State;)V"⟩
abbrev cX3_restoreLatest : ByteArray := prog_5_method_3_code
def yX3_restoreLatest : MethodName := ⟨RX3, "restoreLatest", "(LFibreBench$State;)V"⟩
def RX4 : String := "FibreBench$Pairing"
def TX4 : u_T := fun k => match k with
  | 0 => ("FibreBench$Pairing", "firsts", "[I", true)
  | 1 => ("FibreBench$Pairing", "seconds", "[I", true)
  | 2 => ("FibreBench$Pairing", "taken", "[Z", true)
  | _ => ("FibreBench$Pairing", "count", "I", false)
def tyX4 : Nat → FieldType := fun k => match k with
  | 0 => .array .int
  | 1 => .array .int
  | 2 => .array .boolean
  | _ => .int
abbrev wsX40 : List Cond := u_ws RX4 TX4 4
theorem nmX4 : ∀ a, a < 4 → ∀ b, b < 4 → a ≠ b → (TX4 a).2.1 ≠ (TX4 b).2.1 := by decide +kernel
theorem tyX4_ok : ∀ k, k < 4 → parseFieldDescriptor (TX4 k).2.2.1 = some (tyX4 k) := by decide +kernel
abbrev cX4_init : ByteArray := prog_6_method_1_code
def yX4_init : MethodName := ⟨RX4, "<init>", "()V"⟩
abbrev cX4_pair : ByteArray := prog_6_method_2_code
def yX4_pair : MethodName := ⟨RX4, "pair", "(LFibreBench$EventList;LFibreBench$EventList;II)V"⟩
abbrev cX4_partner : ByteArray := prog_6_method_3_code
def yX4_partner : MethodName := ⟨RX4, "partner", "(ILFibreBench$EventList;II)I"⟩
abbrev cX4_keep : ByteArray := prog_6_method_4_code
def yX4_keep : MethodName := ⟨RX4, "keep", "(II)V"⟩
def RX5 : String := "FibreBench$State"
def TX5 : u_T := fun k => match k with
  | 0 => ("FibreBench$State", "fibre", "LFibreBench$Fibre;", true)
  | 1 => ("FibreBench$State", "map", "LFibreBench$CableMap;", true)
  | _ => ("FibreBench$State", "settings", "[I", true)
def tyX5 : Nat → FieldType := fun k => match k with
  | 0 => .object "FibreBench$Fibre"
  | 1 => .object "FibreBench$CableMap"
  | _ => .array .int
abbrev wsX50 : List Cond := u_ws RX5 TX5 3
theorem nmX5 : ∀ a, a < 3 → ∀ b, b < 3 → a ≠ b → (TX5 a).2.1 ≠ (TX5 b).2.1 := by decide +kernel
theorem tyX5_ok : ∀ k, k < 3 → parseFieldDescriptor (TX5 k).2.2.1 = some (tyX5 k) := by decide +kernel
abbrev cX5_init : ByteArray := prog_7_method_1_code
def yX5_init : MethodName := ⟨RX5, "<init>", "()V"⟩
abbrev cX5_copyFrom : ByteArray := prog_7_method_2_code
def yX5_copyFrom : MethodName := ⟨RX5, "copyFrom", "(LFibreBench$State;)V"⟩
def RX6 : String := "FibreBench$TextReader"
def TX6 : u_T := fun k => match k with
  | 0 => ("FibreBench$TextReader", "codes", "[I", true)
  | 1 => ("FibreBench$TextReader", "count", "I", false)
  | 2 => ("FibreBench$TextReader", "faultKind", "I", false)
  | 3 => ("FibreBench$TextReader", "faultPlace", "I", false)
  | _ => ("FibreBench$TextReader", "next", "I", false)
def tyX6 : Nat → FieldType := fun k => match k with
  | 0 => .array .int
  | 1 => .int
  | 2 => .int
  | 3 => .int
  | _ => .int
abbrev wsX60 : List Cond := u_ws RX6 TX6 5
theorem nmX6 : ∀ a, a < 5 → ∀ b, b < 5 → a ≠ b → (TX6 a).2.1 ≠ (TX6 b).2.1 := by decide +kernel
theorem tyX6_ok : ∀ k, k < 5 → parseFieldDescriptor (TX6 k).2.2.1 = some (tyX6 k) := by decide +kernel
abbrev cX6_init : ByteArray := prog_8_method_1_code
def yX6_init : MethodName := ⟨RX6, "<init>", "()V"⟩
abbrev cX6_append : ByteArray := prog_8_method_2_code
def yX6_append : MethodName := ⟨RX6, "append", "(I)V"⟩
abbrev cX6_readInto : ByteArray := prog_8_method_3_code
def yX6_readInto : MethodName := ⟨RX6, "readInto", "(LFibreBench$Fibre;)Z"⟩
abbrev cX6_readItem : ByteArray := prog_8_method_4_code
def yX6_readItem : MethodName := ⟨RX6, "readItem", "(LFibreBench$Fibre;)Z"⟩
abbrev cX6_readNumber : ByteArray := prog_8_method_5_code
def yX6_readNumber : MethodName := ⟨RX6, "readNumber", "(II)I"⟩
abbrev cX6_readSign : ByteArray := prog_8_method_6_code
def yX6_readSign : MethodName := ⟨RX6, "readSign", "(C)Z"⟩
abbrev cX6_codeAt : ByteArray := prog_8_method_7_code
def yX6_codeAt : MethodName := ⟨RX6, "codeAt", "(I)I"⟩
abbrev cX6_isDigit : ByteArray := prog_8_method_8_code
def yX6_isDigit : MethodName := ⟨RX6, "isDigit", "(I)Z"⟩
abbrev cX6_blame : ByteArray := prog_8_method_9_code
def yX6_blame : MethodName := ⟨RX6, "blame", "(II)V"⟩
def RX7 : String := "FibreBench$Trace"
def TX7 : u_T := fun k => match k with
  | 0 => ("FibreBench$Trace", "samples", "[I", true)
  | 1 => ("FibreBench$Trace", "width", "I", false)
  | _ => ("FibreBench$Trace", "madeAt", "I", false)
def tyX7 : Nat → FieldType := fun k => match k with
  | 0 => .array .int
  | 1 => .int
  | _ => .int
abbrev wsX70 : List Cond := u_ws RX7 TX7 3
theorem nmX7 : ∀ a, a < 3 → ∀ b, b < 3 → a ≠ b → (TX7 a).2.1 ≠ (TX7 b).2.1 := by decide +kernel
theorem tyX7_ok : ∀ k, k < 3 → parseFieldDescriptor (TX7 k).2.2.1 = some (tyX7 k) := by decide +kernel
abbrev cX7_init : ByteArray := prog_9_method_1_code
def yX7_init : MethodName := ⟨RX7, "<init>", "()V"⟩
abbrev cX7_at : ByteArray := prog_9_method_2_code
def yX7_at : MethodName := ⟨RX7, "at", "(I)I"⟩
abbrev cX7_compute : ByteArray := prog_9_method_3_code
def yX7_compute : MethodName := ⟨RX7, "compute", "(LFibreBench$View;I)V"⟩
abbrev cX7_levelBefore : ByteArray := prog_9_method_4_code
def yX7_levelBefore : MethodName := ⟨RX7, "levelBefore", "(LFibreBench$View;I)I"⟩
abbrev cX7_raiseTo : ByteArray := prog_9_method_5_code
def yX7_raiseTo : MethodName := ⟨RX7, "raiseTo", "(II)V"⟩
abbrev cX7_addReflection : ByteArray := prog_9_method_6_code
def yX7_addReflection : MethodName := ⟨RX7, "addReflection", "(LFibreBench$View;I)V"⟩
abbrev cX7_addGhost : ByteArray := prog_9_method_7_code
def yX7_addGhost : MethodName := ⟨RX7, "addGhost", "(LFibreBench$View;II)V"⟩
def RX8 : String := "FibreBench$View"
def TX8 : u_T := fun k => match k with
  | 0 => ("FibreBench$View", "losses", "[I", true)
  | 1 => ("FibreBench$View", "levels", "[I", true)
  | 2 => ("FibreBench$View", "reflectorDistances", "[I", true)
  | 3 => ("FibreBench$View", "reflectorHeights", "[I", true)
  | 4 => ("FibreBench$View", "reflectors", "I", false)
  | 5 => ("FibreBench$View", "side", "I", false)
  | 6 => ("FibreBench$View", "length", "I", false)
  | 7 => ("FibreBench$View", "end", "I", false)
  | _ => ("FibreBench$View", "madeAt", "I", false)
def tyX8 : Nat → FieldType := fun k => match k with
  | 0 => .array .int
  | 1 => .array .int
  | 2 => .array .int
  | 3 => .array .int
  | 4 => .int
  | 5 => .int
  | 6 => .int
  | 7 => .int
  | _ => .int
abbrev wsX80 : List Cond := u_ws RX8 TX8 9
theorem nmX8 : ∀ a, a < 9 → ∀ b, b < 9 → a ≠ b → (TX8 a).2.1 ≠ (TX8 b).2.1 := by decide +kernel
theorem tyX8_ok : ∀ k, k < 9 → parseFieldDescriptor (TX8 k).2.2.1 = some (tyX8 k) := by decide +kernel
abbrev cX8_init : ByteArray := prog_10_method_1_code
def yX8_init : MethodName := ⟨RX8, "<init>", "()V"⟩
abbrev cX8_look : ByteArray := prog_10_method_2_code
def yX8_look : MethodName := ⟨RX8, "look", "(LFibreBench$Fibre;I)V"⟩
abbrev cX8_distanceOf : ByteArray := prog_10_method_3_code
def yX8_distanceOf : MethodName := ⟨RX8, "distanceOf", "(I)I"⟩
abbrev cX8_lookAtUnits : ByteArray := prog_10_method_4_code
def yX8_lookAtUnits : MethodName := ⟨RX8, "lookAtUnits", "(LFibreBench$Fibre;)V"⟩
abbrev cX8_lookAtBends : ByteArray := prog_10_method_5_code
def yX8_lookAtBends : MethodName := ⟨RX8, "lookAtBends", "(LFibreBench$Fibre;)V"⟩
abbrev cX8_lookAtJoints : ByteArray := prog_10_method_6_code
def yX8_lookAtJoints : MethodName := ⟨RX8, "lookAtJoints", "(LFibreBench$Fibre;)V"⟩
abbrev cX8_addReflector : ByteArray := prog_10_method_7_code
def yX8_addReflector : MethodName := ⟨RX8, "addReflector", "(II)V"⟩
abbrev cX8_lossUpTo : ByteArray := prog_10_method_8_code
def yX8_lossUpTo : MethodName := ⟨RX8, "lossUpTo", "(I)I"⟩
abbrev cX8_levelAt : ByteArray := prog_10_method_9_code
def yX8_levelAt : MethodName := ⟨RX8, "levelAt", "(I)I"⟩
def RX9 : String := "FibreBench"
def TX9 : u_T := fun k => match k with
  | 0 => ("FibreBench", "now", "LFibreBench$State;", true)
  | 1 => ("FibreBench", "history", "LFibreBench$History;", true)
  | 2 => ("FibreBench", "draft", "LFibreBench$Fibre;", true)
  | 3 => ("FibreBench", "text", "LFibreBench$TextReader;", true)
  | 4 => ("FibreBench", "views", "[LFibreBench$View;", true)
  | 5 => ("FibreBench", "traces", "[LFibreBench$Trace;", true)
  | 6 => ("FibreBench", "eventLists", "[LFibreBench$EventList;", true)
  | 7 => ("FibreBench", "pairing", "LFibreBench$Pairing;", true)
  | _ => ("FibreBench", "version", "I", false)
def tyX9 : Nat → FieldType := fun k => match k with
  | 0 => .object "FibreBench$State"
  | 1 => .object "FibreBench$History"
  | 2 => .object "FibreBench$Fibre"
  | 3 => .object "FibreBench$TextReader"
  | 4 => .array (.object "FibreBench$View")
  | 5 => .array (.object "FibreBench$Trace")
  | 6 => .array (.object "FibreBench$EventList")
  | 7 => .object "FibreBench$Pairing"
  | _ => .int
abbrev wsX90 : List Cond := u_ws RX9 TX9 9
theorem nmX9 : ∀ a, a < 9 → ∀ b, b < 9 → a ≠ b → (TX9 a).2.1 ≠ (TX9 b).2.1 := by decide +kernel
theorem tyX9_ok : ∀ k, k < 9 → parseFieldDescriptor (TX9 k).2.2.1 = some (tyX9 k) := by decide +kernel
abbrev cX9_init : ByteArray := prog_1_method_1_code
def yX9_init : MethodName := ⟨RX9, "<init>", "()V"⟩
abbrev cX9_begin : ByteArray := prog_1_method_2_code
def yX9_begin : MethodName := ⟨RX9, "begin", "(III)I"⟩
abbrev cX9_addSection : ByteArray := prog_1_method_3_code
def yX9_addSection : MethodName := ⟨RX9, "addSection", "(III)I"⟩
abbrev cX9_setJoint : ByteArray := prog_1_method_4_code
def yX9_setJoint : MethodName := ⟨RX9, "setJoint", "(III)I"⟩
abbrev cX9_addBend : ByteArray := prog_1_method_5_code
def yX9_addBend : MethodName := ⟨RX9, "addBend", "(II)I"⟩
abbrev cX9_removeBend : ByteArray := prog_1_method_6_code
def yX9_removeBend : MethodName := ⟨RX9, "removeBend", "(I)I"⟩
abbrev cX9_setBreak : ByteArray := prog_1_method_7_code
def yX9_setBreak : MethodName := ⟨RX9, "setBreak", "(II)I"⟩
abbrev cX9_set : ByteArray := prog_1_method_8_code
def yX9_set : MethodName := ⟨RX9, "set", "(II)I"⟩
abbrev cX9_undo : ByteArray := prog_1_method_9_code
def yX9_undo : MethodName := ⟨RX9, "undo", "()I"⟩
abbrev cX9_told : ByteArray := prog_1_method_10_code
def yX9_told : MethodName := ⟨RX9, "told", "(I)I"⟩
abbrev cX9_section : ByteArray := prog_1_method_11_code
def yX9_section : MethodName := ⟨RX9, "section", "(II)I"⟩
abbrev cX9_joint : ByteArray := prog_1_method_12_code
def yX9_joint : MethodName := ⟨RX9, "joint", "(II)I"⟩
abbrev cX9_bend : ByteArray := prog_1_method_13_code
def yX9_bend : MethodName := ⟨RX9, "bend", "(II)I"⟩
abbrev cX9_lossTo : ByteArray := prog_1_method_14_code
def yX9_lossTo : MethodName := ⟨RX9, "lossTo", "(II)I"⟩
abbrev cX9_sample : ByteArray := prog_1_method_15_code
def yX9_sample : MethodName := ⟨RX9, "sample", "(III)I"⟩
abbrev cX9_meanLoss : ByteArray := prog_1_method_16_code
def yX9_meanLoss : MethodName := ⟨RX9, "meanLoss", "(IIII)F"⟩
abbrev cX9_visible : ByteArray := prog_1_method_17_code
def yX9_visible : MethodName := ⟨RX9, "visible", "(II)I"⟩
abbrev cX9_stitched : ByteArray := prog_1_method_18_code
def yX9_stitched : MethodName := ⟨RX9, "stitched", "(II)I"⟩
abbrev cX9_stitchedCount : ByteArray := prog_1_method_19_code
def yX9_stitchedCount : MethodName := ⟨RX9, "stitchedCount", "(I)I"⟩
abbrev cX9_events : ByteArray := prog_1_method_20_code
def yX9_events : MethodName := ⟨RX9, "events", "(II)I"⟩
abbrev cX9_event : ByteArray := prog_1_method_21_code
def yX9_event : MethodName := ⟨RX9, "event", "(IIII)I"⟩
abbrev cX9_ghosts : ByteArray := prog_1_method_22_code
def yX9_ghosts : MethodName := ⟨RX9, "ghosts", "(II)I"⟩
abbrev cX9_endSeen : ByteArray := prog_1_method_23_code
def yX9_endSeen : MethodName := ⟨RX9, "endSeen", "(II)I"⟩
abbrev cX9_joinedCount : ByteArray := prog_1_method_24_code
def yX9_joinedCount : MethodName := ⟨RX9, "joinedCount", "(I)I"⟩
abbrev cX9_joined : ByteArray := prog_1_method_25_code
def yX9_joined : MethodName := ⟨RX9, "joined", "(III)I"⟩
abbrev cX9_addPoint : ByteArray := prog_1_method_26_code
def yX9_addPoint : MethodName := ⟨RX9, "addPoint", "(II)I"⟩
abbrev cX9_clearMap : ByteArray := prog_1_method_27_code
def yX9_clearMap : MethodName := ⟨RX9, "clearMap", "()I"⟩
abbrev cX9_setExcess : ByteArray := prog_1_method_28_code
def yX9_setExcess : MethodName := ⟨RX9, "setExcess", "(I)I"⟩
abbrev cX9_point : ByteArray := prog_1_method_29_code
def yX9_point : MethodName := ⟨RX9, "point", "(II)I"⟩
abbrev cX9_toRoute : ByteArray := prog_1_method_30_code
def yX9_toRoute : MethodName := ⟨RX9, "toRoute", "(I)I"⟩
abbrev cX9_pointBefore : ByteArray := prog_1_method_31_code
def yX9_pointBefore : MethodName := ⟨RX9, "pointBefore", "(I)I"⟩
abbrev cX9_placed : ByteArray := prog_1_method_32_code
def yX9_placed : MethodName := ⟨RX9, "placed", "(II)I"⟩
abbrev cX9_write : ByteArray := prog_1_method_33_code
def yX9_write : MethodName := ⟨RX9, "write", "(I)I"⟩
abbrev cX9_wipe : ByteArray := prog_1_method_34_code
def yX9_wipe : MethodName := ⟨RX9, "wipe", "()I"⟩
abbrev cX9_load : ByteArray := prog_1_method_35_code
def yX9_load : MethodName := ⟨RX9, "load", "()I"⟩
abbrev cX9_fault : ByteArray := prog_1_method_36_code
def yX9_fault : MethodName := ⟨RX9, "fault", "(I)I"⟩
abbrev cX9_isWithin : ByteArray := prog_1_method_37_code
def yX9_isWithin : MethodName := ⟨RX9, "isWithin", "(III)Z"⟩
abbrev cX9_isSide : ByteArray := prog_1_method_38_code
def yX9_isSide : MethodName := ⟨RX9, "isSide", "(I)Z"⟩
abbrev cX9_isWidth : ByteArray := prog_1_method_39_code
def yX9_isWidth : MethodName := ⟨RX9, "isWidth", "(I)Z"⟩
abbrev cX9_isDistance : ByteArray := prog_1_method_40_code
def yX9_isDistance : MethodName := ⟨RX9, "isDistance", "(I)Z"⟩
abbrev cX9_isSection : ByteArray := prog_1_method_41_code
def yX9_isSection : MethodName := ⟨RX9, "isSection", "(III)Z"⟩
abbrev cX9_copyRow : ByteArray := prog_1_method_42_code
def yX9_copyRow : MethodName := ⟨RX9, "copyRow", "([I[I)V"⟩
abbrev cX9_recordChange : ByteArray := prog_1_method_43_code
def yX9_recordChange : MethodName := ⟨RX9, "recordChange", "()V"⟩
abbrev cX9_viewOf : ByteArray := prog_1_method_44_code
def yX9_viewOf : MethodName := ⟨RX9, "viewOf", "(I)LFibreBench$View;"⟩
abbrev cX9_traceOf : ByteArray := prog_1_method_45_code
def yX9_traceOf : MethodName := ⟨RX9, "traceOf", "(II)LFibreBench$Trace;"⟩
abbrev cX9_slotOf : ByteArray := prog_1_method_46_code
def yX9_slotOf : MethodName := ⟨RX9, "slotOf", "(II)I"⟩
abbrev cX9_stitchedAt : ByteArray := prog_1_method_47_code
def yX9_stitchedAt : MethodName := ⟨RX9, "stitchedAt", "(II)I"⟩
abbrev cX9_eventsOf : ByteArray := prog_1_method_48_code
def yX9_eventsOf : MethodName := ⟨RX9, "eventsOf", "(II)LFibreBench$EventList;"⟩
abbrev cX9_joinSides : ByteArray := prog_1_method_49_code
def yX9_joinSides : MethodName := ⟨RX9, "joinSides", "(LFibreBench$EventList;LFibreBench$EventList;)V"⟩
abbrev cX9_routeOfEnd : ByteArray := prog_1_method_50_code
def yX9_routeOfEnd : MethodName := ⟨RX9, "routeOfEnd", "(II)I"⟩
def RX10 : String := "FibreBenchModel"
def TX10 : u_T := fun k => match k with
  | 0 => ("FibreBenchModel", "w", "[I", true)
  | 1 => ("FibreBenchModel", "past", "[I", true)
  | 2 => ("FibreBenchModel", "changes", "I", false)
  | 3 => ("FibreBenchModel", "laidSide", "I", false)
  | 4 => ("FibreBenchModel", "laidWidth", "I", false)
  | 5 => ("FibreBenchModel", "text", "[I", true)
  | 6 => ("FibreBenchModel", "length", "I", false)
  | 7 => ("FibreBenchModel", "faultPlace", "I", false)
  | 8 => ("FibreBenchModel", "faultKind", "I", false)
  | 9 => ("FibreBenchModel", "losses", "[I", true)
  | 10 => ("FibreBenchModel", "scatters", "[I", true)
  | 11 => ("FibreBenchModel", "reflectors", "[I", true)
  | 12 => ("FibreBenchModel", "many", "I", false)
  | 13 => ("FibreBenchModel", "trace", "[I", true)
  | 14 => ("FibreBenchModel", "stitches", "[I", true)
  | 15 => ("FibreBenchModel", "eventsOf", "[I", true)
  | 16 => ("FibreBenchModel", "events", "I", false)
  | 17 => ("FibreBenchModel", "pairs", "[I", true)
  | 18 => ("FibreBenchModel", "isTaken", "[I", true)
  | 19 => ("FibreBenchModel", "joins", "I", false)
  | 20 => ("FibreBenchModel", "at", "I", false)
  | 21 => ("FibreBenchModel", "wrongPlace", "I", false)
  | 22 => ("FibreBenchModel", "wrongKind", "I", false)
  | 23 => ("FibreBenchModel", "read", "[I", true)
  | _ => ("FibreBenchModel", "items", "I", false)
def tyX10 : Nat → FieldType := fun k => match k with
  | 0 => .array .int
  | 1 => .array .int
  | 2 => .int
  | 3 => .int
  | 4 => .int
  | 5 => .array .int
  | 6 => .int
  | 7 => .int
  | 8 => .int
  | 9 => .array .int
  | 10 => .array .int
  | 11 => .array .int
  | 12 => .int
  | 13 => .array .int
  | 14 => .array .int
  | 15 => .array .int
  | 16 => .int
  | 17 => .array .int
  | 18 => .array .int
  | 19 => .int
  | 20 => .int
  | 21 => .int
  | 22 => .int
  | 23 => .array .int
  | _ => .int
abbrev wsX100 : List Cond := u_ws RX10 TX10 25
theorem nmX10 : ∀ a, a < 25 → ∀ b, b < 25 → a ≠ b → (TX10 a).2.1 ≠ (TX10 b).2.1 := by decide +kernel
theorem tyX10_ok : ∀ k, k < 25 → parseFieldDescriptor (TX10 k).2.2.1 = some (tyX10 k) := by decide +kernel
abbrev cX10_init : ByteArray := prog_12_method_1_code
def yX10_init : MethodName := ⟨RX10, "<init>", "()V"⟩
abbrev cX10_isIn : ByteArray := prog_12_method_2_code
def yX10_isIn : MethodName := ⟨RX10, "isIn", "(III)Z"⟩
abbrev cX10_clearFibre : ByteArray := prog_12_method_3_code
def yX10_clearFibre : MethodName := ⟨RX10, "clearFibre", "()V"⟩
abbrev cX10_append : ByteArray := prog_12_method_4_code
def yX10_append : MethodName := ⟨RX10, "append", "(III)V"⟩
abbrev cX10_renew : ByteArray := prog_12_method_5_code
def yX10_renew : MethodName := ⟨RX10, "renew", "(III)V"⟩
abbrev cX10_placeOf : ByteArray := prog_12_method_6_code
def yX10_placeOf : MethodName := ⟨RX10, "placeOf", "(I)I"⟩
abbrev cX10_whole : ByteArray := prog_12_method_7_code
def yX10_whole : MethodName := ⟨RX10, "whole", "()I"⟩
abbrev cX10_keep : ByteArray := prog_12_method_8_code
def yX10_keep : MethodName := ⟨RX10, "keep", "()V"⟩
abbrev cX10_isSection : ByteArray := prog_12_method_9_code
def yX10_isSection : MethodName := ⟨RX10, "isSection", "(III)Z"⟩
abbrev cX10_begin : ByteArray := prog_12_method_10_code
def yX10_begin : MethodName := ⟨RX10, "begin", "(III)I"⟩
abbrev cX10_addSection : ByteArray := prog_12_method_11_code
def yX10_addSection : MethodName := ⟨RX10, "addSection", "(III)I"⟩
abbrev cX10_isJoint : ByteArray := prog_12_method_12_code
def yX10_isJoint : MethodName := ⟨RX10, "isJoint", "(I)Z"⟩
abbrev cX10_setJoint : ByteArray := prog_12_method_13_code
def yX10_setJoint : MethodName := ⟨RX10, "setJoint", "(III)I"⟩
abbrev cX10_addBend : ByteArray := prog_12_method_14_code
def yX10_addBend : MethodName := ⟨RX10, "addBend", "(II)I"⟩
abbrev cX10_isBend : ByteArray := prog_12_method_15_code
def yX10_isBend : MethodName := ⟨RX10, "isBend", "(I)Z"⟩
abbrev cX10_removeBend : ByteArray := prog_12_method_16_code
def yX10_removeBend : MethodName := ⟨RX10, "removeBend", "(I)I"⟩
abbrev cX10_setBreak : ByteArray := prog_12_method_17_code
def yX10_setBreak : MethodName := ⟨RX10, "setBreak", "(II)I"⟩
abbrev cX10_set : ByteArray := prog_12_method_18_code
def yX10_set : MethodName := ⟨RX10, "set", "(II)I"⟩
abbrev cX10_undo : ByteArray := prog_12_method_19_code
def yX10_undo : MethodName := ⟨RX10, "undo", "()I"⟩
abbrev cX10_told : ByteArray := prog_12_method_20_code
def yX10_told : MethodName := ⟨RX10, "told", "(I)I"⟩
abbrev cX10_section : ByteArray := prog_12_method_21_code
def yX10_section : MethodName := ⟨RX10, "section", "(II)I"⟩
abbrev cX10_joint : ByteArray := prog_12_method_22_code
def yX10_joint : MethodName := ⟨RX10, "joint", "(II)I"⟩
abbrev cX10_bend : ByteArray := prog_12_method_23_code
def yX10_bend : MethodName := ⟨RX10, "bend", "(II)I"⟩
abbrev cX10_far : ByteArray := prog_12_method_24_code
def yX10_far : MethodName := ⟨RX10, "far", "(II)I"⟩
abbrev cX10_sectionOf : ByteArray := prog_12_method_25_code
def yX10_sectionOf : MethodName := ⟨RX10, "sectionOf", "(II)I"⟩
abbrev cX10_layLosses : ByteArray := prog_12_method_26_code
def yX10_layLosses : MethodName := ⟨RX10, "layLosses", "(I)V"⟩
abbrev cX10_isSide : ByteArray := prog_12_method_27_code
def yX10_isSide : MethodName := ⟨RX10, "isSide", "(I)Z"⟩
abbrev cX10_lossTo : ByteArray := prog_12_method_28_code
def yX10_lossTo : MethodName := ⟨RX10, "lossTo", "(II)I"⟩
abbrev cX10_scattered : ByteArray := prog_12_method_29_code
def yX10_scattered : MethodName := ⟨RX10, "scattered", "(II)I"⟩
abbrev cX10_before : ByteArray := prog_12_method_30_code
def yX10_before : MethodName := ⟨RX10, "before", "(II)I"⟩
abbrev cX10_reflect : ByteArray := prog_12_method_31_code
def yX10_reflect : MethodName := ⟨RX10, "reflect", "(II)V"⟩
abbrev cX10_layReflectors : ByteArray := prog_12_method_32_code
def yX10_layReflectors : MethodName := ⟨RX10, "layReflectors", "(II)V"⟩
abbrev cX10_raise : ByteArray := prog_12_method_33_code
def yX10_raise : MethodName := ⟨RX10, "raise", "(II)V"⟩
abbrev cX10_addReflector : ByteArray := prog_12_method_34_code
def yX10_addReflector : MethodName := ⟨RX10, "addReflector", "(III)V"⟩
abbrev cX10_addGhost : ByteArray := prog_12_method_35_code
def yX10_addGhost : MethodName := ⟨RX10, "addGhost", "(III)V"⟩
abbrev cX10_layTrace : ByteArray := prog_12_method_36_code
def yX10_layTrace : MethodName := ⟨RX10, "layTrace", "(II)V"⟩
abbrev cX10_isTrace : ByteArray := prog_12_method_37_code
def yX10_isTrace : MethodName := ⟨RX10, "isTrace", "(II)Z"⟩
abbrev cX10_sample : ByteArray := prog_12_method_38_code
def yX10_sample : MethodName := ⟨RX10, "sample", "(III)I"⟩
abbrev cX10_meanLoss : ByteArray := prog_12_method_39_code
def yX10_meanLoss : MethodName := ⟨RX10, "meanLoss", "(IIII)F"⟩
abbrev cX10_visible : ByteArray := prog_12_method_40_code
def yX10_visible : MethodName := ⟨RX10, "visible", "(II)I"⟩
abbrev cX10_stitch : ByteArray := prog_12_method_41_code
def yX10_stitch : MethodName := ⟨RX10, "stitch", "(II)V"⟩
abbrev cX10_layStitches : ByteArray := prog_12_method_42_code
def yX10_layStitches : MethodName := ⟨RX10, "layStitches", "(I)V"⟩
abbrev cX10_stitched : ByteArray := prog_12_method_43_code
def yX10_stitched : MethodName := ⟨RX10, "stitched", "(II)I"⟩
abbrev cX10_stitchedCount : ByteArray := prog_12_method_44_code
def yX10_stitchedCount : MethodName := ⟨RX10, "stitchedCount", "(I)I"⟩
abbrev cX10_deviation : ByteArray := prog_12_method_45_code
def yX10_deviation : MethodName := ⟨RX10, "deviation", "(I)I"⟩
abbrev cX10_isMarked : ByteArray := prog_12_method_46_code
def yX10_isMarked : MethodName := ⟨RX10, "isMarked", "(I)Z"⟩
abbrev cX10_of : ByteArray := prog_12_method_47_code
def yX10_of : MethodName := ⟨RX10, "of", "(II)I"⟩
abbrev cX10_addEvent : ByteArray := prog_12_method_48_code
def yX10_addEvent : MethodName := ⟨RX10, "addEvent", "(II)V"⟩
abbrev cX10_name : ByteArray := prog_12_method_49_code
def yX10_name : MethodName := ⟨RX10, "name", "(II)V"⟩
abbrev cX10_addEvents : ByteArray := prog_12_method_50_code
def yX10_addEvents : MethodName := ⟨RX10, "addEvents", "(II)V"⟩
abbrev cX10_layEvents : ByteArray := prog_12_method_51_code
def yX10_layEvents : MethodName := ⟨RX10, "layEvents", "(II)V"⟩
abbrev cX10_events : ByteArray := prog_12_method_52_code
def yX10_events : MethodName := ⟨RX10, "events", "(II)I"⟩
abbrev cX10_event : ByteArray := prog_12_method_53_code
def yX10_event : MethodName := ⟨RX10, "event", "(IIII)I"⟩
abbrev cX10_ghosts : ByteArray := prog_12_method_54_code
def yX10_ghosts : MethodName := ⟨RX10, "ghosts", "(II)I"⟩
abbrev cX10_firstEnd : ByteArray := prog_12_method_55_code
def yX10_firstEnd : MethodName := ⟨RX10, "firstEnd", "(II)I"⟩
abbrev cX10_endSeen : ByteArray := prog_12_method_56_code
def yX10_endSeen : MethodName := ⟨RX10, "endSeen", "(II)I"⟩
abbrev cX10_layJoins : ByteArray := prog_12_method_57_code
def yX10_layJoins : MethodName := ⟨RX10, "layJoins", "(I)V"⟩
abbrev cX10_joinedCount : ByteArray := prog_12_method_58_code
def yX10_joinedCount : MethodName := ⟨RX10, "joinedCount", "(I)I"⟩
abbrev cX10_joined : ByteArray := prog_12_method_59_code
def yX10_joined : MethodName := ⟨RX10, "joined", "(III)I"⟩
abbrev cX10_addPoint : ByteArray := prog_12_method_60_code
def yX10_addPoint : MethodName := ⟨RX10, "addPoint", "(II)I"⟩
abbrev cX10_clearMap : ByteArray := prog_12_method_61_code
def yX10_clearMap : MethodName := ⟨RX10, "clearMap", "()I"⟩
abbrev cX10_setExcess : ByteArray := prog_12_method_62_code
def yX10_setExcess : MethodName := ⟨RX10, "setExcess", "(I)I"⟩
abbrev cX10_reach : ByteArray := prog_12_method_63_code
def yX10_reach : MethodName := ⟨RX10, "reach", "(I)I"⟩
abbrev cX10_point : ByteArray := prog_12_method_64_code
def yX10_point : MethodName := ⟨RX10, "point", "(II)I"⟩
abbrev cX10_onRoute : ByteArray := prog_12_method_65_code
def yX10_onRoute : MethodName := ⟨RX10, "onRoute", "(I)I"⟩
abbrev cX10_toRoute : ByteArray := prog_12_method_66_code
def yX10_toRoute : MethodName := ⟨RX10, "toRoute", "(I)I"⟩
abbrev cX10_pointBefore : ByteArray := prog_12_method_67_code
def yX10_pointBefore : MethodName := ⟨RX10, "pointBefore", "(I)I"⟩
abbrev cX10_placed : ByteArray := prog_12_method_68_code
def yX10_placed : MethodName := ⟨RX10, "placed", "(II)I"⟩
abbrev cX10_write : ByteArray := prog_12_method_69_code
def yX10_write : MethodName := ⟨RX10, "write", "(I)I"⟩
abbrev cX10_wipe : ByteArray := prog_12_method_70_code
def yX10_wipe : MethodName := ⟨RX10, "wipe", "()I"⟩
abbrev cX10_isWrong : ByteArray := prog_12_method_71_code
def yX10_isWrong : MethodName := ⟨RX10, "isWrong", "()Z"⟩
abbrev cX10_fails : ByteArray := prog_12_method_72_code
def yX10_fails : MethodName := ⟨RX10, "fails", "(II)V"⟩
abbrev cX10_isDigit : ByteArray := prog_12_method_73_code
def yX10_isDigit : MethodName := ⟨RX10, "isDigit", "()Z"⟩
abbrev cX10_readNumber : ByteArray := prog_12_method_74_code
def yX10_readNumber : MethodName := ⟨RX10, "readNumber", "(II)I"⟩
abbrev cX10_want : ByteArray := prog_12_method_75_code
def yX10_want : MethodName := ⟨RX10, "want", "(I)V"⟩
abbrev cX10_readItem : ByteArray := prog_12_method_76_code
def yX10_readItem : MethodName := ⟨RX10, "readItem", "(I)V"⟩
abbrev cX10_readAll : ByteArray := prog_12_method_77_code
def yX10_readAll : MethodName := ⟨RX10, "readAll", "()V"⟩
abbrev cX10_load : ByteArray := prog_12_method_78_code
def yX10_load : MethodName := ⟨RX10, "load", "()I"⟩
abbrev cX10_fault : ByteArray := prog_12_method_79_code
def yX10_fault : MethodName := ⟨RX10, "fault", "(I)I"⟩
def RJ9 : String := "java/lang/Math"
def TJ9 : u_T := fun k => match k with
  | _ => ("", "", "", false)
def tyJ9 : Nat → FieldType := fun k => match k with
  | _ => .int
abbrev wsJ90 : List Cond := u_ws RJ9 TJ9 0
theorem nmJ9 : ∀ a, a < 0 → ∀ b, b < 0 → a ≠ b → (TJ9 a).2.1 ≠ (TJ9 b).2.1 := by decide +kernel
theorem tyJ9_ok : ∀ k, k < 0 → parseFieldDescriptor (TJ9 k).2.2.1 = some (tyJ9 k) := by decide +kernel
abbrev cJ9_abs_0f7a4 : ByteArray := prog_13_method_59_code
def yJ9_abs_0f7a4 : MethodName := ⟨RJ9, "abs", "(I)I"⟩
abbrev cJ9_max_7cf53 : ByteArray := prog_13_method_65_code
def yJ9_max_7cf53 : MethodName := ⟨RJ9, "max", "(II)I"⟩
abbrev cJ9_min_7cf53 : ByteArray := prog_13_method_69_code
def yJ9_min_7cf53 : MethodName := ⟨RJ9, "min", "(II)I"⟩
def RJ10 : String := "java/lang/System"
def TJ10 : u_T := fun k => match k with
  | _ => ("", "", "", false)
def tyJ10 : Nat → FieldType := fun k => match k with
  | _ => .int
abbrev wsJ100 : List Cond := u_ws RJ10 TJ10 0
theorem nmJ10 : ∀ a, a < 0 → ∀ b, b < 0 → a ≠ b → (TJ10 a).2.1 ≠ (TJ10 b).2.1 := by decide +kernel
theorem tyJ10_ok : ∀ k, k < 0 → parseFieldDescriptor (TJ10 k).2.2.1 = some (tyJ10 k) := by decide +kernel
def RJ7 : String := "java/util/Arrays"
def TJ7 : u_T := fun k => match k with
  | _ => ("", "", "", false)
def tyJ7 : Nat → FieldType := fun k => match k with
  | _ => .int
abbrev wsJ70 : List Cond := u_ws RJ7 TJ7 0
theorem nmJ7 : ∀ a, a < 0 → ∀ b, b < 0 → a ≠ b → (TJ7 a).2.1 ≠ (TJ7 b).2.1 := by decide +kernel
theorem tyJ7_ok : ∀ k, k < 0 → parseFieldDescriptor (TJ7 k).2.2.1 = some (tyJ7 k) := by decide +kernel
abbrev cJ7_fill_53178 : ByteArray := prog_15_method_103_code
def yJ7_fill_53178 : MethodName := ⟨RJ7, "fill", "([II)V"⟩
def RL : String := "FibreBenchLaw"
abbrev cL_law : ByteArray := code
def yL_law : MethodName := ⟨RL, "law", "([I)Z"⟩
abbrev vwCl : List vw_C := [(RX0, TX0, 4), (RX1, TX1, 9), (RX2, TX2, 11), (RX3, TX3, 3), (RX4, TX4, 4), (RX5, TX5, 3), (RX6, TX6, 5), (RX7, TX7, 3), (RX8, TX8, 9), (RX9, TX9, 9), (RX10, TX10, 25)]
theorem inX0 : ∀ w ∈ wsX00, w ∈ lw_tbl := by decide +kernel
theorem inX1 : ∀ w ∈ wsX10, w ∈ lw_tbl := by decide +kernel
theorem inX2 : ∀ w ∈ wsX20, w ∈ lw_tbl := by decide +kernel
theorem inX3 : ∀ w ∈ wsX30, w ∈ lw_tbl := by decide +kernel
theorem inX4 : ∀ w ∈ wsX40, w ∈ lw_tbl := by decide +kernel
theorem inX5 : ∀ w ∈ wsX50, w ∈ lw_tbl := by decide +kernel
theorem inX6 : ∀ w ∈ wsX60, w ∈ lw_tbl := by decide +kernel
theorem inX7 : ∀ w ∈ wsX70, w ∈ lw_tbl := by decide +kernel
theorem inX8 : ∀ w ∈ wsX80, w ∈ lw_tbl := by decide +kernel
theorem inX9 : ∀ w ∈ wsX90, w ∈ lw_tbl := by decide +kernel
theorem inX10 : ∀ w ∈ wsX100, w ∈ lw_tbl := by decide +kernel
end
