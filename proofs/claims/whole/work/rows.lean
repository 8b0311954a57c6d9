section
-- ===== PART A: goes FIRST, ahead of the names: the tables' words, and 'selects' of the private methods out of them =====
/-- a private method of a class that the tables say can be made, by its rows of tables_1 -/
def lw_okq (q : MethodName × Nat) : Prop := (q.1.cls ≠ "java/lang/invoke/MethodHandle" ∧ q.1.cls ≠ "java/lang/invoke/VarHandle") ∧ Cond.instantiable q.1.cls q.2 ∈ tables_1 ∧ Cond.privateMethod q.1 ∈ tables_1 ∧ Cond.instanceMethod q.1 ∈ tables_1
theorem lw_p0 : lw_okq (⟨"FibreBench", "recordChange", "()V"⟩, 9) := ⟨⟨by decide +kernel, by decide +kernel⟩, List.mem_of_getElem? (i := 16) (by decide +kernel), List.mem_of_getElem? (i := 355) (by decide +kernel), List.mem_of_getElem? (i := 356) (by decide +kernel)⟩
theorem lw_p1 : lw_okq (⟨"FibreBench", "viewOf", "(I)LFibreBench$View;"⟩, 9) := ⟨⟨by decide +kernel, by decide +kernel⟩, List.mem_of_getElem? (i := 16) (by decide +kernel), List.mem_of_getElem? (i := 460) (by decide +kernel), List.mem_of_getElem? (i := 461) (by decide +kernel)⟩
theorem lw_p2 : lw_okq (⟨"FibreBench", "traceOf", "(II)LFibreBench$Trace;"⟩, 9) := ⟨⟨by decide +kernel, by decide +kernel⟩, List.mem_of_getElem? (i := 16) (by decide +kernel), List.mem_of_getElem? (i := 507) (by decide +kernel), List.mem_of_getElem? (i := 508) (by decide +kernel)⟩
theorem lw_p3 : lw_okq (⟨"FibreBench", "stitchedAt", "(II)I"⟩, 9) := ⟨⟨by decide +kernel, by decide +kernel⟩, List.mem_of_getElem? (i := 16) (by decide +kernel), List.mem_of_getElem? (i := 560) (by decide +kernel), List.mem_of_getElem? (i := 561) (by decide +kernel)⟩
theorem lw_p4 : lw_okq (⟨"FibreBench", "eventsOf", "(II)LFibreBench$EventList;"⟩, 9) := ⟨⟨by decide +kernel, by decide +kernel⟩, List.mem_of_getElem? (i := 16) (by decide +kernel), List.mem_of_getElem? (i := 573) (by decide +kernel), List.mem_of_getElem? (i := 574) (by decide +kernel)⟩
theorem lw_p5 : lw_okq (⟨"FibreBench", "joinSides", "(LFibreBench$EventList;LFibreBench$EventList;)V"⟩, 9) := ⟨⟨by decide +kernel, by decide +kernel⟩, List.mem_of_getElem? (i := 16) (by decide +kernel), List.mem_of_getElem? (i := 633) (by decide +kernel), List.mem_of_getElem? (i := 634) (by decide +kernel)⟩
theorem lw_p6 : lw_okq (⟨"FibreBench", "routeOfEnd", "(II)I"⟩, 9) := ⟨⟨by decide +kernel, by decide +kernel⟩, List.mem_of_getElem? (i := 16) (by decide +kernel), List.mem_of_getElem? (i := 715) (by decide +kernel), List.mem_of_getElem? (i := 716) (by decide +kernel)⟩
theorem lw_p7 : lw_okq (⟨"FibreBenchModel", "renew", "(III)V"⟩, 25) := ⟨⟨by decide +kernel, by decide +kernel⟩, List.mem_of_getElem? (i := 771) (by decide +kernel), List.mem_of_getElem? (i := 778) (by decide +kernel), List.mem_of_getElem? (i := 779) (by decide +kernel)⟩
theorem lw_p8 : lw_okq (⟨"FibreBenchModel", "clearFibre", "()V"⟩, 25) := ⟨⟨by decide +kernel, by decide +kernel⟩, List.mem_of_getElem? (i := 771) (by decide +kernel), List.mem_of_getElem? (i := 782) (by decide +kernel), List.mem_of_getElem? (i := 783) (by decide +kernel)⟩
theorem lw_p9 : lw_okq (⟨"FibreBenchModel", "append", "(III)V"⟩, 25) := ⟨⟨by decide +kernel, by decide +kernel⟩, List.mem_of_getElem? (i := 771) (by decide +kernel), List.mem_of_getElem? (i := 786) (by decide +kernel), List.mem_of_getElem? (i := 787) (by decide +kernel)⟩
theorem lw_p10 : lw_okq (⟨"FibreBenchModel", "keep", "()V"⟩, 25) := ⟨⟨by decide +kernel, by decide +kernel⟩, List.mem_of_getElem? (i := 771) (by decide +kernel), List.mem_of_getElem? (i := 877) (by decide +kernel), List.mem_of_getElem? (i := 878) (by decide +kernel)⟩
theorem lw_p11 : lw_okq (⟨"FibreBenchModel", "whole", "()I"⟩, 25) := ⟨⟨by decide +kernel, by decide +kernel⟩, List.mem_of_getElem? (i := 771) (by decide +kernel), List.mem_of_getElem? (i := 881) (by decide +kernel), List.mem_of_getElem? (i := 882) (by decide +kernel)⟩
theorem lw_p12 : lw_okq (⟨"FibreBenchModel", "placeOf", "(I)I"⟩, 25) := ⟨⟨by decide +kernel, by decide +kernel⟩, List.mem_of_getElem? (i := 771) (by decide +kernel), List.mem_of_getElem? (i := 885) (by decide +kernel), List.mem_of_getElem? (i := 886) (by decide +kernel)⟩
theorem lw_p13 : lw_okq (⟨"FibreBenchModel", "isJoint", "(I)Z"⟩, 25) := ⟨⟨by decide +kernel, by decide +kernel⟩, List.mem_of_getElem? (i := 771) (by decide +kernel), List.mem_of_getElem? (i := 898) (by decide +kernel), List.mem_of_getElem? (i := 899) (by decide +kernel)⟩
theorem lw_p14 : lw_okq (⟨"FibreBenchModel", "isBend", "(I)Z"⟩, 25) := ⟨⟨by decide +kernel, by decide +kernel⟩, List.mem_of_getElem? (i := 771) (by decide +kernel), List.mem_of_getElem? (i := 911) (by decide +kernel), List.mem_of_getElem? (i := 912) (by decide +kernel)⟩
theorem lw_p15 : lw_okq (⟨"FibreBenchModel", "layLosses", "(I)V"⟩, 25) := ⟨⟨by decide +kernel, by decide +kernel⟩, List.mem_of_getElem? (i := 771) (by decide +kernel), List.mem_of_getElem? (i := 951) (by decide +kernel), List.mem_of_getElem? (i := 952) (by decide +kernel)⟩
def lw_privs_1 : List (MethodName × Nat) := [(⟨"FibreBench", "recordChange", "()V"⟩, 9), (⟨"FibreBench", "viewOf", "(I)LFibreBench$View;"⟩, 9), (⟨"FibreBench", "traceOf", "(II)LFibreBench$Trace;"⟩, 9), (⟨"FibreBench", "stitchedAt", "(II)I"⟩, 9), (⟨"FibreBench", "eventsOf", "(II)LFibreBench$EventList;"⟩, 9), (⟨"FibreBench", "joinSides", "(LFibreBench$EventList;LFibreBench$EventList;)V"⟩, 9), (⟨"FibreBench", "routeOfEnd", "(II)I"⟩, 9), (⟨"FibreBenchModel", "renew", "(III)V"⟩, 25), (⟨"FibreBenchModel", "clearFibre", "()V"⟩, 25), (⟨"FibreBenchModel", "append", "(III)V"⟩, 25), (⟨"FibreBenchModel", "keep", "()V"⟩, 25), (⟨"FibreBenchModel", "whole", "()I"⟩, 25), (⟨"FibreBenchModel", "placeOf", "(I)I"⟩, 25), (⟨"FibreBenchModel", "isJoint", "(I)Z"⟩, 25), (⟨"FibreBenchModel", "isBend", "(I)Z"⟩, 25), (⟨"FibreBenchModel", "layLosses", "(I)V"⟩, 25)]
theorem lw_r1 : ∀ q ∈ lw_privs_1, lw_okq q := List.forall_mem_cons.mpr ⟨lw_p0, List.forall_mem_cons.mpr ⟨lw_p1, List.forall_mem_cons.mpr ⟨lw_p2, List.forall_mem_cons.mpr ⟨lw_p3, List.forall_mem_cons.mpr ⟨lw_p4, List.forall_mem_cons.mpr ⟨lw_p5, List.forall_mem_cons.mpr ⟨lw_p6, List.forall_mem_cons.mpr ⟨lw_p7, List.forall_mem_cons.mpr ⟨lw_p8, List.forall_mem_cons.mpr ⟨lw_p9, List.forall_mem_cons.mpr ⟨lw_p10, List.forall_mem_cons.mpr ⟨lw_p11, List.forall_mem_cons.mpr ⟨lw_p12, List.forall_mem_cons.mpr ⟨lw_p13, List.forall_mem_cons.mpr ⟨lw_p14, List.forall_mem_cons.mpr ⟨lw_p15, fun _ h => absurd h List.not_mem_nil⟩⟩⟩⟩⟩⟩⟩⟩⟩⟩⟩⟩⟩⟩⟩⟩
theorem lw_p16 : lw_okq (⟨"FibreBenchModel", "sectionOf", "(II)I"⟩, 25) := ⟨⟨by decide +kernel, by decide +kernel⟩, List.mem_of_getElem? (i := 771) (by decide +kernel), List.mem_of_getElem? (i := 955) (by decide +kernel), List.mem_of_getElem? (i := 956) (by decide +kernel)⟩
theorem lw_p17 : lw_okq (⟨"FibreBenchModel", "far", "(II)I"⟩, 25) := ⟨⟨by decide +kernel, by decide +kernel⟩, List.mem_of_getElem? (i := 771) (by decide +kernel), List.mem_of_getElem? (i := 959) (by decide +kernel), List.mem_of_getElem? (i := 960) (by decide +kernel)⟩
theorem lw_p18 : lw_okq (⟨"FibreBenchModel", "layTrace", "(II)V"⟩, 25) := ⟨⟨by decide +kernel, by decide +kernel⟩, List.mem_of_getElem? (i := 771) (by decide +kernel), List.mem_of_getElem? (i := 970) (by decide +kernel), List.mem_of_getElem? (i := 971) (by decide +kernel)⟩
theorem lw_p19 : lw_okq (⟨"FibreBenchModel", "layReflectors", "(II)V"⟩, 25) := ⟨⟨by decide +kernel, by decide +kernel⟩, List.mem_of_getElem? (i := 771) (by decide +kernel), List.mem_of_getElem? (i := 974) (by decide +kernel), List.mem_of_getElem? (i := 975) (by decide +kernel)⟩
theorem lw_p20 : lw_okq (⟨"FibreBenchModel", "reflect", "(II)V"⟩, 25) := ⟨⟨by decide +kernel, by decide +kernel⟩, List.mem_of_getElem? (i := 771) (by decide +kernel), List.mem_of_getElem? (i := 978) (by decide +kernel), List.mem_of_getElem? (i := 979) (by decide +kernel)⟩
theorem lw_p21 : lw_okq (⟨"FibreBenchModel", "scattered", "(II)I"⟩, 25) := ⟨⟨by decide +kernel, by decide +kernel⟩, List.mem_of_getElem? (i := 771) (by decide +kernel), List.mem_of_getElem? (i := 982) (by decide +kernel), List.mem_of_getElem? (i := 983) (by decide +kernel)⟩
theorem lw_p22 : lw_okq (⟨"FibreBenchModel", "raise", "(II)V"⟩, 25) := ⟨⟨by decide +kernel, by decide +kernel⟩, List.mem_of_getElem? (i := 771) (by decide +kernel), List.mem_of_getElem? (i := 986) (by decide +kernel), List.mem_of_getElem? (i := 987) (by decide +kernel)⟩
theorem lw_p23 : lw_okq (⟨"FibreBenchModel", "addReflector", "(III)V"⟩, 25) := ⟨⟨by decide +kernel, by decide +kernel⟩, List.mem_of_getElem? (i := 771) (by decide +kernel), List.mem_of_getElem? (i := 990) (by decide +kernel), List.mem_of_getElem? (i := 991) (by decide +kernel)⟩
theorem lw_p24 : lw_okq (⟨"FibreBenchModel", "before", "(II)I"⟩, 25) := ⟨⟨by decide +kernel, by decide +kernel⟩, List.mem_of_getElem? (i := 771) (by decide +kernel), List.mem_of_getElem? (i := 994) (by decide +kernel), List.mem_of_getElem? (i := 995) (by decide +kernel)⟩
theorem lw_p25 : lw_okq (⟨"FibreBenchModel", "addGhost", "(III)V"⟩, 25) := ⟨⟨by decide +kernel, by decide +kernel⟩, List.mem_of_getElem? (i := 771) (by decide +kernel), List.mem_of_getElem? (i := 998) (by decide +kernel), List.mem_of_getElem? (i := 999) (by decide +kernel)⟩
theorem lw_p26 : lw_okq (⟨"FibreBenchModel", "layStitches", "(I)V"⟩, 25) := ⟨⟨by decide +kernel, by decide +kernel⟩, List.mem_of_getElem? (i := 771) (by decide +kernel), List.mem_of_getElem? (i := 1015) (by decide +kernel), List.mem_of_getElem? (i := 1016) (by decide +kernel)⟩
theorem lw_p27 : lw_okq (⟨"FibreBenchModel", "stitch", "(II)V"⟩, 25) := ⟨⟨by decide +kernel, by decide +kernel⟩, List.mem_of_getElem? (i := 771) (by decide +kernel), List.mem_of_getElem? (i := 1019) (by decide +kernel), List.mem_of_getElem? (i := 1020) (by decide +kernel)⟩
theorem lw_p28 : lw_okq (⟨"FibreBenchModel", "layEvents", "(II)V"⟩, 25) := ⟨⟨by decide +kernel, by decide +kernel⟩, List.mem_of_getElem? (i := 771) (by decide +kernel), List.mem_of_getElem? (i := 1031) (by decide +kernel), List.mem_of_getElem? (i := 1032) (by decide +kernel)⟩
theorem lw_p29 : lw_okq (⟨"FibreBenchModel", "addEvents", "(II)V"⟩, 25) := ⟨⟨by decide +kernel, by decide +kernel⟩, List.mem_of_getElem? (i := 771) (by decide +kernel), List.mem_of_getElem? (i := 1035) (by decide +kernel), List.mem_of_getElem? (i := 1036) (by decide +kernel)⟩
theorem lw_p30 : lw_okq (⟨"FibreBenchModel", "isMarked", "(I)Z"⟩, 25) := ⟨⟨by decide +kernel, by decide +kernel⟩, List.mem_of_getElem? (i := 771) (by decide +kernel), List.mem_of_getElem? (i := 1039) (by decide +kernel), List.mem_of_getElem? (i := 1040) (by decide +kernel)⟩
theorem lw_p31 : lw_okq (⟨"FibreBenchModel", "deviation", "(I)I"⟩, 25) := ⟨⟨by decide +kernel, by decide +kernel⟩, List.mem_of_getElem? (i := 771) (by decide +kernel), List.mem_of_getElem? (i := 1043) (by decide +kernel), List.mem_of_getElem? (i := 1044) (by decide +kernel)⟩
def lw_privs_2 : List (MethodName × Nat) := [(⟨"FibreBenchModel", "sectionOf", "(II)I"⟩, 25), (⟨"FibreBenchModel", "far", "(II)I"⟩, 25), (⟨"FibreBenchModel", "layTrace", "(II)V"⟩, 25), (⟨"FibreBenchModel", "layReflectors", "(II)V"⟩, 25), (⟨"FibreBenchModel", "reflect", "(II)V"⟩, 25), (⟨"FibreBenchModel", "scattered", "(II)I"⟩, 25), (⟨"FibreBenchModel", "raise", "(II)V"⟩, 25), (⟨"FibreBenchModel", "addReflector", "(III)V"⟩, 25), (⟨"FibreBenchModel", "before", "(II)I"⟩, 25), (⟨"FibreBenchModel", "addGhost", "(III)V"⟩, 25), (⟨"FibreBenchModel", "layStitches", "(I)V"⟩, 25), (⟨"FibreBenchModel", "stitch", "(II)V"⟩, 25), (⟨"FibreBenchModel", "layEvents", "(II)V"⟩, 25), (⟨"FibreBenchModel", "addEvents", "(II)V"⟩, 25), (⟨"FibreBenchModel", "isMarked", "(I)Z"⟩, 25), (⟨"FibreBenchModel", "deviation", "(I)I"⟩, 25)]
theorem lw_r2 : ∀ q ∈ lw_privs_2, lw_okq q := List.forall_mem_cons.mpr ⟨lw_p16, List.forall_mem_cons.mpr ⟨lw_p17, List.forall_mem_cons.mpr ⟨lw_p18, List.forall_mem_cons.mpr ⟨lw_p19, List.forall_mem_cons.mpr ⟨lw_p20, List.forall_mem_cons.mpr ⟨lw_p21, List.forall_mem_cons.mpr ⟨lw_p22, List.forall_mem_cons.mpr ⟨lw_p23, List.forall_mem_cons.mpr ⟨lw_p24, List.forall_mem_cons.mpr ⟨lw_p25, List.forall_mem_cons.mpr ⟨lw_p26, List.forall_mem_cons.mpr ⟨lw_p27, List.forall_mem_cons.mpr ⟨lw_p28, List.forall_mem_cons.mpr ⟨lw_p29, List.forall_mem_cons.mpr ⟨lw_p30, List.forall_mem_cons.mpr ⟨lw_p31, fun _ h => absurd h List.not_mem_nil⟩⟩⟩⟩⟩⟩⟩⟩⟩⟩⟩⟩⟩⟩⟩⟩
theorem lw_p32 : lw_okq (⟨"FibreBenchModel", "addEvent", "(II)V"⟩, 25) := ⟨⟨by decide +kernel, by decide +kernel⟩, List.mem_of_getElem? (i := 771) (by decide +kernel), List.mem_of_getElem? (i := 1047) (by decide +kernel), List.mem_of_getElem? (i := 1048) (by decide +kernel)⟩
theorem lw_p33 : lw_okq (⟨"FibreBenchModel", "name", "(II)V"⟩, 25) := ⟨⟨by decide +kernel, by decide +kernel⟩, List.mem_of_getElem? (i := 771) (by decide +kernel), List.mem_of_getElem? (i := 1051) (by decide +kernel), List.mem_of_getElem? (i := 1052) (by decide +kernel)⟩
theorem lw_p34 : lw_okq (⟨"FibreBenchModel", "of", "(II)I"⟩, 25) := ⟨⟨by decide +kernel, by decide +kernel⟩, List.mem_of_getElem? (i := 771) (by decide +kernel), List.mem_of_getElem? (i := 1055) (by decide +kernel), List.mem_of_getElem? (i := 1056) (by decide +kernel)⟩
theorem lw_p35 : lw_okq (⟨"FibreBenchModel", "firstEnd", "(II)I"⟩, 25) := ⟨⟨by decide +kernel, by decide +kernel⟩, List.mem_of_getElem? (i := 771) (by decide +kernel), List.mem_of_getElem? (i := 1071) (by decide +kernel), List.mem_of_getElem? (i := 1072) (by decide +kernel)⟩
theorem lw_p36 : lw_okq (⟨"FibreBenchModel", "layJoins", "(I)V"⟩, 25) := ⟨⟨by decide +kernel, by decide +kernel⟩, List.mem_of_getElem? (i := 771) (by decide +kernel), List.mem_of_getElem? (i := 1079) (by decide +kernel), List.mem_of_getElem? (i := 1080) (by decide +kernel)⟩
theorem lw_p37 : lw_okq (⟨"FibreBenchModel", "reach", "(I)I"⟩, 25) := ⟨⟨by decide +kernel, by decide +kernel⟩, List.mem_of_getElem? (i := 771) (by decide +kernel), List.mem_of_getElem? (i := 1103) (by decide +kernel), List.mem_of_getElem? (i := 1104) (by decide +kernel)⟩
theorem lw_p38 : lw_okq (⟨"FibreBenchModel", "onRoute", "(I)I"⟩, 25) := ⟨⟨by decide +kernel, by decide +kernel⟩, List.mem_of_getElem? (i := 771) (by decide +kernel), List.mem_of_getElem? (i := 1111) (by decide +kernel), List.mem_of_getElem? (i := 1112) (by decide +kernel)⟩
theorem lw_p39 : lw_okq (⟨"FibreBenchModel", "readAll", "()V"⟩, 25) := ⟨⟨by decide +kernel, by decide +kernel⟩, List.mem_of_getElem? (i := 771) (by decide +kernel), List.mem_of_getElem? (i := 1135) (by decide +kernel), List.mem_of_getElem? (i := 1136) (by decide +kernel)⟩
theorem lw_p40 : lw_okq (⟨"FibreBenchModel", "isWrong", "()Z"⟩, 25) := ⟨⟨by decide +kernel, by decide +kernel⟩, List.mem_of_getElem? (i := 771) (by decide +kernel), List.mem_of_getElem? (i := 1139) (by decide +kernel), List.mem_of_getElem? (i := 1140) (by decide +kernel)⟩
theorem lw_p41 : lw_okq (⟨"FibreBenchModel", "readItem", "(I)V"⟩, 25) := ⟨⟨by decide +kernel, by decide +kernel⟩, List.mem_of_getElem? (i := 771) (by decide +kernel), List.mem_of_getElem? (i := 1143) (by decide +kernel), List.mem_of_getElem? (i := 1144) (by decide +kernel)⟩
theorem lw_p42 : lw_okq (⟨"FibreBenchModel", "isDigit", "()Z"⟩, 25) := ⟨⟨by decide +kernel, by decide +kernel⟩, List.mem_of_getElem? (i := 771) (by decide +kernel), List.mem_of_getElem? (i := 1147) (by decide +kernel), List.mem_of_getElem? (i := 1148) (by decide +kernel)⟩
theorem lw_p43 : lw_okq (⟨"FibreBenchModel", "fails", "(II)V"⟩, 25) := ⟨⟨by decide +kernel, by decide +kernel⟩, List.mem_of_getElem? (i := 771) (by decide +kernel), List.mem_of_getElem? (i := 1151) (by decide +kernel), List.mem_of_getElem? (i := 1152) (by decide +kernel)⟩
theorem lw_p44 : lw_okq (⟨"FibreBenchModel", "readNumber", "(II)I"⟩, 25) := ⟨⟨by decide +kernel, by decide +kernel⟩, List.mem_of_getElem? (i := 771) (by decide +kernel), List.mem_of_getElem? (i := 1155) (by decide +kernel), List.mem_of_getElem? (i := 1156) (by decide +kernel)⟩
theorem lw_p45 : lw_okq (⟨"FibreBenchModel", "want", "(I)V"⟩, 25) := ⟨⟨by decide +kernel, by decide +kernel⟩, List.mem_of_getElem? (i := 771) (by decide +kernel), List.mem_of_getElem? (i := 1159) (by decide +kernel), List.mem_of_getElem? (i := 1160) (by decide +kernel)⟩
def lw_privs_3 : List (MethodName × Nat) := [(⟨"FibreBenchModel", "addEvent", "(II)V"⟩, 25), (⟨"FibreBenchModel", "name", "(II)V"⟩, 25), (⟨"FibreBenchModel", "of", "(II)I"⟩, 25), (⟨"FibreBenchModel", "firstEnd", "(II)I"⟩, 25), (⟨"FibreBenchModel", "layJoins", "(I)V"⟩, 25), (⟨"FibreBenchModel", "reach", "(I)I"⟩, 25), (⟨"FibreBenchModel", "onRoute", "(I)I"⟩, 25), (⟨"FibreBenchModel", "readAll", "()V"⟩, 25), (⟨"FibreBenchModel", "isWrong", "()Z"⟩, 25), (⟨"FibreBenchModel", "readItem", "(I)V"⟩, 25), (⟨"FibreBenchModel", "isDigit", "()Z"⟩, 25), (⟨"FibreBenchModel", "fails", "(II)V"⟩, 25), (⟨"FibreBenchModel", "readNumber", "(II)I"⟩, 25), (⟨"FibreBenchModel", "want", "(I)V"⟩, 25)]
theorem lw_r3 : ∀ q ∈ lw_privs_3, lw_okq q := List.forall_mem_cons.mpr ⟨lw_p32, List.forall_mem_cons.mpr ⟨lw_p33, List.forall_mem_cons.mpr ⟨lw_p34, List.forall_mem_cons.mpr ⟨lw_p35, List.forall_mem_cons.mpr ⟨lw_p36, List.forall_mem_cons.mpr ⟨lw_p37, List.forall_mem_cons.mpr ⟨lw_p38, List.forall_mem_cons.mpr ⟨lw_p39, List.forall_mem_cons.mpr ⟨lw_p40, List.forall_mem_cons.mpr ⟨lw_p41, List.forall_mem_cons.mpr ⟨lw_p42, List.forall_mem_cons.mpr ⟨lw_p43, List.forall_mem_cons.mpr ⟨lw_p44, List.forall_mem_cons.mpr ⟨lw_p45, fun _ h => absurd h List.not_mem_nil⟩⟩⟩⟩⟩⟩⟩⟩⟩⟩⟩⟩⟩⟩
def lw_privs : List (MethodName × Nat) := lw_privs_1 ++ (lw_privs_2 ++ (lw_privs_3))
def lw_tbl : List Cond := k2_sels lw_privs ++ tables_1
theorem lw_privs_ok : ∀ q ∈ lw_privs, lw_okq q := by
  show ∀ q ∈ lw_privs_1 ++ (lw_privs_2 ++ (lw_privs_3)), lw_okq q
  exact List.forall_mem_append.mpr ⟨lw_r1, List.forall_mem_append.mpr ⟨lw_r2, lw_r3⟩⟩
/-- the streams that the claim lets the run draw from -/
abbrev lw_cs : List Choice := [Jvm.Choice.named "NaN.bits"]
theorem lw_bits : nanBits ∈ lw_cs := by first | decide | exact List.mem_cons_self | simp [lw_cs, nanBits]
end
section
def RX0 : String := "FibreBench$CableMap"
def TX0 : u_T := fun k => match k with
  | 0 => ("FibreBench$CableMap", "positions", "[I", true)
  | 1 => ("FibreBench$CableMap", "slacks", "[I", true)
  | 2 => ("FibreBench$CableMap", "points", "I", false)
  | _ => ("FibreBench$CableMap", "excess", "I", false)
def tyX0 : Nat → FieldType := fun k => match k with
  | 0 => .array .int
  | 1 => .array .int
  | 2 => .int
  | _ => .int
abbrev wsX00 : List Cond := u_ws RX0 TX0 4
theorem nmX0 : ∀ a, a < 4 → ∀ b, b < 4 → a ≠ b → (TX0 a).2.1 ≠ (TX0 b).2.1 := by decide +kernel
theorem tyX0_ok : ∀ k, k < 4 → parseFieldDescriptor (TX0 k).2.2.1 = some (tyX0 k) := by decide +kernel
abbrev cX0_init : ByteArray := prog_2_method_1_code
def yX0_init : MethodName := ⟨RX0, "<init>", "()V"⟩
abbrev cX0_copyFrom : ByteArray := prog_2_method_2_code
def yX0_copyFrom : MethodName := ⟨RX0, "copyFrom", "(LFibreBench$CableMap;)V"⟩
abbrev cX0_append : ByteArray := prog_2_method_3_code
def yX0_append : MethodName := ⟨RX0, "append", "(II)V"⟩
abbrev cX0_runAfter : ByteArray := prog_2_method_4_code
def yX0_runAfter : MethodName := ⟨RX0, "runAfter", "(I)I"⟩
abbrev cX0_reachOf : ByteArray := prog_2_method_5_code
def yX0_reachOf : MethodName := ⟨RX0, "reachOf", "(I)I"⟩
abbrev cX0_routeOf : ByteArray := prog_2_method_6_code
def yX0_routeOf : MethodName := ⟨RX0, "routeOf", "(I)I"⟩
abbrev cX0_lastReached : ByteArray := prog_2_method_7_code
def yX0_lastReached : MethodName := ⟨RX0, "lastReached", "(I)I"⟩
def RX1 : String := "FibreBench$EventList"
def TX1 : u_T := fun k => match k with
  | 0 => ("FibreBench$EventList", "starts", "[I", true)
  | 1 => ("FibreBench$EventList", "stops", "[I", true)
  | 2 => ("FibreBench$EventList", "kinds", "[I", true)
  | 3 => ("FibreBench$EventList", "losses", "[I", true)
  | 4 => ("FibreBench$EventList", "rises", "[I", true)
  | 5 => ("FibreBench$EventList", "bounces", "[Z", true)
  | 6 => ("FibreBench$EventList", "count", "I", false)
  | 7 => ("FibreBench$EventList", "width", "I", false)
  | _ => ("FibreBench$EventList", "madeAt", "I", false)
def tyX1 : Nat → FieldType := fun k => match k with
  | 0 => .array .int
  | 1 => .array .int
  | 2 => .array .int
  | 3 => .array .int
  | 4 => .array .int
  | 5 => .array .boolean
  | 6 => .int
  | 7 => .int
  | _ => .int
abbrev wsX10 : List Cond := u_ws RX1 TX1 9
theorem nmX1 : ∀ a, a < 9 → ∀ b, b < 9 → a ≠ b → (TX1 a).2.1 ≠ (TX1 b).2.1 := by decide +kernel
theorem tyX1_ok : ∀ k, k < 9 → parseFieldDescriptor (TX1 k).2.2.1 = some (tyX1 k) := by decide +kernel
abbrev cX1_init : ByteArray := prog_3_method_1_code
def yX1_init : MethodName := ⟨RX1, "<init>", "()V"⟩
abbrev cX1_find : ByteArray := prog_3_method_2_code
def yX1_find : MethodName := ⟨RX1, "find", "(LFibreBench$Trace;II)V"⟩
abbrev cX1_deviation : ByteArray := prog_3_method_3_code
def yX1_deviation : MethodName := ⟨RX1, "deviation", "(LFibreBench$Trace;II)I"⟩
abbrev cX1_isMarked : ByteArray := prog_3_method_4_code
def yX1_isMarked : MethodName := ⟨RX1, "isMarked", "(LFibreBench$Trace;III)Z"⟩
abbrev cX1_keep : ByteArray := prog_3_method_5_code
def yX1_keep : MethodName := ⟨RX1, "keep", "(LFibreBench$Trace;III)V"⟩
abbrev cX1_startOf : ByteArray := prog_3_method_6_code
def yX1_startOf : MethodName := ⟨RX1, "startOf", "(I)I"⟩
abbrev cX1_lossOf : ByteArray := prog_3_method_7_code
def yX1_lossOf : MethodName := ⟨RX1, "lossOf", "(I)I"⟩
abbrev cX1_isInside : ByteArray := prog_3_method_8_code
def yX1_isInside : MethodName := ⟨RX1, "isInside", "(I)Z"⟩
abbrev cX1_bouncesFrom : ByteArray := prog_3_method_9_code
def yX1_bouncesFrom : MethodName := ⟨RX1, "bouncesFrom", "(I)Z"⟩
abbrev cX1_ghostMirror : ByteArray := prog_3_method_10_code
def yX1_ghostMirror : MethodName := ⟨RX1, "ghostMirror", "(I)I"⟩
abbrev cX1_ghostOrigin : ByteArray := prog_3_method_11_code
def yX1_ghostOrigin : MethodName := ⟨RX1, "ghostOrigin", "(I)I"⟩
abbrev cX1_firstEnd : ByteArray := prog_3_method_12_code
def yX1_firstEnd : MethodName := ⟨RX1, "firstEnd", "()I"⟩
def RX2 : String := "FibreBench$Fibre"
def TX2 : u_T := fun k => match k with
  | 0 => ("FibreBench$Fibre", "lengths", "[I", true)
  | 1 => ("FibreBench$Fibre", "attenuations", "[I", true)
  | 2 => ("FibreBench$Fibre", "scatters", "[I", true)
  | 3 => ("FibreBench$Fibre", "sections", "I", false)
  | 4 => ("FibreBench$Fibre", "jointLosses", "[I", true)
  | 5 => ("FibreBench$Fibre", "jointHeights", "[I", true)
  | 6 => ("FibreBench$Fibre", "bendPlaces", "[I", true)
  | 7 => ("FibreBench$Fibre", "bendLosses", "[I", true)
  | 8 => ("FibreBench$Fibre", "bends", "I", false)
  | 9 => ("FibreBench$Fibre", "breakPlace", "I", false)
  | _ => ("FibreBench$Fibre", "breakHeight", "I", false)
def tyX2 : Nat → FieldType := fun k => match k with
  | 0 => .array .int
  | 1 => .array .int
  | 2 => .array .int
  | 3 => .int
  | 4 => .array .int
  | 5 => .array .int
  | 6 => .array .int
  | 7 => .array .int
  | 8 => .int
  | 9 => .int
  | _ => .int
abbrev wsX20 : List Cond := u_ws RX2 TX2 11
theorem nmX2 : ∀ a, a < 11 → ∀ b, b < 11 → a ≠ b → (TX2 a).2.1 ≠ (TX2 b).2.1 := by decide +kernel
theorem tyX2_ok : ∀ k, k < 11 → parseFieldDescriptor (TX2 k).2.2.1 = some (tyX2 k) := by decide +kernel
abbrev cX2_init : ByteArray := prog_4_method_1_code
def yX2_init : MethodName := ⟨RX2, "<init>", "()V"⟩
abbrev cX2_copyFrom : ByteArray := prog_4_method_2_code
def yX2_copyFrom : MethodName := ⟨RX2, "copyFrom", "(LFibreBench$Fibre;)V"⟩
abbrev cX2_clear : ByteArray := prog_4_method_3_code
def yX2_clear : MethodName := ⟨RX2, "clear", "()V"⟩
abbrev cX2_append : ByteArray := prog_4_method_4_code
def yX2_append : MethodName := ⟨RX2, "append", "(III)V"⟩
abbrev cX2_appendBend : ByteArray := prog_4_method_5_code
def yX2_appendBend : MethodName := ⟨RX2, "appendBend", "(II)V"⟩
abbrev cX2_dropBend : ByteArray := prog_4_method_6_code
def yX2_dropBend : MethodName := ⟨RX2, "dropBend", "(I)V"⟩
abbrev cX2_placeOfJoint : ByteArray := prog_4_method_7_code
def yX2_placeOfJoint : MethodName := ⟨RX2, "placeOfJoint", "(I)I"⟩
abbrev cX2_totalLength : ByteArray := prog_4_method_8_code
def yX2_totalLength : MethodName := ⟨RX2, "totalLength", "()I"⟩
def RX3 : String := "FibreBench$History"
def TX3 : u_T := fun k => match k with
  | 0 => ("FibreBench$History", "states", "[LFibreBench$State;", true)
  | 1 => ("FibreBench$History", "oldest", "I", false)
  | _ => ("FibreBench$History", "count", "I", false)
def tyX3 : Nat → FieldType := fun k => match k with
  | 0 => .array (.object "FibreBench$State")
  | 1 => .int
  | _ => .int
abbrev wsX30 : List Cond := u_ws RX3 TX3 3
theorem nmX3 : ∀ a, a < 3 → ∀ b, b < 3 → a ≠ b → (TX3 a).2.1 ≠ (TX3 b).2.1 := by decide +kernel
theorem tyX3_ok : ∀ k, k < 3 → parseFieldDescriptor (TX3 k).2.2.1 = some (tyX3 k) := by decide +kernel
abbrev cX3_init : ByteArray := prog_5_method_1_code
def yX3_init : MethodName := ⟨RX3, "<init>", "()V"⟩
abbrev cX3_keep : ByteArray := prog_5_method_2_code
def yX3_keep : MethodName := ⟨RX3, "keep", "(LFibreBench$State;)V"⟩
abbrev cX3_restoreLatest : ByteArray := prog_5_method_3_code
def yX3_restoreLatest : MethodName := ⟨RX3, "restoreLatest", "(LFibreBench$State;)V"⟩
def RX4 : String := "FibreBench$Pairing"
def TX4 : u_T := fun k => match k with
  | 0 => ("FibreBench$Pairing", "firsts", "[I", true)
  | 1 => ("FibreBench$Pairing", "seconds", "[I", true)
  | 2 => ("FibreBench$Pairing", "taken", "[Z", true)
  | _ => ("FibreBench$Pairing", "count", "I", false)
def tyX4 : Nat → FieldType := fun k => match k with
  | 0 => .array .int
  | 1 => .array .int
  | 2 => .array .boolean
  | _ => .int
abbrev wsX40 : List Cond := u_ws RX4 TX4 4
theorem nmX4 : ∀ a, a < 4 → ∀ b, b < 4 → a ≠ b → (TX4 a).2.1 ≠ (TX4 b).2.1 := by decide +kernel
theorem tyX4_ok : ∀ k, k < 4 → parseFieldDescriptor (TX4 k).2.2.1 = some (tyX4 k) := by decide +kernel
abbrev cX4_init : ByteArray := prog_6_method_1_code
def yX4_init : MethodName := ⟨RX4, "<init>", "()V"⟩
abbrev cX4_pair : ByteArray := prog_6_method_2_code
def yX4_pair : MethodName := ⟨RX4, "pair", "(LFibreBench$EventList;LFibreBench$EventList;II)V"⟩
abbrev cX4_partner : ByteArray := prog_6_method_3_code
def yX4_partner : MethodName := ⟨RX4, "partner", "(ILFibreBench$EventList;II)I"⟩
abbrev cX4_keep : ByteArray := prog_6_method_4_code
def yX4_keep : MethodName := ⟨RX4, "keep", "(II)V"⟩
def RX5 : String := "FibreBench$State"
def TX5 : u_T := fun k => match k with
  | 0 => ("FibreBench$State", "fibre", "LFibreBench$Fibre;", true)
  | 1 => ("FibreBench$State", "map", "LFibreBench$CableMap;", true)
  | _ => ("FibreBench$State", "settings", "[I", true)
def tyX5 : Nat → FieldType := fun k => match k with
  | 0 => .object "FibreBench$Fibre"
  | 1 => .object "FibreBench$CableMap"
  | _ => .array .int
abbrev wsX50 : List Cond := u_ws RX5 TX5 3
theorem nmX5 : ∀ a, a < 3 → ∀ b, b < 3 → a ≠ b → (TX5 a).2.1 ≠ (TX5 b).2.1 := by decide +kernel
theorem tyX5_ok : ∀ k, k < 3 → parseFieldDescriptor (TX5 k).2.2.1 = some (tyX5 k) := by decide +kernel
abbrev cX5_init : ByteArray := prog_7_method_1_code
def yX5_init : MethodName := ⟨RX5, "<init>", "()V"⟩
abbrev cX5_copyFrom : ByteArray := prog_7_method_2_code
def yX5_copyFrom : MethodName := ⟨RX5, "copyFrom", "(LFibreBench$State;)V"⟩
def RX6 : String := "FibreBench$TextReader"
def TX6 : u_T := fun k => match k with
  | 0 => ("FibreBench$TextReader", "codes", "[I", true)
  | 1 => ("FibreBench$TextReader", "count", "I", false)
  | 2 => ("FibreBench$TextReader", "faultKind", "I", false)
  | 3 => ("FibreBench$TextReader", "faultPlace", "I", false)
  | _ => ("FibreBench$TextReader", "next", "I", false)
def tyX6 : Nat → FieldType := fun k => match k with
  | 0 => .array .int
  | 1 => .int
  | 2 => .int
  | 3 => .int
  | _ => .int
abbrev wsX60 : List Cond := u_ws RX6 TX6 5
theorem nmX6 : ∀ a, a < 5 → ∀ b, b < 5 → a ≠ b → (TX6 a).2.1 ≠ (TX6 b).2.1 := by decide +kernel
theorem tyX6_ok : ∀ k, k < 5 → parseFieldDescriptor (TX6 k).2.2.1 = some (tyX6 k) := by decide +kernel
abbrev cX6_init : ByteArray := prog_8_method_1_code
def yX6_init : MethodName := ⟨RX6, "<init>", "()V"⟩
abbrev cX6_append : ByteArray := prog_8_method_2_code
def yX6_append : MethodName := ⟨RX6, "append", "(I)V"⟩
abbrev cX6_readInto : ByteArray := prog_8_method_3_code
def yX6_readInto : MethodName := ⟨RX6, "readInto", "(LFibreBench$Fibre;)Z"⟩
abbrev cX6_readItem : ByteArray := prog_8_method_4_code
def yX6_readItem : MethodName := ⟨RX6, "readItem", "(LFibreBench$Fibre;)Z"⟩
abbrev cX6_readNumber : ByteArray := prog_8_method_5_code
def yX6_readNumber : MethodName := ⟨RX6, "readNumber", "(II)I"⟩
abbrev cX6_readSign : ByteArray := prog_8_method_6_code
def yX6_readSign : MethodName := ⟨RX6, "readSign", "(C)Z"⟩
abbrev cX6_codeAt : ByteArray := prog_8_method_7_code
def yX6_codeAt : MethodName := ⟨RX6, "codeAt", "(I)I"⟩
abbrev cX6_isDigit : ByteArray := prog_8_method_8_code
def yX6_isDigit : MethodName := ⟨RX6, "isDigit", "(I)Z"⟩
abbrev cX6_blame : ByteArray := prog_8_method_9_code
def yX6_blame : MethodName := ⟨RX6, "blame", "(II)V"⟩
def RX7 : String := "FibreBench$Trace"
def TX7 : u_T := fun k => match k with
  | 0 => ("FibreBench$Trace", "samples", "[I", true)
  | 1 => ("FibreBench$Trace", "width", "I", false)
  | _ => ("FibreBench$Trace", "madeAt", "I", false)
def tyX7 : Nat → FieldType := fun k => match k with
  | 0 => .array .int
  | 1 => .int
  | _ => .int
abbrev wsX70 : List Cond := u_ws RX7 TX7 3
theorem nmX7 : ∀ a, a < 3 → ∀ b, b < 3 → a ≠ b → (TX7 a).2.1 ≠ (TX7 b).2.1 := by decide +kernel
theorem tyX7_ok : ∀ k, k < 3 → parseFieldDescriptor (TX7 k).2.2.1 = some (tyX7 k) := by decide +kernel
abbrev cX7_init : ByteArray := prog_9_method_1_code
def yX7_init : MethodName := ⟨RX7, "<init>", "()V"⟩
abbrev cX7_at : ByteArray := prog_9_method_2_code
def yX7_at : MethodName := ⟨RX7, "at", "(I)I"⟩
abbrev cX7_compute : ByteArray := prog_9_method_3_code
def yX7_compute : MethodName := ⟨RX7, "compute", "(LFibreBench$View;I)V"⟩
abbrev cX7_levelBefore : ByteArray := prog_9_method_4_code
def yX7_levelBefore : MethodName := ⟨RX7, "levelBefore", "(LFibreBench$View;I)I"⟩
abbrev cX7_raiseTo : ByteArray := prog_9_method_5_code
def yX7_raiseTo : MethodName := ⟨RX7, "raiseTo", "(II)V"⟩
abbrev cX7_addReflection : ByteArray := prog_9_method_6_code
def yX7_addReflection : MethodName := ⟨RX7, "addReflection", "(LFibreBench$View;I)V"⟩
abbrev cX7_addGhost : ByteArray := prog_9_method_7_code
def yX7_addGhost : MethodName := ⟨RX7, "addGhost", "(LFibreBench$View;II)V"⟩
def RX8 : String := "FibreBench$View"
def TX8 : u_T := fun k => match k with
  | 0 => ("FibreBench$View", "losses", "[I", true)
  | 1 => ("FibreBench$View", "levels", "[I", true)
  | 2 => ("FibreBench$View", "reflectorDistances", "[I", true)
  | 3 => ("FibreBench$View", "reflectorHeights", "[I", true)
  | 4 => ("FibreBench$View", "reflectors", "I", false)
  | 5 => ("FibreBench$View", "side", "I", false)
  | 6 => ("FibreBench$View", "length", "I", false)
  | 7 => ("FibreBench$View", "end", "I", false)
  | _ => ("FibreBench$View", "madeAt", "I", false)
def tyX8 : Nat → FieldType := fun k => match k with
  | 0 => .array .int
  | 1 => .array .int
  | 2 => .array .int
  | 3 => .array .int
  | 4 => .int
  | 5 => .int
  | 6 => .int
  | 7 => .int
  | _ => .int
abbrev wsX80 : List Cond := u_ws RX8 TX8 9
theorem nmX8 : ∀ a, a < 9 → ∀ b, b < 9 → a ≠ b → (TX8 a).2.1 ≠ (TX8 b).2.1 := by decide +kernel
theorem tyX8_ok : ∀ k, k < 9 → parseFieldDescriptor (TX8 k).2.2.1 = some (tyX8 k) := by decide +kernel
abbrev cX8_init : ByteArray := prog_10_method_1_code
def yX8_init : MethodName := ⟨RX8, "<init>", "()V"⟩
abbrev cX8_look : ByteArray := prog_10_method_2_code
def yX8_look : MethodName := ⟨RX8, "look", "(LFibreBench$Fibre;I)V"⟩
abbrev cX8_distanceOf : ByteArray := prog_10_method_3_code
def yX8_distanceOf : MethodName := ⟨RX8, "distanceOf", "(I)I"⟩
abbrev cX8_lookAtUnits : ByteArray := prog_10_method_4_code
def yX8_lookAtUnits : MethodName := ⟨RX8, "lookAtUnits", "(LFibreBench$Fibre;)V"⟩
abbrev cX8_lookAtBends : ByteArray := prog_10_method_5_code
def yX8_lookAtBends : MethodName := ⟨RX8, "lookAtBends", "(LFibreBench$Fibre;)V"⟩
abbrev cX8_lookAtJoints : ByteArray := prog_10_method_6_code
def yX8_lookAtJoints : MethodName := ⟨RX8, "lookAtJoints", "(LFibreBench$Fibre;)V"⟩
abbrev cX8_addReflector : ByteArray := prog_10_method_7_code
def yX8_addReflector : MethodName := ⟨RX8, "addReflector", "(II)V"⟩
abbrev cX8_lossUpTo : ByteArray := prog_10_method_8_code
def yX8_lossUpTo : MethodName := ⟨RX8, "lossUpTo", "(I)I"⟩
abbrev cX8_levelAt : ByteArray := prog_10_method_9_code
def yX8_levelAt : MethodName := ⟨RX8, "levelAt", "(I)I"⟩
def RX9 : String := "FibreBench"
def TX9 : u_T := fun k => match k with
  | 0 => ("FibreBench", "now", "LFibreBench$State;", true)
  | 1 => ("FibreBench", "history", "LFibreBench$History;", true)
  | 2 => ("FibreBench", "draft", "LFibreBench$Fibre;", true)
  | 3 => ("FibreBench", "text", "LFibreBench$TextReader;", true)
  | 4 => ("FibreBench", "views", "[LFibreBench$View;", true)
  | 5 => ("FibreBench", "traces", "[LFibreBench$Trace;", true)
  | 6 => ("FibreBench", "eventLists", "[LFibreBench$EventList;", true)
  | 7 => ("FibreBench", "pairing", "LFibreBench$Pairing;", true)
  | _ => ("FibreBench", "version", "I", false)
def tyX9 : Nat → FieldType := fun k => match k with
  | 0 => .object "FibreBench$State"
  | 1 => .object "FibreBench$History"
  | 2 => .object "FibreBench$Fibre"
  | 3 => .object "FibreBench$TextReader"
  | 4 => .array (.object "FibreBench$View")
  | 5 => .array (.object "FibreBench$Trace")
  | 6 => .array (.object "FibreBench$EventList")
  | 7 => .object "FibreBench$Pairing"
  | _ => .int
abbrev wsX90 : List Cond := u_ws RX9 TX9 9
theorem nmX9 : ∀ a, a < 9 → ∀ b, b < 9 → a ≠ b → (TX9 a).2.1 ≠ (TX9 b).2.1 := by decide +kernel
theorem tyX9_ok : ∀ k, k < 9 → parseFieldDescriptor (TX9 k).2.2.1 = some (tyX9 k) := by decide +kernel
abbrev cX9_init : ByteArray := prog_1_method_1_code
def yX9_init : MethodName := ⟨RX9, "<init>", "()V"⟩
abbrev cX9_begin : ByteArray := prog_1_method_2_code
def yX9_begin : MethodName := ⟨RX9, "begin", "(III)I"⟩
abbrev cX9_addSection : ByteArray := prog_1_method_3_code
def yX9_addSection : MethodName := ⟨RX9, "addSection", "(III)I"⟩
abbrev cX9_setJoint : ByteArray := prog_1_method_4_code
def yX9_setJoint : MethodName := ⟨RX9, "setJoint", "(III)I"⟩
abbrev cX9_addBend : ByteArray := prog_1_method_5_code
def yX9_addBend : MethodName := ⟨RX9, "addBend", "(II)I"⟩
abbrev cX9_removeBend : ByteArray := prog_1_method_6_code
def yX9_removeBend : MethodName := ⟨RX9, "removeBend", "(I)I"⟩
abbrev cX9_setBreak : ByteArray := prog_1_method_7_code
def yX9_setBreak : MethodName := ⟨RX9, "setBreak", "(II)I"⟩
abbrev cX9_set : ByteArray := prog_1_method_8_code
def yX9_set : MethodName := ⟨RX9, "set", "(II)I"⟩
abbrev cX9_undo : ByteArray := prog_1_method_9_code
def yX9_undo : MethodName := ⟨RX9, "undo", "()I"⟩
abbrev cX9_told : ByteArray := prog_1_method_10_code
def yX9_told : MethodName := ⟨RX9, "told", "(I)I"⟩
abbrev cX9_section : ByteArray := prog_1_method_11_code
def yX9_section : MethodName := ⟨RX9, "section", "(II)I"⟩
abbrev cX9_joint : ByteArray := prog_1_method_12_code
def yX9_joint : MethodName := ⟨RX9, "joint", "(II)I"⟩
abbrev cX9_bend : ByteArray := prog_1_method_13_code
def yX9_bend : MethodName := ⟨RX9, "bend", "(II)I"⟩
abbrev cX9_lossTo : ByteArray := prog_1_method_14_code
def yX9_lossTo : MethodName := ⟨RX9, "lossTo", "(II)I"⟩
abbrev cX9_sample : ByteArray := prog_1_method_15_code
def yX9_sample : MethodName := ⟨RX9, "sample", "(III)I"⟩
abbrev cX9_meanLoss : ByteArray := prog_1_method_16_code
def yX9_meanLoss : MethodName := ⟨RX9, "meanLoss", "(IIII)F"⟩
abbrev cX9_visible : ByteArray := prog_1_method_17_code
def yX9_visible : MethodName := ⟨RX9, "visible", "(II)I"⟩
abbrev cX9_stitched : ByteArray := prog_1_method_18_code
def yX9_stitched : MethodName := ⟨RX9, "stitched", "(II)I"⟩
abbrev cX9_stitchedCount : ByteArray := prog_1_method_19_code
def yX9_stitchedCount : MethodName := ⟨RX9, "stitchedCount", "(I)I"⟩
abbrev cX9_events : ByteArray := prog_1_method_20_code
def yX9_events : MethodName := ⟨RX9, "events", "(II)I"⟩
abbrev cX9_event : ByteArray := prog_1_method_21_code
def yX9_event : MethodName := ⟨RX9, "event", "(IIII)I"⟩
abbrev cX9_ghosts : ByteArray := prog_1_method_22_code
def yX9_ghosts : MethodName := ⟨RX9, "ghosts", "(II)I"⟩
abbrev cX9_endSeen : ByteArray := prog_1_method_23_code
def yX9_endSeen : MethodName := ⟨RX9, "endSeen", "(II)I"⟩
abbrev cX9_joinedCount : ByteArray := prog_1_method_24_code
def yX9_joinedCount : MethodName := ⟨RX9, "joinedCount", "(I)I"⟩
abbrev cX9_joined : ByteArray := prog_1_method_25_code
def yX9_joined : MethodName := ⟨RX9, "joined", "(III)I"⟩
abbrev cX9_addPoint : ByteArray := prog_1_method_26_code
def yX9_addPoint : MethodName := ⟨RX9, "addPoint", "(II)I"⟩
abbrev cX9_clearMap : ByteArray := prog_1_method_27_code
def yX9_clearMap : MethodName := ⟨RX9, "clearMap", "()I"⟩
abbrev cX9_setExcess : ByteArray := prog_1_method_28_code
def yX9_setExcess : MethodName := ⟨RX9, "setExcess", "(I)I"⟩
abbrev cX9_point : ByteArray := prog_1_method_29_code
def yX9_point : MethodName := ⟨RX9, "point", "(II)I"⟩
abbrev cX9_toRoute : ByteArray := prog_1_method_30_code
def yX9_toRoute : MethodName := ⟨RX9, "toRoute", "(I)I"⟩
abbrev cX9_pointBefore : ByteArray := prog_1_method_31_code
def yX9_pointBefore : MethodName := ⟨RX9, "pointBefore", "(I)I"⟩
abbrev cX9_placed : ByteArray := prog_1_method_32_code
def yX9_placed : MethodName := ⟨RX9, "placed", "(II)I"⟩
abbrev cX9_write : ByteArray := prog_1_method_33_code
def yX9_write : MethodName := ⟨RX9, "write", "(I)I"⟩
abbrev cX9_wipe : ByteArray := prog_1_method_34_code
def yX9_wipe : MethodName := ⟨RX9, "wipe", "()I"⟩
abbrev cX9_load : ByteArray := prog_1_method_35_code
def yX9_load : MethodName := ⟨RX9, "load", "()I"⟩
abbrev cX9_fault : ByteArray := prog_1_method_36_code
def yX9_fault : MethodName := ⟨RX9, "fault", "(I)I"⟩
abbrev cX9_isWithin : ByteArray := prog_1_method_37_code
def yX9_isWithin : MethodName := ⟨RX9, "isWithin", "(III)Z"⟩
abbrev cX9_isSide : ByteArray := prog_1_method_38_code
def yX9_isSide : MethodName := ⟨RX9, "isSide", "(I)Z"⟩
abbrev cX9_isWidth : ByteArray := prog_1_method_39_code
def yX9_isWidth : MethodName := ⟨RX9, "isWidth", "(I)Z"⟩
abbrev cX9_isDistance : ByteArray := prog_1_method_40_code
def yX9_isDistance : MethodName := ⟨RX9, "isDistance", "(I)Z"⟩
abbrev cX9_isSection : ByteArray := prog_1_method_41_code
def yX9_isSection : MethodName := ⟨RX9, "isSection", "(III)Z"⟩
abbrev cX9_copyRow : ByteArray := prog_1_method_42_code
def yX9_copyRow : MethodName := ⟨RX9, "copyRow", "([I[I)V"⟩
abbrev cX9_recordChange : ByteArray := prog_1_method_43_code
def yX9_recordChange : MethodName := ⟨RX9, "recordChange", "()V"⟩
abbrev cX9_viewOf : ByteArray := prog_1_method_44_code
def yX9_viewOf : MethodName := ⟨RX9, "viewOf", "(I)LFibreBench$View;"⟩
abbrev cX9_traceOf : ByteArray := prog_1_method_45_code
def yX9_traceOf : MethodName := ⟨RX9, "traceOf", "(II)LFibreBench$Trace;"⟩
abbrev cX9_slotOf : ByteArray := prog_1_method_46_code
def yX9_slotOf : MethodName := ⟨RX9, "slotOf", "(II)I"⟩
abbrev cX9_stitchedAt : ByteArray := prog_1_method_47_code
def yX9_stitchedAt : MethodName := ⟨RX9, "stitchedAt", "(II)I"⟩
abbrev cX9_eventsOf : ByteArray := prog_1_method_48_code
def yX9_eventsOf : MethodName := ⟨RX9, "eventsOf", "(II)LFibreBench$EventList;"⟩
abbrev cX9_joinSides : ByteArray := prog_1_method_49_code
def yX9_joinSides : MethodName := ⟨RX9, "joinSides", "(LFibreBench$EventList;LFibreBench$EventList;)V"⟩
abbrev cX9_routeOfEnd : ByteArray := prog_1_method_50_code
def yX9_routeOfEnd : MethodName := ⟨RX9, "routeOfEnd", "(II)I"⟩
def RX10 : String := "FibreBenchModel"
def TX10 : u_T := fun k => match k with
  | 0 => ("FibreBenchModel", "w", "[I", true)
  | 1 => ("FibreBenchModel", "past", "[I", true)
  | 2 => ("FibreBenchModel", "changes", "I", false)
  | 3 => ("FibreBenchModel", "laidSide", "I", false)
  | 4 => ("FibreBenchModel", "laidWidth", "I", false)
  | 5 => ("FibreBenchModel", "text", "[I", true)
  | 6 => ("FibreBenchModel", "length", "I", false)
  | 7 => ("FibreBenchModel", "faultPlace", "I", false)
  | 8 => ("FibreBenchModel", "faultKind", "I", false)
  | 9 => ("FibreBenchModel", "losses", "[I", true)
  | 10 => ("FibreBenchModel", "scatters", "[I", true)
  | 11 => ("FibreBenchModel", "reflectors", "[I", true)
  | 12 => ("FibreBenchModel", "many", "I", false)
  | 13 => ("FibreBenchModel", "trace", "[I", true)
  | 14 => ("FibreBenchModel", "stitches", "[I", true)
  | 15 => ("FibreBenchModel", "eventsOf", "[I", true)
  | 16 => ("FibreBenchModel", "events", "I", false)
  | 17 => ("FibreBenchModel", "pairs", "[I", true)
  | 18 => ("FibreBenchModel", "isTaken", "[I", true)
  | 19 => ("FibreBenchModel", "joins", "I", false)
  | 20 => ("FibreBenchModel", "at", "I", false)
  | 21 => ("FibreBenchModel", "wrongPlace", "I", false)
  | 22 => ("FibreBenchModel", "wrongKind", "I", false)
  | 23 => ("FibreBenchModel", "read", "[I", true)
  | _ => ("FibreBenchModel", "items", "I", false)
def tyX10 : Nat → FieldType := fun k => match k with
  | 0 => .array .int
  | 1 => .array .int
  | 2 => .int
  | 3 => .int
  | 4 => .int
  | 5 => .array .int
  | 6 => .int
  | 7 => .int
  | 8 => .int
  | 9 => .array .int
  | 10 => .array .int
  | 11 => .array .int
  | 12 => .int
  | 13 => .array .int
  | 14 => .array .int
  | 15 => .array .int
  | 16 => .int
  | 17 => .array .int
  | 18 => .array .int
  | 19 => .int
  | 20 => .int
  | 21 => .int
  | 22 => .int
  | 23 => .array .int
  | _ => .int
abbrev wsX100 : List Cond := u_ws RX10 TX10 25
theorem nmX10 : ∀ a, a < 25 → ∀ b, b < 25 → a ≠ b → (TX10 a).2.1 ≠ (TX10 b).2.1 := by decide +kernel
theorem tyX10_ok : ∀ k, k < 25 → parseFieldDescriptor (TX10 k).2.2.1 = some (tyX10 k) := by decide +kernel
abbrev cX10_init : ByteArray := prog_12_method_1_code
def yX10_init : MethodName := ⟨RX10, "<init>", "()V"⟩
abbrev cX10_isIn : ByteArray := prog_12_method_2_code
def yX10_isIn : MethodName := ⟨RX10, "isIn", "(III)Z"⟩
abbrev cX10_clearFibre : ByteArray := prog_12_method_3_code
def yX10_clearFibre : MethodName := ⟨RX10, "clearFibre", "()V"⟩
abbrev cX10_append : ByteArray := prog_12_method_4_code
def yX10_append : MethodName := ⟨RX10, "append", "(III)V"⟩
abbrev cX10_renew : ByteArray := prog_12_method_5_code
def yX10_renew : MethodName := ⟨RX10, "renew", "(III)V"⟩
abbrev cX10_placeOf : ByteArray := prog_12_method_6_code
def yX10_placeOf : MethodName := ⟨RX10, "placeOf", "(I)I"⟩
abbrev cX10_whole : ByteArray := prog_12_method_7_code
def yX10_whole : MethodName := ⟨RX10, "whole", "()I"⟩
abbrev cX10_keep : ByteArray := prog_12_method_8_code
def yX10_keep : MethodName := ⟨RX10, "keep", "()V"⟩
abbrev cX10_isSection : ByteArray := prog_12_method_9_code
def yX10_isSection : MethodName := ⟨RX10, "isSection", "(III)Z"⟩
abbrev cX10_begin : ByteArray := prog_12_method_10_code
def yX10_begin : MethodName := ⟨RX10, "begin", "(III)I"⟩
abbrev cX10_addSection : ByteArray := prog_12_method_11_code
def yX10_addSection : MethodName := ⟨RX10, "addSection", "(III)I"⟩
abbrev cX10_isJoint : ByteArray := prog_12_method_12_code
def yX10_isJoint : MethodName := ⟨RX10, "isJoint", "(I)Z"⟩
abbrev cX10_setJoint : ByteArray := prog_12_method_13_code
def yX10_setJoint : MethodName := ⟨RX10, "setJoint", "(III)I"⟩
abbrev cX10_addBend : ByteArray := prog_12_method_14_code
def yX10_addBend : MethodName := ⟨RX10, "addBend", "(II)I"⟩
abbrev cX10_isBend : ByteArray := prog_12_method_15_code
def yX10_isBend : MethodName := ⟨RX10, "isBend", "(I)Z"⟩
abbrev cX10_removeBend : ByteArray := prog_12_method_16_code
def yX10_removeBend : MethodName := ⟨RX10, "removeBend", "(I)I"⟩
abbrev cX10_setBreak : ByteArray := prog_12_method_17_code
def yX10_setBreak : MethodName := ⟨RX10, "setBreak", "(II)I"⟩
abbrev cX10_set : ByteArray := prog_12_method_18_code
def yX10_set : MethodName := ⟨RX10, "set", "(II)I"⟩
abbrev cX10_undo : ByteArray := prog_12_method_19_code
def yX10_undo : MethodName := ⟨RX10, "undo", "()I"⟩
abbrev cX10_told : ByteArray := prog_12_method_20_code
def yX10_told : MethodName := ⟨RX10, "told", "(I)I"⟩
abbrev cX10_section : ByteArray := prog_12_method_21_code
def yX10_section : MethodName := ⟨RX10, "section", "(II)I"⟩
abbrev cX10_joint : ByteArray := prog_12_method_22_code
def yX10_joint : MethodName := ⟨RX10, "joint", "(II)I"⟩
abbrev cX10_bend : ByteArray := prog_12_method_23_code
def yX10_bend : MethodName := ⟨RX10, "bend", "(II)I"⟩
abbrev cX10_far : ByteArray := prog_12_method_24_code
def yX10_far : MethodName := ⟨RX10, "far", "(II)I"⟩
abbrev cX10_sectionOf : ByteArray := prog_12_method_25_code
def yX10_sectionOf : MethodName := ⟨RX10, "sectionOf", "(II)I"⟩
abbrev cX10_layLosses : ByteArray := prog_12_method_26_code
def yX10_layLosses : MethodName := ⟨RX10, "layLosses", "(I)V"⟩
abbrev cX10_isSide : ByteArray := prog_12_method_27_code
def yX10_isSide : MethodName := ⟨RX10, "isSide", "(I)Z"⟩
abbrev cX10_lossTo : ByteArray := prog_12_method_28_code
def yX10_lossTo : MethodName := ⟨RX10, "lossTo", "(II)I"⟩
abbrev cX10_scattered : ByteArray := prog_12_method_29_code
def yX10_scattered : MethodName := ⟨RX10, "scattered", "(II)I"⟩
abbrev cX10_before : ByteArray := prog_12_method_30_code
def yX10_before : MethodName := ⟨RX10, "before", "(II)I"⟩
abbrev cX10_reflect : ByteArray := prog_12_method_31_code
def yX10_reflect : MethodName := ⟨RX10, "reflect", "(II)V"⟩
abbrev cX10_layReflectors : ByteArray := prog_12_method_32_code
def yX10_layReflectors : MethodName := ⟨RX10, "layReflectors", "(II)V"⟩
abbrev cX10_raise : ByteArray := prog_12_method_33_code
def yX10_raise : MethodName := ⟨RX10, "raise", "(II)V"⟩
abbrev cX10_addReflector : ByteArray := prog_12_method_34_code
def yX10_addReflector : MethodName := ⟨RX10, "addReflector", "(III)V"⟩
abbrev cX10_addGhost : ByteArray := prog_12_method_35_code
def yX10_addGhost : MethodName := ⟨RX10, "addGhost", "(III)V"⟩
abbrev cX10_layTrace : ByteArray := prog_12_method_36_code
def yX10_layTrace : MethodName := ⟨RX10, "layTrace", "(II)V"⟩
abbrev cX10_isTrace : ByteArray := prog_12_method_37_code
def yX10_isTrace : MethodName := ⟨RX10, "isTrace", "(II)Z"⟩
abbrev cX10_sample : ByteArray := prog_12_method_38_code
def yX10_sample : MethodName := ⟨RX10, "sample", "(III)I"⟩
abbrev cX10_meanLoss : ByteArray := prog_12_method_39_code
def yX10_meanLoss : MethodName := ⟨RX10, "meanLoss", "(IIII)F"⟩
abbrev cX10_visible : ByteArray := prog_12_method_40_code
def yX10_visible : MethodName := ⟨RX10, "visible", "(II)I"⟩
abbrev cX10_stitch : ByteArray := prog_12_method_41_code
def yX10_stitch : MethodName := ⟨RX10, "stitch", "(II)V"⟩
abbrev cX10_layStitches : ByteArray := prog_12_method_42_code
def yX10_layStitches : MethodName := ⟨RX10, "layStitches", "(I)V"⟩
abbrev cX10_stitched : ByteArray := prog_12_method_43_code
def yX10_stitched : MethodName := ⟨RX10, "stitched", "(II)I"⟩
abbrev cX10_stitchedCount : ByteArray := prog_12_method_44_code
def yX10_stitchedCount : MethodName := ⟨RX10, "stitchedCount", "(I)I"⟩
abbrev cX10_deviation : ByteArray := prog_12_method_45_code
def yX10_deviation : MethodName := ⟨RX10, "deviation", "(I)I"⟩
abbrev cX10_isMarked : ByteArray := prog_12_method_46_code
def yX10_isMarked : MethodName := ⟨RX10, "isMarked", "(I)Z"⟩
abbrev cX10_of : ByteArray := prog_12_method_47_code
def yX10_of : MethodName := ⟨RX10, "of", "(II)I"⟩
abbrev cX10_addEvent : ByteArray := prog_12_method_48_code
def yX10_addEvent : MethodName := ⟨RX10, "addEvent", "(II)V"⟩
abbrev cX10_name : ByteArray := prog_12_method_49_code
def yX10_name : MethodName := ⟨RX10, "name", "(II)V"⟩
abbrev cX10_addEvents : ByteArray := prog_12_method_50_code
def yX10_addEvents : MethodName := ⟨RX10, "addEvents", "(II)V"⟩
abbrev cX10_layEvents : ByteArray := prog_12_method_51_code
def yX10_layEvents : MethodName := ⟨RX10, "layEvents", "(II)V"⟩
abbrev cX10_events : ByteArray := prog_12_method_52_code
def yX10_events : MethodName := ⟨RX10, "events", "(II)I"⟩
abbrev cX10_event : ByteArray := prog_12_method_53_code
def yX10_event : MethodName := ⟨RX10, "event", "(IIII)I"⟩
abbrev cX10_ghosts : ByteArray := prog_12_method_54_code
def yX10_ghosts : MethodName := ⟨RX10, "ghosts", "(II)I"⟩
abbrev cX10_firstEnd : ByteArray := prog_12_method_55_code
def yX10_firstEnd : MethodName := ⟨RX10, "firstEnd", "(II)I"⟩
abbrev cX10_endSeen : ByteArray := prog_12_method_56_code
def yX10_endSeen : MethodName := ⟨RX10, "endSeen", "(II)I"⟩
abbrev cX10_layJoins : ByteArray := prog_12_method_57_code
def yX10_layJoins : MethodName := ⟨RX10, "layJoins", "(I)V"⟩
abbrev cX10_joinedCount : ByteArray := prog_12_method_58_code
def yX10_joinedCount : MethodName := ⟨RX10, "joinedCount", "(I)I"⟩
abbrev cX10_joined : ByteArray := prog_12_method_59_code
def yX10_joined : MethodName := ⟨RX10, "joined", "(III)I"⟩
abbrev cX10_addPoint : ByteArray := prog_12_method_60_code
def yX10_addPoint : MethodName := ⟨RX10, "addPoint", "(II)I"⟩
abbrev cX10_clearMap : ByteArray := prog_12_method_61_code
def yX10_clearMap : MethodName := ⟨RX10, "clearMap", "()I"⟩
abbrev cX10_setExcess : ByteArray := prog_12_method_62_code
def yX10_setExcess : MethodName := ⟨RX10, "setExcess", "(I)I"⟩
abbrev cX10_reach : ByteArray := prog_12_method_63_code
def yX10_reach : MethodName := ⟨RX10, "reach", "(I)I"⟩
abbrev cX10_point : ByteArray := prog_12_method_64_code
def yX10_point : MethodName := ⟨RX10, "point", "(II)I"⟩
abbrev cX10_onRoute : ByteArray := prog_12_method_65_code
def yX10_onRoute : MethodName := ⟨RX10, "onRoute", "(I)I"⟩
abbrev cX10_toRoute : ByteArray := prog_12_method_66_code
def yX10_toRoute : MethodName := ⟨RX10, "toRoute", "(I)I"⟩
abbrev cX10_pointBefore : ByteArray := prog_12_method_67_code
def yX10_pointBefore : MethodName := ⟨RX10, "pointBefore", "(I)I"⟩
abbrev cX10_placed : ByteArray := prog_12_method_68_code
def yX10_placed : MethodName := ⟨RX10, "placed", "(II)I"⟩
abbrev cX10_write : ByteArray := prog_12_method_69_code
def yX10_write : MethodName := ⟨RX10, "write", "(I)I"⟩
abbrev cX10_wipe : ByteArray := prog_12_method_70_code
def yX10_wipe : MethodName := ⟨RX10, "wipe", "()I"⟩
abbrev cX10_isWrong : ByteArray := prog_12_method_71_code
def yX10_isWrong : MethodName := ⟨RX10, "isWrong", "()Z"⟩
abbrev cX10_fails : ByteArray := prog_12_method_72_code
def yX10_fails : MethodName := ⟨RX10, "fails", "(II)V"⟩
abbrev cX10_isDigit : ByteArray := prog_12_method_73_code
def yX10_isDigit : MethodName := ⟨RX10, "isDigit", "()Z"⟩
abbrev cX10_readNumber : ByteArray := prog_12_method_74_code
def yX10_readNumber : MethodName := ⟨RX10, "readNumber", "(II)I"⟩
abbrev cX10_want : ByteArray := prog_12_method_75_code
def yX10_want : MethodName := ⟨RX10, "want", "(I)V"⟩
abbrev cX10_readItem : ByteArray := prog_12_method_76_code
def yX10_readItem : MethodName := ⟨RX10, "readItem", "(I)V"⟩
abbrev cX10_readAll : ByteArray := prog_12_method_77_code
def yX10_readAll : MethodName := ⟨RX10, "readAll", "()V"⟩
abbrev cX10_load : ByteArray := prog_12_method_78_code
def yX10_load : MethodName := ⟨RX10, "load", "()I"⟩
abbrev cX10_fault : ByteArray := prog_12_method_79_code
def yX10_fault : MethodName := ⟨RX10, "fault", "(I)I"⟩
def RJ9 : String := "java/lang/Math"
def TJ9 : u_T := fun k => match k with
  | _ => ("", "", "", false)
def tyJ9 : Nat → FieldType := fun k => match k with
  | _ => .int
abbrev wsJ90 : List Cond := u_ws RJ9 TJ9 0
theorem nmJ9 : ∀ a, a < 0 → ∀ b, b < 0 → a ≠ b → (TJ9 a).2.1 ≠ (TJ9 b).2.1 := by decide +kernel
theorem tyJ9_ok : ∀ k, k < 0 → parseFieldDescriptor (TJ9 k).2.2.1 = some (tyJ9 k) := by decide +kernel
abbrev cJ9_abs_0f7a4 : ByteArray := prog_13_method_59_code
def yJ9_abs_0f7a4 : MethodName := ⟨RJ9, "abs", "(I)I"⟩
abbrev cJ9_max_7cf53 : ByteArray := prog_13_method_65_code
def yJ9_max_7cf53 : MethodName := ⟨RJ9, "max", "(II)I"⟩
abbrev cJ9_min_7cf53 : ByteArray := prog_13_method_69_code
def yJ9_min_7cf53 : MethodName := ⟨RJ9, "min", "(II)I"⟩
def RJ10 : String := "java/lang/System"
def TJ10 : u_T := fun k => match k with
  | _ => ("", "", "", false)
def tyJ10 : Nat → FieldType := fun k => match k with
  | _ => .int
abbrev wsJ100 : List Cond := u_ws RJ10 TJ10 0
theorem nmJ10 : ∀ a, a < 0 → ∀ b, b < 0 → a ≠ b → (TJ10 a).2.1 ≠ (TJ10 b).2.1 := by decide +kernel
theorem tyJ10_ok : ∀ k, k < 0 → parseFieldDescriptor (TJ10 k).2.2.1 = some (tyJ10 k) := by decide +kernel
def RJ7 : String := "java/util/Arrays"
def TJ7 : u_T := fun k => match k with
  | _ => ("", "", "", false)
def tyJ7 : Nat → FieldType := fun k => match k with
  | _ => .int
abbrev wsJ70 : List Cond := u_ws RJ7 TJ7 0
theorem nmJ7 : ∀ a, a < 0 → ∀ b, b < 0 → a ≠ b → (TJ7 a).2.1 ≠ (TJ7 b).2.1 := by decide +kernel
theorem tyJ7_ok : ∀ k, k < 0 → parseFieldDescriptor (TJ7 k).2.2.1 = some (tyJ7 k) := by decide +kernel
abbrev cJ7_fill_53178 : ByteArray := prog_15_method_103_code
def yJ7_fill_53178 : MethodName := ⟨RJ7, "fill", "([II)V"⟩
def RL : String := "FibreBenchLaw"
abbrev cL_law : ByteArray := code
def yL_law : MethodName := ⟨RL, "law", "([I)Z"⟩
abbrev vwCl : List vw_C := [(RX0, TX0, 4), (RX1, TX1, 9), (RX2, TX2, 11), (RX3, TX3, 3), (RX4, TX4, 4), (RX5, TX5, 3), (RX6, TX6, 5), (RX7, TX7, 3), (RX8, TX8, 9), (RX9, TX9, 9), (RX10, TX10, 25)]
theorem inX0 : ∀ w ∈ wsX00, w ∈ lw_tbl := by decide +kernel
theorem inX1 : ∀ w ∈ wsX10, w ∈ lw_tbl := by decide +kernel
theorem inX2 : ∀ w ∈ wsX20, w ∈ lw_tbl := by decide +kernel
theorem inX3 : ∀ w ∈ wsX30, w ∈ lw_tbl := by decide +kernel
theorem inX4 : ∀ w ∈ wsX40, w ∈ lw_tbl := by decide +kernel
theorem inX5 : ∀ w ∈ wsX50, w ∈ lw_tbl := by decide +kernel
theorem inX6 : ∀ w ∈ wsX60, w ∈ lw_tbl := by decide +kernel
theorem inX7 : ∀ w ∈ wsX70, w ∈ lw_tbl := by decide +kernel
theorem inX8 : ∀ w ∈ wsX80, w ∈ lw_tbl := by decide +kernel
theorem inX9 : ∀ w ∈ wsX90, w ∈ lw_tbl := by decide +kernel
theorem inX10 : ∀ w ∈ wsX100, w ∈ lw_tbl := by decide +kernel
end
section
/-! The pure machine's words: a memory of ints by address and slot, a fixed shape (kinds, references, lengths), and a judgement fx_At over it; every rule x_.. below is one instruction. -/
abbrev fxM : Type := Nat → Nat → Int
abbrev fxV : Type := Int ⊕ Nat
abbrev fxE : Type := ((Nat → Nat) × (Nat → Nat → Nat) × (Nat → Nat) × (Nat → Nat)) × va_G × (Nat → ClassId) × List Nat × (Nat → Prop)
def kd (E : fxE) (a : Nat) : Nat := E.1.1 a
def rf (E : fxE) (a k : Nat) : Nat := E.1.2.1 a k
def ln (E : fxE) (a : Nat) : Nat := E.1.2.2.1 a
def sta (E : fxE) (j : Nat) : Nat := E.1.2.2.2 j
def eD (E : fxE) : va_G := E.2.1
def eY (E : fxE) : Nat → ClassId := E.2.2.1
def eL (E : fxE) : List Nat := E.2.2.2.1
def eA (E : fxE) : Nat → Prop := E.2.2.2.2
def i3 (x : Int) : Int32 := Int32.ofInt x
def inR (x : Int) : Prop := -2147483648 ≤ x ∧ x < 2147483648
def em : fxV → Value
  | .inl i => .int (i3 i)
  | .inr a => .ref a
/-- true: a reference -/
def lay : Nat → List Bool
  | 0 => [true, true, false, false]
  | 1 => [true, true, true, true, true, true, false, false, false]
  | 2 => [true, true, true, false, true, true, true, true, false, false, false]
  | 3 => [true, false, false]
  | 4 => [true, true, true, false]
  | 5 => [true, true, true]
  | 6 => [true, false, false, false, false]
  | 7 => [true, false, false]
  | 8 => [true, true, true, true, false, false, false, false, false]
  | 9 => [true, true, true, true, true, true, true, true, false]
  | 10 => [true, true, false, false, false, true, false, false, false, true, true, true, false, true, true, true, false, true, true, false, false, false, false, true, false]
  | _ => []
def flds (C : Nat) (g : Nat → Nat) (r : Nat → Int) : List Value := (lay C).mapIdx (fun j b => if b then Value.ref (g j) else .int (i3 (r j)))
def cel (E : fxE) (a : Nat) (r : Nat → Int) : va_E :=
  if kd E a ≤ 10 then .inr (kd E a, flds (kd E a) (rf E a) r)
  else if kd E a ≤ 12 then .inl (eY E (kd E a), ln E a, .inl (fun j => i3 (r j)))
  else .inl (eY E (kd E a), ln E a, .inr (.inr (.inr (.inr (fun j => some (rf E a j))))))
def fx_pl (E : fxE) (M : fxM) : va_W := va_pl (eL E) (fun a => cel E a (M a))
def fx_P (E : fxE) (M : fxM) (H : Heap) : Prop := va_P (eD E) vwCl (fx_pl E M) H
def fx_ty (E : fxE) : List (ClassId × FieldType) := [(eY E 11, .int), (eY E 12, .boolean), (eY E 13, .object RX1), (eY E 14, .object RX5), (eY E 15, .object RX7), (eY E 16, .object RX8)]
/-- the written-out static rows: their contents -/
def sv : Nat → Nat → Int
  | 0 => fun j => if j = 1 then 1 else 0
  | 1 => fun j => if j = 0 then 60 else if j = 1 then 5000 else if j = 2 then 20 else 9000
  | _ => fun j => if j = 0 then 1 else if j = 1 then 3 else 9
def sN : Nat → Nat
  | 0 => 4
  | 1 => 4
  | _ => 3
def fx_st (E : fxE) (s : State) (H : Heap) : Prop :=
  (va_Z "FibreBench" "LEAST_SETTING" "[I" (.ref (sta E 0)) (eA E) s H ∧ va_T .int (sta E 0) 4 (fun j => .int (i3 (sv 0 j))) (eA E) s H) ∧
  (va_Z "FibreBench" "GREATEST_SETTING" "[I" (.ref (sta E 1)) (eA E) s H ∧ va_T .int (sta E 1) 4 (fun j => .int (i3 (sv 1 j))) (eA E) s H) ∧
  (va_Z "FibreBench" "STITCH_WIDTHS" "[I" (.ref (sta E 2)) (eA E) s H ∧ va_T .int (sta E 2) 3 (fun j => .int (i3 (sv 2 j))) (eA E) s H)
def fx_ns (s : State) : Prop := va_Nw (.methodLinkNest RX0 25 yX9_copyRow RX9) s ∧ va_Nw (.methodLinkNest RX2 46 yX9_copyRow RX9) s ∧ va_Nw (.methodLinkNest RX5 39 yX9_copyRow RX9) s
def fx_W (E : fxE) (M : fxM) (U : State) : Prop := fx_P E M U.heap ∧ va_K (eD E) vwCl (fx_ty E) U ∧ fx_st E U U.heap ∧ fx_ns U
/-- what is fixed of the shape: every cell of a kind is in the pool, the pool's addresses are apart and free, the static rows have kinds of their own, lengths are small -/
def fx_Ok (E : fxE) : Prop := (∀ a, kd E a ≤ 16 → a ∈ eL E) ∧ va_D (eA E) (va_pl (eL E) (fun _ => .inr (0, []))) ∧ (∀ a, ln E a < 2147483648) ∧ (∀ j, j < 3 → kd E (sta E j) = 20 + j) ∧ (∀ a j, j < 3 → kd E a = 20 + j → a = sta E j)
/-- name, code, locals, answer, frames and words of locals that it asks -/
abbrev fxY : Type := MethodName × ByteArray × Nat × Option FieldType × Nat × Nat
abbrev mN (y : fxY) : MethodName := y.1
abbrev mC (y : fxY) : ByteArray := y.2.1
abbrev mL (y : fxY) : Nat := y.2.2.1
abbrev mT (y : fxY) : Option FieldType := y.2.2.2.1
abbrev mF (y : fxY) : Nat := y.2.2.2.2.1
abbrev mO (y : fxY) : Nat := y.2.2.2.2.2
def mR (y : fxY) : Room := { frames := mF y, cells := 0, slots := 0, locals := mO y }
def lw_good : List Cond := lw_tbl.filter goodWord
theorem lw_goodI {w : Cond} (h : w ∈ lw_tbl) (g : goodWord w = true) : w ∈ lw_good := List.mem_filter.mpr ⟨h, g⟩
def mW (y : fxY) : List Cond := Cond.code (mN y) (mC y) (mL y) (mT y) :: lw_good
theorem fx_goodIn {y z : fxY} (h : Cond.code (mN z) (mC z) (mL z) (mT z) ∈ lw_good) : GoodIn (mW y) (mW z) := by
  intro w hw
  rcases List.mem_cons.mp hw with rfl | hw
  · exact ⟨List.mem_cons_of_mem _ h, good_of_word (List.mem_filter.mp h).2⟩
  · exact ⟨List.mem_cons_of_mem _ hw, good_of_word (List.mem_filter.mp hw).2⟩
/-- a method's end: its answer and its memory, in the pool's words -/
def fx_Q (E : fxE) (Q : Option fxV → fxM → Prop) : Array Value → State → Outcome → State → Prop := fun _ st oc t =>
  (∃ (r : Option fxV) (M : fxM), oc = .returned (r.map em) ∧ Q r M ∧ fx_W E M t) ∧ va_F (eA E) st t
def fx_C (E : fxE) (y : fxY) (p : Program) (s : State) (m : MethodId) (args : Array Value) (meth : Method) (c : Code) : Prop :=
  p.tables.exec = Jvm.exec ∧ c.code = mC y ∧ c.maxLocals = mL y ∧ meth.sig.returnType = mT y ∧ meth.locks = false ∧ s.vm.findClass (mN y).cls = some m.cls ∧ (∀ w ∈ mW y, w.before args s = true) ∧ va_K (eD E) vwCl (fx_ty E) s ∧ fx_st E s s.heap ∧ fx_ns s
def fx_prs (lv : List (Option fxV)) : List (Nat × Value) := (List.range lv.length).filterMap (fun i => match lv[i]? with | some (some v) => some (i, em v) | _ => none)
def fx_At (E : fxE) (y : fxY) (pc : Nat) (lv : List (Option fxV)) (stk : List fxV) (M : fxM) (Q : Option fxV → fxM → Prop) : Prop :=
  fx_Ok E → ∀ (p : Program) (l : Launch) (e : Env) (s : State) (m : MethodId) (args : Array Value) (below : List Frame) (meth : Method) (c : Code), fx_C E y p s m args meth c →
    ∀ (H : Heap) (locs : List Loc) (ls : Array Slot), va_S (eA E) s.heap H locs → lv_has ls (mL y) (fx_prs lv) → fx_P E M H →
      W p l e (mR y) s m args below meth c H locs 0 0 (MQ below (fx_Q E Q) args s 0 0 (eA E)) (F0 m pc ls (stk.map em))
/-- a contract -/
def fx_Ct (E : fxE) (y : fxY) (as : List fxV) (M : fxM) (Q : Option fxV → fxM → Prop) : Prop :=
  fx_Ok E → ∀ l : Launch, Met l (mN y) (mW y) (mR y) (va_Pc (as.map em) (fx_W E M)) (fx_Q E Q) 0 0 (eA E)
/-! numbers -/
theorem i3_toInt {x : Int} (h : inR x) : (i3 x).toInt = x := Int32.toInt_ofInt_of_le h.1 h.2
theorem i3_lt {x y : Int} (hx : inR x) (hy : inR y) : i3 x < i3 y ↔ x < y := by rw [Int32.lt_iff_toInt_lt, i3_toInt hx, i3_toInt hy]
theorem i3_le {x y : Int} (hx : inR x) (hy : inR y) : i3 x ≤ i3 y ↔ x ≤ y := by rw [Int32.le_iff_toInt_le, i3_toInt hx, i3_toInt hy]
theorem i3_eq {x y : Int} (hx : inR x) (hy : inR y) : i3 x = i3 y ↔ x = y := ⟨fun h => by rw [← i3_toInt hx, ← i3_toInt hy, h], fun h => by rw [h]⟩
theorem i3_0 : i3 0 = 0 := rfl
theorem inR_0 : inR 0 := ⟨by decide, by decide⟩
theorem i3_add (x y : Int) : i3 (x + y) = i3 x + i3 y := Int32.ofInt_add x y
theorem i3_sub (x y : Int) : i3 (x - y) = i3 x - i3 y := Int32.ofInt_sub x y
theorem i3_mul (x y : Int) : i3 (x * y) = i3 x * i3 y := Int32.ofInt_mul x y
theorem i3_neg (x : Int) : i3 (-x) = -i3 x := Int32.ofInt_neg x
theorem i3_nat (n : Nat) : i3 (n : Int) = nI n := Int32.ofInt_eq_ofNat
theorem i3_clamp {x : Int} (h0 : 0 ≤ x) (h1 : x < 2147483648) : (i3 x).toNatClampNeg = x.toNat := by
  obtain ⟨n, rfl⟩ := Int.eq_ofNat_of_zero_le h0
  rw [i3_nat, nI_clamp (by omega)]; rfl
theorem i3_in {x : Int} {n : Nat} (h0 : 0 ≤ x) (h1 : x < n) (hn : n < 2147483648) : vp_in (i3 x) n := by
  obtain ⟨k, rfl⟩ := Int.eq_ofNat_of_zero_le h0
  rw [i3_nat]
  exact vp_in_nI (by omega) hn
/-! locals -/
theorem fx_prs_mem {lv : List (Option fxV)} {q : Nat × Value} : q ∈ fx_prs lv ↔ ∃ v, lv[q.1]? = some (some v) ∧ q.2 = em v := by
  unfold fx_prs
  rw [List.mem_filterMap]
  constructor
  · rintro ⟨i, -, h⟩
    split at h
    · rename_i v hv
      cases h
      exact ⟨v, hv, rfl⟩
    · cases h
  · rintro ⟨v, h1, h2⟩
    refine ⟨q.1, List.mem_range.mpr (List.getElem?_eq_some_iff.mp h1).1, ?_⟩
    rw [h1]
    show some (q.1, em v) = some q
    rw [← h2]
theorem fx_at {ls : Array Slot} {n i : Nat} {lv : List (Option fxV)} {v : fxV} (h : lv_has ls n (fx_prs lv)) (hi : lv[i]? = some (some v)) : ls[i]? = some (.val (em v)) :=
  h.2.2 (i, em v) (fx_prs_mem.mpr ⟨v, hi, rfl⟩)
theorem em_cat (v : fxV) : (em v).category = 1 := by cases v <;> rfl
theorem fx_stored {ls : Array Slot} {n i : Nat} {lv : List (Option fxV)} {v : fxV} (h : lv_has ls n ((i, em v) :: (fx_prs lv).filter (fun q => !(q.1 == i) && !(q.1 + 1 == i && q.2.category == 2)))) : lv_has ls n (fx_prs (lv.set i (some v))) := by
  refine ⟨h.1, h.2.1, fun q hq => h.2.2 q ?_⟩
  obtain ⟨w, h1, h2⟩ := fx_prs_mem.mp hq
  by_cases hqi : q.1 = i
  · obtain ⟨q1, q2⟩ := q
    dsimp only at hqi h1 h2
    subst hqi
    have hl := (List.getElem?_eq_some_iff.mp h1).1
    rw [List.length_set] at hl
    rw [List.getElem?_set_self hl] at h1
    cases h1
    rw [h2]
    exact List.mem_cons_self
  · rw [List.getElem?_set_ne (Ne.symm hqi)] at h1
    refine List.mem_cons_of_mem _ (List.mem_filter.mpr ⟨fx_prs_mem.mpr ⟨w, h1, h2⟩, ?_⟩)
    rw [h2]
    simp [em_cat, hqi]
/-! the pool -/
theorem fx_pl_get {E : fxE} {M : fxM} {a : Nat} (hO : fx_Ok E) (ha : kd E a ≤ 16) : ∃ q : Nat, (fx_pl E M)[q]? = some (a, cel E a (M a)) := by
  obtain ⟨k, h⟩ := va_pl_get (X := []) (f := fun b => cel E b (M b)) (hO.1 a ha)
  exact ⟨k, h⟩
theorem fx_dd {A : Nat → Prop} {L : List Nat} {f g : Nat → va_E} (h : va_D A (va_pl L f)) : va_D A (va_pl L g) := by
  have key : ∀ (i : Nat) (q : Nat × va_E), (va_pl L g)[i]? = some q → (va_pl L f)[i]? = some (q.1, f q.1) := by
    intro i q hq
    simp only [va_pl, List.getElem?_map] at hq ⊢
    cases hL : L[i]? with
    | none => rw [hL] at hq; cases hq
    | some b => rw [hL] at hq; cases hq; rfl
  exact ⟨fun i j x z hx hz e => h.1 i j _ _ (key i x hx) (key j z hz) e, fun k q hk => h.2 k (q.1, f q.1) (key k q hk)⟩
theorem fx_D {E : fxE} {M : fxM} (hO : fx_Ok E) : va_D (eA E) (fx_pl E M) := fx_dd hO.2.1
theorem fx_pl_set {E : fxE} {M M' : fxM} {a q : Nat} {e : va_E} (hO : fx_Ok E) (ha : kd E a ≤ 16) (hq : (fx_pl E M)[q]? = some (a, cel E a (M a))) (he : e = cel E a (M' a)) (hM : ∀ b, b ≠ a → M' b = M b) : (fx_pl E M).set q (a, e) = fx_pl E M' := by
  have h := va_pl_set (X := []) (f := fun b => cel E b (M b)) (e := e) (A := eA E) (fx_D (M := M) hO) (hO.1 a ha) hq
  refine (show (fx_pl E M).set q (a, e) = va_pl (eL E) (va_up (fun b => cel E b (M b)) a e) from h).trans (va_pl_congr (fun b => ?_))
  by_cases hb : b = a
  · subst hb
    rw [va_up_self, he]
  · rw [va_up_ne _ _ hb, hM b hb]
def mset (M : fxM) (a k : Nat) (v : Int) : fxM := fun b j => if b = a ∧ j = k then v else M b j
theorem mset_o {M : fxM} {a k : Nat} {v : Int} {b : Nat} (h : b ≠ a) : mset M a k v b = M b := by
  funext j
  simp [mset, h]
theorem mset_s {M : fxM} {a k : Nat} {v : Int} : mset M a k v a k = v := by simp [mset]
theorem mset_n {M : fxM} {a k : Nat} {v : Int} {j : Nat} (h : j ≠ k) : mset M a k v a j = M a j := by simp [mset, h]
theorem mset_a {M : fxM} {a k : Nat} {v : Int} : mset M a k v a = fun j => if j = k then v else M a j := by
  funext j
  simp [mset]
theorem cel_o {E : fxE} {a C : Nat} (h : kd E a = C) (hC : C ≤ 10) (r : Nat → Int) : cel E a r = .inr (C, flds C (rf E a) r) := by
  subst h
  simp [cel, hC]
theorem cel_i {E : fxE} {a C : Nat} (h : kd E a = C) (h1 : 10 < C) (h2 : C ≤ 12) (r : Nat → Int) : cel E a r = .inl (eY E C, ln E a, .inl (fun j => i3 (r j))) := by
  subst h
  rw [cel, if_neg (by omega), if_pos h2]
theorem cel_r {E : fxE} {a C : Nat} (h : kd E a = C) (h1 : 12 < C) (r : Nat → Int) : cel E a r = .inl (eY E C, ln E a, .inr (.inr (.inr (.inr (fun j => some (rf E a j)))))) := by
  subst h
  rw [cel, if_neg (by omega), if_neg (by omega)]
theorem flds_i {C k : Nat} {g : Nat → Nat} {r : Nat → Int} (h : (lay C)[k]? = some false) : (flds C g r)[k]? = some (.int (i3 (r k))) := by
  simp [flds, List.getElem?_mapIdx, h]
theorem flds_r {C k : Nat} {g : Nat → Nat} {r : Nat → Int} (h : (lay C)[k]? = some true) : (flds C g r)[k]? = some (.ref (g k)) := by
  simp [flds, List.getElem?_mapIdx, h]
theorem flds_set {C k : Nat} {g : Nat → Nat} {r : Nat → Int} {v : Int} (h : (lay C)[k]? = some false) : (flds C g r).set k (.int (i3 v)) = flds C g (fun j => if j = k then v else r j) := by
  have hl := (List.getElem?_eq_some_iff.mp h).1
  apply List.ext_getElem?
  intro j
  by_cases hj : j = k
  · subst hj
    rw [List.getElem?_set_self (by simpa [flds] using hl), flds_i h, if_pos rfl]
  · rw [List.getElem?_set_ne (Ne.symm hj)]
    simp only [flds, List.getElem?_mapIdx]
    cases (lay C)[j]? with
    | none => rfl
    | some b => simp [hj]
theorem flds_len {C k : Nat} {g : Nat → Nat} {r : Nat → Int} {b : Bool} (h : (lay C)[k]? = some b) : k < (flds C g r).length := by
  simpa [flds] using (List.getElem?_eq_some_iff.mp h).1
end
section
/-! One instruction, one rule. -/
section
variable {E : fxE} {y : fxY} {pc : Nat} {lv : List (Option fxV)} {stk : List fxV} {M : fxM} {Q : Option fxV → fxM → Prop}
theorem x_iload_n {k : Fin 4} {i : Nat} {x : Int} (hd : decode (mC y) pc = .ok (.iload_n k, 1)) (hi : (k : Nat) = i) (hv : lv[i]? = some (some (.inl x))) (kk : fx_At E y (pc + 1) lv (.inl x :: stk) M Q) : fx_At E y pc lv stk M Q := by
  intro hO p l e s m args below meth c C H locs ls hS hl hP
  exact lv_iload_n C.1 C.2.1 hd hi (fx_at hl hv) (kk hO p l e s m args below meth c C H locs ls hS hl hP)
theorem x_iload {i : Nat} {x : Int} (hd : decode (mC y) pc = .ok (.iload i, 2)) (hv : lv[i]? = some (some (.inl x))) (kk : fx_At E y (pc + 2) lv (.inl x :: stk) M Q) : fx_At E y pc lv stk M Q := by
  intro hO p l e s m args below meth c C H locs ls hS hl hP
  exact lv_iload C.1 C.2.1 hd (fx_at hl hv) (kk hO p l e s m args below meth c C H locs ls hS hl hP)
theorem x_aload_n {k : Fin 4} {i : Nat} {a : Nat} (hd : decode (mC y) pc = .ok (.aload_n k, 1)) (hi : (k : Nat) = i) (hv : lv[i]? = some (some (.inr a))) (kk : fx_At E y (pc + 1) lv (.inr a :: stk) M Q) : fx_At E y pc lv stk M Q := by
  intro hO p l e s m args below meth c C H locs ls hS hl hP
  exact lv_aload_n C.1 C.2.1 hd hi (fx_at hl hv) (kk hO p l e s m args below meth c C H locs ls hS hl hP)
theorem x_aload {i : Nat} {a : Nat} (hd : decode (mC y) pc = .ok (.aload i, 2)) (hv : lv[i]? = some (some (.inr a))) (kk : fx_At E y (pc + 2) lv (.inr a :: stk) M Q) : fx_At E y pc lv stk M Q := by
  intro hO p l e s m args below meth c C H locs ls hS hl hP
  exact lv_aload C.1 C.2.1 hd (fx_at hl hv) (kk hO p l e s m args below meth c C H locs ls hS hl hP)
theorem x_istore_n {k : Fin 4} {i : Nat} {x : Int} {lv' : List (Option fxV)} (hd : decode (mC y) pc = .ok (.istore_n k, 1)) (hi : (k : Nat) = i) (hn : i < mL y) (he : lv.set i (some (.inl x)) = lv') (kk : fx_At E y (pc + 1) lv' stk M Q) : fx_At E y pc lv (.inl x :: stk) M Q := by
  intro hO p l e s m args below meth c C H locs ls hS hl hP
  subst he
  exact lv_istore_n C.1 C.2.1 hd hi hl hn rfl (fun ls' hl' => kk hO p l e s m args below meth c C H locs ls' hS (fx_stored (v := .inl x) hl') hP)
theorem x_istore {i : Nat} {x : Int} {lv' : List (Option fxV)} (hd : decode (mC y) pc = .ok (.istore i, 2)) (hn : i < mL y) (he : lv.set i (some (.inl x)) = lv') (kk : fx_At E y (pc + 2) lv' stk M Q) : fx_At E y pc lv (.inl x :: stk) M Q := by
  intro hO p l e s m args below meth c C H locs ls hS hl hP
  subst he
  exact lv_istore C.1 C.2.1 hd hl hn rfl (fun ls' hl' => kk hO p l e s m args below meth c C H locs ls' hS (fx_stored (v := .inl x) hl') hP)
theorem x_astore_n {k : Fin 4} {i : Nat} {a : Nat} {lv' : List (Option fxV)} (hd : decode (mC y) pc = .ok (.astore_n k, 1)) (hi : (k : Nat) = i) (hn : i < mL y) (he : lv.set i (some (.inr a)) = lv') (kk : fx_At E y (pc + 1) lv' stk M Q) : fx_At E y pc lv (.inr a :: stk) M Q := by
  intro hO p l e s m args below meth c C H locs ls hS hl hP
  subst he
  exact lv_astore_n C.1 C.2.1 hd hi hl hn rfl (fun ls' hl' => kk hO p l e s m args below meth c C H locs ls' hS (fx_stored (v := .inr a) hl') hP)
theorem x_astore {i : Nat} {a : Nat} {lv' : List (Option fxV)} (hd : decode (mC y) pc = .ok (.astore i, 2)) (hn : i < mL y) (he : lv.set i (some (.inr a)) = lv') (kk : fx_At E y (pc + 2) lv' stk M Q) : fx_At E y pc lv (.inr a :: stk) M Q := by
  intro hO p l e s m args below meth c C H locs ls hS hl hP
  subst he
  exact lv_astore C.1 C.2.1 hd hl hn rfl (fun ls' hl' => kk hO p l e s m args below meth c C H locs ls' hS (fx_stored (v := .inr a) hl') hP)
theorem x_iinc {i : Nat} {n x : Int} {lv' : List (Option fxV)} (hd : decode (mC y) pc = .ok (.iinc i n, 3)) (hv : lv[i]? = some (some (.inl x))) (hn : i < mL y) (he : lv.set i (some (.inl (x + n))) = lv') (kk : fx_At E y (pc + 3) lv' stk M Q) : fx_At E y pc lv stk M Q := by
  intro hO p l e s m args below meth c C H locs ls hS hl hP
  subst he
  obtain ⟨k, hk⟩ := List.getElem?_of_mem (fx_prs_mem.mpr ⟨.inl x, hv, rfl⟩ : ((i, em (.inl x)) : Nat × Value) ∈ fx_prs lv)
  exact lv_iinc (v := i3 (x + n)) C.1 C.2.1 hd hl hk (i3_add x n).symm hn rfl (fun ls' hl' => kk hO p l e s m args below meth c C H locs ls' hS (fx_stored (v := .inl (x + n)) hl') hP)
theorem x_iconst {n : Int} (hd : decode (mC y) pc = .ok (.iconst n, 1)) (kk : fx_At E y (pc + 1) lv (.inl n :: stk) M Q) : fx_At E y pc lv stk M Q := by
  intro hO p l e s m args below meth c C H locs ls hS hl hP
  exact lv_iconst C.1 C.2.1 hd rfl (kk hO p l e s m args below meth c C H locs ls hS hl hP)
theorem x_bipush {n : Int} (hd : decode (mC y) pc = .ok (.bipush n, 2)) (hv : (Int8.ofInt n).toInt32 = i3 n) (kk : fx_At E y (pc + 2) lv (.inl n :: stk) M Q) : fx_At E y pc lv stk M Q := by
  intro hO p l e s m args below meth c C H locs ls hS hl hP
  exact lv_bipush C.1 C.2.1 hd hv (kk hO p l e s m args below meth c C H locs ls hS hl hP)
theorem x_sipush {n : Int} (hd : decode (mC y) pc = .ok (.sipush n, 3)) (hv : (Int16.ofInt n).toInt32 = i3 n) (kk : fx_At E y (pc + 3) lv (.inl n :: stk) M Q) : fx_At E y pc lv stk M Q := by
  intro hO p l e s m args below meth c C H locs ls hS hl hP
  exact lv_sipush C.1 C.2.1 hd hv (kk hO p l e s m args below meth c C H locs ls hS hl hP)
theorem fx_w {w : Cond} {args : Array Value} {s : State} (h : ∀ w ∈ mW y, w.before args s = true) (hw : w ∈ lw_good) : w.before args s = true := h w (List.mem_cons_of_mem _ hw)
theorem x_ldc {i : Nat} {n : Int} {v : Int32} (hd : decode (mC y) pc = .ok (.ldc i, 2)) (hq : Cond.constant (mN y).cls i v ∈ lw_good) (hv : v = i3 n) (kk : fx_At E y (pc + 2) lv (.inl n :: stk) M Q) : fx_At E y pc lv stk M Q := by
  intro hO p l e s m args below meth c C H locs ls hS hl hP
  obtain ⟨hx, hb, hml, hr, hlk, hown, hts, hK, hst, hns⟩ := id C
  subst hv
  exact lv_ldc hx hb hown (fx_w hts hq) hd (kk hO p l e s m args below meth c C H locs ls hS hl hP)
theorem x_iadd {a b : Int} (hd : decode (mC y) pc = .ok (.iadd, 1)) (kk : fx_At E y (pc + 1) lv (.inl (a + b) :: stk) M Q) : fx_At E y pc lv (.inl b :: .inl a :: stk) M Q := by
  intro hO p l e s m args below meth c C H locs ls hS hl hP
  have h := kk hO p l e s m args below meth c C H locs ls hS hl hP
  rw [List.map_cons, em, i3_add] at h
  exact lv_iadd C.1 C.2.1 hd h
theorem x_isub {a b : Int} (hd : decode (mC y) pc = .ok (.isub, 1)) (kk : fx_At E y (pc + 1) lv (.inl (a - b) :: stk) M Q) : fx_At E y pc lv (.inl b :: .inl a :: stk) M Q := by
  intro hO p l e s m args below meth c C H locs ls hS hl hP
  have h := kk hO p l e s m args below meth c C H locs ls hS hl hP
  rw [List.map_cons, em, i3_sub] at h
  exact lv_isub C.1 C.2.1 hd h
theorem x_imul {a b : Int} (hd : decode (mC y) pc = .ok (.imul, 1)) (kk : fx_At E y (pc + 1) lv (.inl (a * b) :: stk) M Q) : fx_At E y pc lv (.inl b :: .inl a :: stk) M Q := by
  intro hO p l e s m args below meth c C H locs ls hS hl hP
  have h := kk hO p l e s m args below meth c C H locs ls hS hl hP
  rw [List.map_cons, em, i3_mul] at h
  exact lv_imul C.1 C.2.1 hd h
theorem x_ineg {a : Int} (hd : decode (mC y) pc = .ok (.ineg, 1)) (kk : fx_At E y (pc + 1) lv (.inl (-a) :: stk) M Q) : fx_At E y pc lv (.inl a :: stk) M Q := by
  intro hO p l e s m args below meth c C H locs ls hS hl hP
  have h := kk hO p l e s m args below meth c C H locs ls hS hl hP
  rw [List.map_cons, em, i3_neg] at h
  exact lv_ineg C.1 C.2.1 hd h
theorem x_idiv {a b : Int} (hd : decode (mC y) pc = .ok (.idiv, 1)) (h0 : 0 ≤ a ∧ a < 2147483648 ∧ 0 < b ∧ b < 2147483648) (kk : fx_At E y (pc + 1) lv (.inl (a / b) :: stk) M Q) : fx_At E y pc lv (.inl b :: .inl a :: stk) M Q := by
  intro hO p l e s m args below meth c C H locs ls hS hl hP
  have h := kk hO p l e s m args below meth c C H locs ls hS hl hP
  obtain ⟨n, rfl⟩ := Int.eq_ofNat_of_zero_le h0.1
  obtain ⟨d, rfl⟩ := Int.eq_ofNat_of_zero_le (Int.le_of_lt h0.2.2.1)
  have e : i3 ((n : Int) / (d : Int)) = nI n / nI d := by
    rw [← Int.natCast_ediv, i3_nat, pk_div (by omega) (by omega) (by omega)]
  rw [List.map_cons, em, e] at h
  refine lv_idiv (x := nI n) (y := nI d) C.1 C.2.1 hd (nI_ne0 (by omega) (by omega)) h
theorem x_irem {a b : Int} (hd : decode (mC y) pc = .ok (.irem, 1)) (h0 : 0 ≤ a ∧ a < 2147483648 ∧ 0 < b ∧ b < 2147483648) (kk : fx_At E y (pc + 1) lv (.inl (a % b) :: stk) M Q) : fx_At E y pc lv (.inl b :: .inl a :: stk) M Q := by
  intro hO p l e s m args below meth c C H locs ls hS hl hP
  have h := kk hO p l e s m args below meth c C H locs ls hS hl hP
  obtain ⟨n, rfl⟩ := Int.eq_ofNat_of_zero_le h0.1
  obtain ⟨d, rfl⟩ := Int.eq_ofNat_of_zero_le (Int.le_of_lt h0.2.2.1)
  have e : i3 ((n : Int) % (d : Int)) = nI n - nI n / nI d * nI d := by
    rw [← Int.natCast_emod, i3_nat, pk_rem (by omega) (by omega) (by omega)]
  rw [List.map_cons, em, e] at h
  refine lv_irem (x := nI n) (y := nI d) C.1 C.2.1 hd (nI_ne0 (by omega) (by omega)) h
theorem x_dup {v : fxV} (hd : decode (mC y) pc = .ok (.dup, 1)) (kk : fx_At E y (pc + 1) lv (v :: v :: stk) M Q) : fx_At E y pc lv (v :: stk) M Q := by
  intro hO p l e s m args below meth c C H locs ls hS hl hP
  exact lv_dup C.1 C.2.1 hd (em_cat v) (kk hO p l e s m args below meth c C H locs ls hS hl hP)
theorem x_dup2 {v w : fxV} (hd : decode (mC y) pc = .ok (.dup2, 1)) (kk : fx_At E y (pc + 1) lv (v :: w :: v :: w :: stk) M Q) : fx_At E y pc lv (v :: w :: stk) M Q := by
  intro hO p l e s m args below meth c C H locs ls hS hl hP
  exact lv_dup2_11 C.1 C.2.1 hd (em_cat v) (em_cat w) (kk hO p l e s m args below meth c C H locs ls hS hl hP)
theorem x_goto {off : Int} (tgt : Nat) (hd : decode (mC y) pc = .ok (.goto off, 3)) (ht : (pc : Int) + off = (tgt : Int)) (kk : fx_At E y tgt lv stk M Q) : fx_At E y pc lv stk M Q := by
  intro hO p l e s m args below meth c C H locs ls hS hl hP
  exact lv_goto C.1 C.2.1 hd ht (kk hO p l e s m args below meth c C H locs ls hS hl hP)
theorem x_clt {a b off : Int} (tgt : Nat) (hd : decode (mC y) pc = .ok (.if_icmp .lt off, 3)) (ht : (pc : Int) + off = (tgt : Int)) (hr : inR a ∧ inR b) (kt : a < b → fx_At E y tgt lv stk M Q) (kf : ¬ a < b → fx_At E y (pc + 3) lv stk M Q) : fx_At E y pc lv (.inl b :: .inl a :: stk) M Q := by
  intro hO p l e s m args below meth c C H locs ls hS hl hP
  exact lv_icmp_lt C.1 C.2.1 hd ht (fun h => kt ((i3_lt hr.1 hr.2).mp h) hO p l e s m args below meth c C H locs ls hS hl hP) (fun h => kf (fun z => h ((i3_lt hr.1 hr.2).mpr z)) hO p l e s m args below meth c C H locs ls hS hl hP)
theorem x_cge {a b off : Int} (tgt : Nat) (hd : decode (mC y) pc = .ok (.if_icmp .ge off, 3)) (ht : (pc : Int) + off = (tgt : Int)) (hr : inR a ∧ inR b) (kt : b ≤ a → fx_At E y tgt lv stk M Q) (kf : ¬ b ≤ a → fx_At E y (pc + 3) lv stk M Q) : fx_At E y pc lv (.inl b :: .inl a :: stk) M Q := by
  intro hO p l e s m args below meth c C H locs ls hS hl hP
  exact lv_icmp_ge C.1 C.2.1 hd ht (fun h => kt ((i3_le hr.2 hr.1).mp h) hO p l e s m args below meth c C H locs ls hS hl hP) (fun h => kf (fun z => h ((i3_le hr.2 hr.1).mpr z)) hO p l e s m args below meth c C H locs ls hS hl hP)
theorem x_cgt {a b off : Int} (tgt : Nat) (hd : decode (mC y) pc = .ok (.if_icmp .gt off, 3)) (ht : (pc : Int) + off = (tgt : Int)) (hr : inR a ∧ inR b) (kt : b < a → fx_At E y tgt lv stk M Q) (kf : ¬ b < a → fx_At E y (pc + 3) lv stk M Q) : fx_At E y pc lv (.inl b :: .inl a :: stk) M Q := by
  intro hO p l e s m args below meth c C H locs ls hS hl hP
  exact lv_icmp_gt C.1 C.2.1 hd ht (fun h => kt ((i3_lt hr.2 hr.1).mp h) hO p l e s m args below meth c C H locs ls hS hl hP) (fun h => kf (fun z => h ((i3_lt hr.2 hr.1).mpr z)) hO p l e s m args below meth c C H locs ls hS hl hP)
theorem x_cle {a b off : Int} (tgt : Nat) (hd : decode (mC y) pc = .ok (.if_icmp .le off, 3)) (ht : (pc : Int) + off = (tgt : Int)) (hr : inR a ∧ inR b) (kt : a ≤ b → fx_At E y tgt lv stk M Q) (kf : ¬ a ≤ b → fx_At E y (pc + 3) lv stk M Q) : fx_At E y pc lv (.inl b :: .inl a :: stk) M Q := by
  intro hO p l e s m args below meth c C H locs ls hS hl hP
  exact lv_icmp_le C.1 C.2.1 hd ht (fun h => kt ((i3_le hr.1 hr.2).mp h) hO p l e s m args below meth c C H locs ls hS hl hP) (fun h => kf (fun z => h ((i3_le hr.1 hr.2).mpr z)) hO p l e s m args below meth c C H locs ls hS hl hP)
theorem x_ceq {a b off : Int} (tgt : Nat) (hd : decode (mC y) pc = .ok (.if_icmp .eq off, 3)) (ht : (pc : Int) + off = (tgt : Int)) (hr : inR a ∧ inR b) (kt : a = b → fx_At E y tgt lv stk M Q) (kf : ¬ a = b → fx_At E y (pc + 3) lv stk M Q) : fx_At E y pc lv (.inl b :: .inl a :: stk) M Q := by
  intro hO p l e s m args below meth c C H locs ls hS hl hP
  exact lv_icmp_eq C.1 C.2.1 hd ht (fun h => kt ((i3_eq hr.1 hr.2).mp h) hO p l e s m args below meth c C H locs ls hS hl hP) (fun h => kf (fun z => h ((i3_eq hr.1 hr.2).mpr z)) hO p l e s m args below meth c C H locs ls hS hl hP)
theorem x_cne {a b off : Int} (tgt : Nat) (hd : decode (mC y) pc = .ok (.if_icmp .ne off, 3)) (ht : (pc : Int) + off = (tgt : Int)) (hr : inR a ∧ inR b) (kt : ¬ a = b → fx_At E y tgt lv stk M Q) (kf : a = b → fx_At E y (pc + 3) lv stk M Q) : fx_At E y pc lv (.inl b :: .inl a :: stk) M Q := by
  intro hO p l e s m args below meth c C H locs ls hS hl hP
  exact lv_icmp_ne C.1 C.2.1 hd ht (fun h => kt (fun z => h ((i3_eq hr.1 hr.2).mpr z)) hO p l e s m args below meth c C H locs ls hS hl hP) (fun h => kf ((i3_eq hr.1 hr.2).mp h) hO p l e s m args below meth c C H locs ls hS hl hP)
theorem x_zlt {a off : Int} (tgt : Nat) (hd : decode (mC y) pc = .ok (.ifCond .lt off, 3)) (ht : (pc : Int) + off = (tgt : Int)) (hr : inR a) (kt : a < 0 → fx_At E y tgt lv stk M Q) (kf : ¬ a < 0 → fx_At E y (pc + 3) lv stk M Q) : fx_At E y pc lv (.inl a :: stk) M Q := by
  intro hO p l e s m args below meth c C H locs ls hS hl hP
  exact lv_if_lt C.1 C.2.1 hd ht (fun h => kt ((i3_lt hr inR_0).mp h) hO p l e s m args below meth c C H locs ls hS hl hP) (fun h => kf (fun z => h ((i3_lt hr inR_0).mpr z)) hO p l e s m args below meth c C H locs ls hS hl hP)
theorem x_zge {a off : Int} (tgt : Nat) (hd : decode (mC y) pc = .ok (.ifCond .ge off, 3)) (ht : (pc : Int) + off = (tgt : Int)) (hr : inR a) (kt : 0 ≤ a → fx_At E y tgt lv stk M Q) (kf : ¬ 0 ≤ a → fx_At E y (pc + 3) lv stk M Q) : fx_At E y pc lv (.inl a :: stk) M Q := by
  intro hO p l e s m args below meth c C H locs ls hS hl hP
  exact lv_if_ge C.1 C.2.1 hd ht (fun h => kt ((i3_le inR_0 hr).mp h) hO p l e s m args below meth c C H locs ls hS hl hP) (fun h => kf (fun z => h ((i3_le inR_0 hr).mpr z)) hO p l e s m args below meth c C H locs ls hS hl hP)
theorem x_zgt {a off : Int} (tgt : Nat) (hd : decode (mC y) pc = .ok (.ifCond .gt off, 3)) (ht : (pc : Int) + off = (tgt : Int)) (hr : inR a) (kt : 0 < a → fx_At E y tgt lv stk M Q) (kf : ¬ 0 < a → fx_At E y (pc + 3) lv stk M Q) : fx_At E y pc lv (.inl a :: stk) M Q := by
  intro hO p l e s m args below meth c C H locs ls hS hl hP
  exact lv_if_gt C.1 C.2.1 hd ht (fun h => kt ((i3_lt inR_0 hr).mp h) hO p l e s m args below meth c C H locs ls hS hl hP) (fun h => kf (fun z => h ((i3_lt inR_0 hr).mpr z)) hO p l e s m args below meth c C H locs ls hS hl hP)
theorem x_zle {a off : Int} (tgt : Nat) (hd : decode (mC y) pc = .ok (.ifCond .le off, 3)) (ht : (pc : Int) + off = (tgt : Int)) (hr : inR a) (kt : a ≤ 0 → fx_At E y tgt lv stk M Q) (kf : ¬ a ≤ 0 → fx_At E y (pc + 3) lv stk M Q) : fx_At E y pc lv (.inl a :: stk) M Q := by
  intro hO p l e s m args below meth c C H locs ls hS hl hP
  exact lv_if_le C.1 C.2.1 hd ht (fun h => kt ((i3_le hr inR_0).mp h) hO p l e s m args below meth c C H locs ls hS hl hP) (fun h => kf (fun z => h ((i3_le hr inR_0).mpr z)) hO p l e s m args below meth c C H locs ls hS hl hP)
theorem x_zeq {a off : Int} (tgt : Nat) (hd : decode (mC y) pc = .ok (.ifCond .eq off, 3)) (ht : (pc : Int) + off = (tgt : Int)) (hr : inR a) (kt : a = 0 → fx_At E y tgt lv stk M Q) (kf : ¬ a = 0 → fx_At E y (pc + 3) lv stk M Q) : fx_At E y pc lv (.inl a :: stk) M Q := by
  intro hO p l e s m args below meth c C H locs ls hS hl hP
  exact lv_if_eq C.1 C.2.1 hd ht (fun h => kt ((i3_eq hr inR_0).mp h) hO p l e s m args below meth c C H locs ls hS hl hP) (fun h => kf (fun z => h ((i3_eq hr inR_0).mpr z)) hO p l e s m args below meth c C H locs ls hS hl hP)
theorem x_zne {a off : Int} (tgt : Nat) (hd : decode (mC y) pc = .ok (.ifCond .ne off, 3)) (ht : (pc : Int) + off = (tgt : Int)) (hr : inR a) (kt : ¬ a = 0 → fx_At E y tgt lv stk M Q) (kf : a = 0 → fx_At E y (pc + 3) lv stk M Q) : fx_At E y pc lv (.inl a :: stk) M Q := by
  intro hO p l e s m args below meth c C H locs ls hS hl hP
  exact lv_if_ne C.1 C.2.1 hd ht (fun h => kt (fun z => h ((i3_eq hr inR_0).mpr z)) hO p l e s m args below meth c C H locs ls hS hl hP) (fun h => kf ((i3_eq hr inR_0).mp h) hO p l e s m args below meth c C H locs ls hS hl hP)
end
end
section
/-! Rules of the heap, of switches, of ends and of calls. -/
def Fld (own : String) (i C k : Nat) (b : Bool) : Prop := ∃ (R : String) (T : u_T) (N : Nat) (ty : Nat → FieldType), vwCl[C]? = some (R, T, N) ∧ (∀ w ∈ u_ws R T N, w ∈ lw_good) ∧ k < N ∧ (lay C)[k]? = some b ∧ Cond.fieldLink own i R (T k).2.1 (T k).2.2.1 ∈ lw_good ∧ (T k).1 = R ∧ (∀ k, k < N → parseFieldDescriptor (T k).2.2.1 = some (ty k)) ∧ (∀ a, a < N → ∀ b, b < N → a ≠ b → (T a).2.1 ≠ (T b).2.1) ∧ (b = false → (T k).2.2.2 = false ∧ ty k = .int) ∧ C ≤ 10
theorem fx_stM {E : fxE} {s U : State} {H : Heap} {locs : List Loc} (h : fx_st E s s.heap) (hS : va_S (eA E) s.heap H locs) (hU : U.heap = H) (hvm : s.vm.Alike U.vm) : fx_st E U U.heap := by
  subst hU
  obtain ⟨⟨z0, t0⟩, ⟨z1, t1⟩, z2, t2⟩ := h
  have k : ∀ a : Nat, a < s.heap.size → ¬ eA E a → U.heap[a]? = s.heap[a]? := hS.2.1
  exact ⟨⟨(z0.kept k).moved hvm, (t0.kept k).moved hvm⟩, ⟨(z1.kept k).moved hvm, (t1.kept k).moved hvm⟩, (z2.kept k).moved hvm, (t2.kept k).moved hvm⟩
theorem fx_nsM {s U : State} (h : fx_ns s) (hW : s.WarmedH U.vm) : fx_ns U := ⟨va_Nw.warmM hW h.1, va_Nw.warmM hW h.2.1, va_Nw.warmM hW h.2.2⟩
theorem fx_WM {E : fxE} {M : fxM} {s U : State} {H : Heap} {locs : List Loc} (hK : va_K (eD E) vwCl (fx_ty E) s) (hst : fx_st E s s.heap) (hns : fx_ns s) (hS : va_S (eA E) s.heap H locs) (hP : fx_P E M H) (hU : U.heap = H) (hW : s.WarmedH U.vm) : fx_W E M U :=
  ⟨by rw [hU]; exact hP, va_K.moved hW.alike hK, fx_stM hst hS hU hW.alike, fx_nsM hns hW⟩
section
variable {E : fxE} {y : fxY} {pc : Nat} {lv : List (Option fxV)} {stk : List fxV} {M : fxM} {Q : Option fxV → fxM → Prop}
theorem x_geti {a i C k : Nat} (hd : decode (mC y) pc = .ok (.getfield i, 3)) (hF : Fld (mN y).cls i C k false) (ha : kd E a = C) (kk : fx_At E y (pc + 3) lv (.inl (M a k) :: stk) M Q) : fx_At E y pc lv (.inr a :: stk) M Q := by
  intro hO p l e s m args below meth c C0 H locs ls hS hl hP
  obtain ⟨hx, hb, hml, hr, hlk, hown, hts, hK, hst, hns⟩ := id C0
  obtain ⟨R, T, N, ty, f1, f2, f3, f4, f5, f6, f7, f8, f9, f10⟩ := hF
  obtain ⟨q, hq⟩ := fx_pl_get (M := M) hO (show kd E a ≤ 16 by omega)
  rw [cel_o ha f10] at hq
  exact va_get (ref := R) hx hb hts (fun w hw => List.mem_cons_of_mem _ (f2 w hw)) hown hK hP q hq f1 k f3 (fx_w hts f5) (fun x h => by rw [f6] at h; exact h) (flds_i f4) hd (kk hO p l e s m args below meth c C0 H locs ls hS hl hP)
theorem x_getr {a i C k : Nat} (hd : decode (mC y) pc = .ok (.getfield i, 3)) (hF : Fld (mN y).cls i C k true) (ha : kd E a = C) (kk : fx_At E y (pc + 3) lv (.inr (rf E a k) :: stk) M Q) : fx_At E y pc lv (.inr a :: stk) M Q := by
  intro hO p l e s m args below meth c C0 H locs ls hS hl hP
  obtain ⟨hx, hb, hml, hr, hlk, hown, hts, hK, hst, hns⟩ := id C0
  obtain ⟨R, T, N, ty, f1, f2, f3, f4, f5, f6, f7, f8, f9, f10⟩ := hF
  obtain ⟨q, hq⟩ := fx_pl_get (M := M) hO (show kd E a ≤ 16 by omega)
  rw [cel_o ha f10] at hq
  exact va_get (ref := R) hx hb hts (fun w hw => List.mem_cons_of_mem _ (f2 w hw)) hown hK hP q hq f1 k f3 (fx_w hts f5) (fun x h => by rw [f6] at h; exact h) (flds_r f4) hd (kk hO p l e s m args below meth c C0 H locs ls hS hl hP)
theorem x_puti {a i C k : Nat} {v : Int} (hd : decode (mC y) pc = .ok (.putfield i, 3)) (hF : Fld (mN y).cls i C k false) (ha : kd E a = C) (kk : ∀ M1, M1 = mset M a k v → fx_At E y (pc + 3) lv stk M1 Q) : fx_At E y pc lv (.inl v :: .inr a :: stk) M Q := by
  intro hO p l e s m args below meth c C0 H locs ls hS hl hP
  obtain ⟨hx, hb, hml, hr, hlk, hown, hts, hK, hst, hns⟩ := id C0
  obtain ⟨R, T, N, ty, f1, f2, f3, f4, f5, f6, f7, f8, f9, f10⟩ := hF
  obtain ⟨q, hq⟩ := fx_pl_get (M := M) hO (show kd E a ≤ 16 by omega)
  have hq' := hq
  rw [cel_o ha f10] at hq
  have hs := fx_pl_set (M := M) (M' := mset M a k v) (e := .inr (C, (flds C (rf E a) (M a)).set k (.int (i3 v)))) hO (show kd E a ≤ 16 by omega) hq' (by rw [cel_o ha f10, flds_set f4, mset_a]) (fun b hb => mset_o hb)
  refine va_put (ref := R) (ty := .int) (v := .int (i3 v)) hx hb hts (fun w hw => List.mem_cons_of_mem _ (f2 w hw)) ty f7 f8 hown hK hP (fx_D hO) hS q hq f1 k f3 (fx_w hts f5) (fun x h => by rw [f6] at h; exact h) (f9 rfl).1 ((f7 k f3).trans (congrArg some (f9 rfl).2)) rfl rfl (flds_len f4) hd (fun H1 locs1 hP1 _ hS1 => ?_)
  rw [hs] at hP1
  exact kk _ rfl hO p l e s m args below meth c C0 H1 locs1 ls hS1 hl hP1
theorem x_iald {a n : Nat} {i : Int} (hd : decode (mC y) pc = .ok (.iaload, 1)) (ha : kd E a = 11) (hn : ln E a = n) (hi : 0 ≤ i ∧ i < (n : Int)) (kk : fx_At E y (pc + 1) lv (.inl (M a i.toNat) :: stk) M Q) : fx_At E y pc lv (.inl i :: .inr a :: stk) M Q := by
  intro hO p l e s m args below meth c C0 H locs ls hS hl hP
  obtain ⟨hx, hb, hml, hr, hlk, hown, hts, hK, hst, hns⟩ := id C0
  obtain ⟨q, hq⟩ := fx_pl_get (M := M) hO (show kd E a ≤ 16 by omega)
  rw [cel_i ha (by omega) (by omega), hn] at hq
  have hs := hO.2.2.1 a
  rw [hn] at hs
  have h := kk hO p l e s m args below meth c C0 H locs ls hS hl hP
  rw [List.map_cons, em, ← i3_clamp hi.1 (by omega)] at h
  exact va_iald hx hb hK hP q 0 hq rfl (i3_in hi.1 hi.2 hs) hd h
theorem x_zald {a n : Nat} {i : Int} (hd : decode (mC y) pc = .ok (.baload, 1)) (ha : kd E a = 12) (hn : ln E a = n) (hi : 0 ≤ i ∧ i < (n : Int)) (kk : fx_At E y (pc + 1) lv (.inl (M a i.toNat) :: stk) M Q) : fx_At E y pc lv (.inl i :: .inr a :: stk) M Q := by
  intro hO p l e s m args below meth c C0 H locs ls hS hl hP
  obtain ⟨hx, hb, hml, hr, hlk, hown, hts, hK, hst, hns⟩ := id C0
  obtain ⟨q, hq⟩ := fx_pl_get (M := M) hO (show kd E a ≤ 16 by omega)
  rw [cel_i ha (by omega) (by omega), hn] at hq
  have hs := hO.2.2.1 a
  rw [hn] at hs
  have h := kk hO p l e s m args below meth c C0 H locs ls hS hl hP
  rw [List.map_cons, em, ← i3_clamp hi.1 (by omega)] at h
  exact va_zald hx hb hK hP q 1 hq rfl (i3_in hi.1 hi.2 hs) hd h
theorem fx_upd {r : Nat → Int} {k : Nat} {v : Int} : upd (fun j => i3 (r j)) k (i3 v) = fun j => i3 (if j = k then v else r j) := by
  funext j
  by_cases h : j = k <;> simp [upd, h]
theorem x_iast {a n : Nat} {i v : Int} (hd : decode (mC y) pc = .ok (.iastore, 1)) (ha : kd E a = 11) (hn : ln E a = n) (hi : 0 ≤ i ∧ i < (n : Int)) (kk : ∀ M1, M1 = mset M a i.toNat v → fx_At E y (pc + 1) lv stk M1 Q) : fx_At E y pc lv (.inl v :: .inl i :: .inr a :: stk) M Q := by
  intro hO p l e s m args below meth c C0 H locs ls hS hl hP
  obtain ⟨hx, hb, hml, hr, hlk, hown, hts, hK, hst, hns⟩ := id C0
  obtain ⟨q, hq⟩ := fx_pl_get (M := M) hO (show kd E a ≤ 16 by omega)
  have hq' := hq
  rw [cel_i ha (by omega) (by omega), hn] at hq
  have hs := hO.2.2.1 a
  rw [hn] at hs
  have hs2 := fx_pl_set (M := M) (M' := mset M a i.toNat v) (e := .inl (eY E 11, n, .inl (upd (fun j => i3 (M a j)) (i3 i).toNatClampNeg (i3 v)))) hO (show kd E a ≤ 16 by omega) hq' (by rw [cel_i ha (by omega) (by omega), hn, i3_clamp hi.1 (by omega), fx_upd, mset_a]) (fun b hb => mset_o hb)
  refine va_iast hx hb hK hP (fx_D hO) hS q 0 hq rfl (i3_in hi.1 hi.2 hs) hd (fun H1 locs1 hP1 _ hS1 => ?_)
  rw [hs2] at hP1
  exact kk _ rfl hO p l e s m args below meth c C0 H1 locs1 ls hS1 hl hP1
theorem fx_nz {v : Int} (h : v = 0 ∨ v = 1) : vp_nar .boolean (i3 v) = i3 v := by rcases h with rfl | rfl <;> decide +kernel
theorem x_zast {a n : Nat} {i v : Int} (hd : decode (mC y) pc = .ok (.bastore, 1)) (ha : kd E a = 12) (hn : ln E a = n) (hi : 0 ≤ i ∧ i < (n : Int)) (hv : v = 0 ∨ v = 1) (kk : ∀ M1, M1 = mset M a i.toNat v → fx_At E y (pc + 1) lv stk M1 Q) : fx_At E y pc lv (.inl v :: .inl i :: .inr a :: stk) M Q := by
  intro hO p l e s m args below meth c C0 H locs ls hS hl hP
  obtain ⟨hx, hb, hml, hr, hlk, hown, hts, hK, hst, hns⟩ := id C0
  obtain ⟨q, hq⟩ := fx_pl_get (M := M) hO (show kd E a ≤ 16 by omega)
  have hq' := hq
  rw [cel_i ha (by omega) (by omega), hn] at hq
  have hs := hO.2.2.1 a
  rw [hn] at hs
  have hs2 := fx_pl_set (M := M) (M' := mset M a i.toNat v) (e := .inl (eY E 12, n, .inl (upd (fun j => i3 (M a j)) (i3 i).toNatClampNeg (vp_nar .boolean (i3 v))))) hO (show kd E a ≤ 16 by omega) hq' (by rw [fx_nz hv, cel_i ha (by omega) (by omega), hn, i3_clamp hi.1 (by omega), fx_upd, mset_a]) (fun b hb => mset_o hb)
  refine va_zast hx hb hK hP (fx_D hO) hS q 1 hq rfl (i3_in hi.1 hi.2 hs) hd (fun H1 locs1 hP1 _ hS1 => ?_)
  rw [hs2] at hP1
  exact kk _ rfl hO p l e s m args below meth c C0 H1 locs1 ls hS1 hl hP1
theorem x_aald {a n C : Nat} {i : Int} (hd : decode (mC y) pc = .ok (.aaload, 1)) (ha : kd E a = C) (h1 : 12 < C) (h2 : C ≤ 16) (hn : ln E a = n) (hi : 0 ≤ i ∧ i < (n : Int)) (kk : fx_At E y (pc + 1) lv (.inr (rf E a i.toNat) :: stk) M Q) : fx_At E y pc lv (.inl i :: .inr a :: stk) M Q := by
  intro hO p l e s m args below meth c C0 H locs ls hS hl hP
  obtain ⟨hx, hb, hml, hr, hlk, hown, hts, hK, hst, hns⟩ := id C0
  obtain ⟨q, hq⟩ := fx_pl_get (M := M) hO (show kd E a ≤ 16 by omega)
  rw [cel_r ha (by omega), hn] at hq
  have hs := hO.2.2.1 a
  rw [hn] at hs
  have h := kk hO p l e s m args below meth c C0 H locs ls hS hl hP
  rw [List.map_cons, em, ← i3_clamp hi.1 (by omega)] at h
  rcases (show C = 13 ∨ C = 14 ∨ C = 15 ∨ C = 16 by omega) with rfl | rfl | rfl | rfl
  · exact va_aldq hx hb hK hP q 2 hq rfl (i3_in hi.1 hi.2 hs) hd h
  · exact va_aldq hx hb hK hP q 3 hq rfl (i3_in hi.1 hi.2 hs) hd h
  · exact va_aldq hx hb hK hP q 4 hq rfl (i3_in hi.1 hi.2 hs) hd h
  · exact va_aldq hx hb hK hP q 5 hq rfl (i3_in hi.1 hi.2 hs) hd h
theorem x_alen {a n C : Nat} (hd : decode (mC y) pc = .ok (.arraylength, 1)) (ha : kd E a = C) (h1 : 10 < C) (h2 : C ≤ 16) (hn : ln E a = n) (kk : fx_At E y (pc + 1) lv (.inl (n : Int) :: stk) M Q) : fx_At E y pc lv (.inr a :: stk) M Q := by
  intro hO p l e s m args below meth c C0 H locs ls hS hl hP
  obtain ⟨hx, hb, hml, hr, hlk, hown, hts, hK, hst, hns⟩ := id C0
  obtain ⟨q, hq⟩ := fx_pl_get (M := M) hO (show kd E a ≤ 16 by omega)
  have h := kk hO p l e s m args below meth c C0 H locs ls hS hl hP
  rw [List.map_cons, em, i3_nat] at h
  rcases (show C = 11 ∨ C = 12 ∨ C = 13 ∨ C = 14 ∨ C = 15 ∨ C = 16 by omega) with rfl | rfl | rfl | rfl | rfl | rfl
  · rw [cel_i ha (by omega) (by omega), hn] at hq
    exact va_alen hx hb hK hP q 0 hq rfl rfl hd h
  · rw [cel_i ha (by omega) (by omega), hn] at hq
    exact va_alen hx hb hK hP q 1 hq rfl rfl hd h
  · rw [cel_r ha (by omega), hn] at hq
    exact va_alen hx hb hK hP q 2 hq rfl rfl hd h
  · rw [cel_r ha (by omega), hn] at hq
    exact va_alen hx hb hK hP q 3 hq rfl rfl hd h
  · rw [cel_r ha (by omega), hn] at hq
    exact va_alen hx hb hK hP q 4 hq rfl rfl hd h
  · rw [cel_r ha (by omega), hn] at hq
    exact va_alen hx hb hK hP q 5 hq rfl rfl hd h
theorem x_gets {i : Nat} (j : Nat) {n : String} (hd : decode (mC y) pc = .ok (.getstatic i, 3)) (hj : (j = 0 ∧ n = "LEAST_SETTING") ∨ (j = 1 ∧ n = "GREATEST_SETTING") ∨ (j = 2 ∧ n = "STITCH_WIDTHS")) (hq : Cond.fieldLink (mN y).cls i "FibreBench" n "[I" ∈ lw_good) (kk : fx_At E y (pc + 3) lv (.inr (sta E j) :: stk) M Q) : fx_At E y pc lv stk M Q := by
  intro hO p l e s m args below meth c C0 H locs ls hS hl hP
  obtain ⟨hx, hb, hml, hr, hlk, hown, hts, hK, hst, hns⟩ := id C0
  have h := kk hO p l e s m args below meth c C0 H locs ls hS hl hP
  rcases hj with ⟨rfl, rfl⟩ | ⟨rfl, rfl⟩ | ⟨rfl, rfl⟩
  · exact va_gets hx hb hst.1.1 hS hown (fx_w hts hq) (fun _ h => h) hd h
  · exact va_gets hx hb hst.2.1.1 hS hown (fx_w hts hq) (fun _ h => h) hd h
  · exact va_gets hx hb hst.2.2.1 hS hown (fx_w hts hq) (fun _ h => h) hd h
theorem fx_T {s : State} (hst : fx_st E s s.heap) {j : Nat} (hj : j < 3) : va_T .int (sta E j) (sN j) (fun k => .int (i3 (sv j k))) (eA E) s s.heap := by
  rcases (show j = 0 ∨ j = 1 ∨ j = 2 by omega) with rfl | rfl | rfl
  · exact hst.1.2
  · exact hst.2.1.2
  · exact hst.2.2.2
theorem sN_lt (j : Nat) : sN j < 5 := by
  unfold sN
  split <;> omega
theorem x_tald {i : Int} (j : Nat) (hj : j < 3) (hd : decode (mC y) pc = .ok (.iaload, 1)) (hi : 0 ≤ i ∧ i < (sN j : Int)) (kk : fx_At E y (pc + 1) lv (.inl (sv j i.toNat) :: stk) M Q) : fx_At E y pc lv (.inl i :: .inr (sta E j) :: stk) M Q := by
  intro hO p l e s m args below meth c C0 H locs ls hS hl hP
  obtain ⟨hx, hb, hml, hr, hlk, hown, hts, hK, hst, hns⟩ := id C0
  have h := kk hO p l e s m args below meth c C0 H locs ls hS hl hP
  have := sN_lt j
  exact va_ti (v := .int (i3 (sv j i.toNat))) hx hb (fx_T hst hj) hS (i3_in hi.1 hi.2 (by omega)) (by show Value.int (i3 (sv j (i3 i).toNatClampNeg)) = _; rw [i3_clamp hi.1 (by omega)]) hd h
theorem x_tlen (j : Nat) (hj : j < 3) (hd : decode (mC y) pc = .ok (.arraylength, 1)) (kk : fx_At E y (pc + 1) lv (.inl (sN j : Int) :: stk) M Q) : fx_At E y pc lv (.inr (sta E j) :: stk) M Q := by
  intro hO p l e s m args below meth c C0 H locs ls hS hl hP
  obtain ⟨hx, hb, hml, hr, hlk, hown, hts, hK, hst, hns⟩ := id C0
  have h := kk hO p l e s m args below meth c C0 H locs ls hS hl hP
  rw [List.map_cons, em, i3_nat] at h
  exact va_tlen hx hb (fx_T hst hj) hS rfl hd h
theorem fa_or (a b : Nat) : nI a ||| nI b = nI (a ||| b) := by
  apply Int32.toBitVec_inj.1
  show BitVec.ofNat 32 a ||| BitVec.ofNat 32 b = BitVec.ofNat 32 (a ||| b)
  apply BitVec.eq_of_getLsbD_eq
  intro i hi
  simp [hi]
theorem x_ior {a b : Nat} (hd : decode (mC y) pc = .ok (.ior, 1)) (kk : fx_At E y (pc + 1) lv (.inl ((a ||| b : Nat) : Int) :: stk) M Q) : fx_At E y pc lv (.inl (b : Int) :: .inl (a : Int) :: stk) M Q := by
  intro hO p l e s m args below meth c C H locs ls hS hl hP
  have h := kk hO p l e s m args below meth c C H locs ls hS hl hP
  rw [List.map_cons, em, i3_nat, ← fa_or, ← i3_nat, ← i3_nat] at h
  exact lv_ior C.1 C.2.1 hd h
theorem fx_shl : ∀ k, k < 31 → (1 : Int32) <<< (nI k &&& 31) = nI (2 ^ k) := by decide +kernel
theorem x_shl1 {k : Nat} (hk : k < 31) (hd : decode (mC y) pc = .ok (.ishl, 1)) (kk : fx_At E y (pc + 1) lv (.inl ((2 ^ k : Nat) : Int) :: stk) M Q) : fx_At E y pc lv (.inl (k : Int) :: .inl 1 :: stk) M Q := by
  intro hO p l e s m args below meth c C H locs ls hS hl hP
  have h := kk hO p l e s m args below meth c C H locs ls hS hl hP
  rw [List.map_cons, em, i3_nat, ← fx_shl k hk, ← i3_nat] at h
  exact lv_ishl C.1 C.2.1 hd h
theorem x_tsw {a dflt lo hi : Int} {offs : Array Int} {len : Nat} (tgt : Nat) (tg : List Nat) (hd : decode (mC y) pc = .ok (.tableswitch dflt lo hi offs, len)) (hr : inR a) (ht : (pc : Int) + dflt = (tgt : Int)) (htg : offs.toList.map (fun o => (pc : Int) + o) = tg.map (fun n : Nat => (n : Int))) (hl : hi - lo + 1 = (tg.length : Int)) (kin : ∀ (j t : Nat), tg[j]? = some t → a = lo + (j : Int) → fx_At E y t lv stk M Q) (kout : a < lo ∨ hi < a → fx_At E y tgt lv stk M Q) : fx_At E y pc lv (.inl a :: stk) M Q := by
  intro hO p l e s m args below meth c C H locs ls hS hlv hP
  by_cases h : a < lo ∨ hi < a
  · exact lv_tableOut C.1 C.2.1 hd (by rw [i3_toInt hr]; exact h) ht (kout h hO p l e s m args below meth c C H locs ls hS hlv hP)
  · have hlt : (a - lo).toNat < tg.length := by omega
    have h1 : (offs.toList.map (fun o => (pc : Int) + o))[(a - lo).toNat]? = some ((tg[(a - lo).toNat] : Nat) : Int) := by
      rw [htg, List.getElem?_map, List.getElem?_eq_getElem hlt]; rfl
    rw [List.getElem?_map] at h1
    cases ho : offs.toList[(a - lo).toNat]? with
    | none => rw [ho] at h1; cases h1
    | some off =>
      rw [ho] at h1
      refine lv_tableIn (off := off) C.1 C.2.1 hd (by rw [i3_toInt hr]; omega) (by rw [i3_toInt hr]; omega) (by rw [i3_toInt hr, ← Array.getElem?_toList]; exact ho) (Option.some.inj h1) (kin (a - lo).toNat _ (List.getElem?_eq_getElem hlt) (by omega) hO p l e s m args below meth c C H locs ls hS hlv hP)
theorem x_iret {v : Int} (hd : decode (mC y) pc = .ok (.ireturn, 1)) (ht : mT y = some .int ∨ (mT y = some .boolean ∧ (v = 0 ∨ v = 1))) (hQ : Q (some (.inl v)) M) : fx_At E y pc lv [.inl v] M Q := by
  intro hO p l e s m args below meth c C0 H locs ls hS hl hP
  obtain ⟨hx, hb, hml, hr, hlk, hown, hts, hK, hst, hns⟩ := id C0
  have hq : ∀ t : State, t.heap = H → s.WarmedH t.vm → fx_Q E Q args s (.returned (some (.int (i3 v)))) t := fun t ht hW => ⟨⟨some (.inl v), M, rfl, hQ, fx_WM hK hst hns hS hP ht hW⟩, hS.F ht⟩
  rcases ht with h | ⟨h, hv⟩
  · exact W.iret (v := i3 v) hx hb (hr.trans h) hq hS.2.2 hd hlk
  · exact W.zret (v := i3 v) hx hb (hr.trans h) (by rcases hv with rfl | rfl <;> decide +kernel) hq hS.2.2 hd hlk
theorem x_aret {a : Nat} {R : String} (hd : decode (mC y) pc = .ok (.areturn, 1)) (ht : mT y = some (.object R)) (hQ : Q (some (.inr a)) M) : fx_At E y pc lv [.inr a] M Q := by
  intro hO p l e s m args below meth c C0 H locs ls hS hl hP
  obtain ⟨hx, hb, hml, hr, hlk, hown, hts, hK, hst, hns⟩ := id C0
  exact W.aret (v := .ref a) hx hb (hr.trans ht) (Or.inl ⟨_, rfl⟩) (Or.inr ⟨_, rfl⟩) (fun t ht hW => ⟨⟨some (.inr a), M, rfl, hQ, fx_WM hK hst hns hS hP ht hW⟩, hS.F ht⟩) hS.2.2 hd hlk
theorem x_vret (hd : decode (mC y) pc = .ok (.return_, 1)) (ht : mT y = none) (hQ : Q none M) : fx_At E y pc lv [] M Q := by
  intro hO p l e s m args below meth c C0 H locs ls hS hl hP
  obtain ⟨hx, hb, hml, hr, hlk, hown, hts, hK, hst, hns⟩ := id C0
  exact W.vret hx hb (hr.trans ht) (fun t ht hW => ⟨⟨none, M, rfl, hQ, fx_WM hK hst hns hS hP ht hW⟩, hS.F ht⟩) hS.2.2 hd hlk
end
end
section
/-! Contracts and calls. -/
theorem fx_args : ∀ (as : List fxV) (i k : Nat) (v : fxV), as[k]? = some v → (i + k, em v) ∈ lv_args i (as.map em)
  | [], _, _, _, h => by simp at h
  | a :: as, i, 0, v, h => by
    cases h
    exact List.mem_cons_self
  | a :: as, i, k + 1, v, h => by
    refine List.mem_cons_of_mem _ ?_
    rw [if_neg (by rw [em_cat]; omega), show i + (k + 1) = (i + 1) + k by omega]
    exact fx_args as (i + 1) k v h
theorem fx_sl (as : List fxV) : (lg_sl (as.map em)).length = as.length := by
  induction as with
  | nil => rfl
  | cons a as ih =>
    simp only [lg_sl, List.map_cons, List.flatMap_cons, em_cat, List.length_append] at ih ⊢
    simp [ih]
    omega
def fx_lv (n : Nat) (as : List fxV) : List (Option fxV) := as.map some ++ List.replicate (n - as.length) none
/-- a contract out of a walk from the method's entry -/
theorem x_ct {E : fxE} {y : fxY} {as : List fxV} {M : fxM} {Q : Option fxV → fxM → Prop} (hy : plainName (mN y).cls = true) (hlen : as.length ≤ mL y) (h : fx_At E y 0 (fx_lv (mL y) as) [] M Q) : fx_Ct E y as M Q := by
  intro hO l
  refine Met.ofW (cc := mC y) (maxL := mL y) (ret := mT y) hy rfl ?_
  intro p e s m args below meth c s₁ B hml hv
  obtain ⟨rfl, hP, hK, hst, hns⟩ := hv
  have hown : s.vm.findClass (mN y).cls = some m.cls := findClass_of_methodNamed B.named
  have hts := atoms_spec (ws := mW y) B.pre
  have hl := lv_entry (as.map em) (n := mL y) (by rw [fx_sl]; exact hlen)
  rw [lg_entry_eq]
  refine h hO p l e s m _ below meth c ⟨B.exec, B.bytes, hml, B.returns, B.notSynchronized, hown, hts, hK, hst, hns⟩ s.heap [] _ va_S.rf ⟨hl.1, hl.2.1, fun q hq => hl.2.2 q ?_⟩ hP
  obtain ⟨v, h1, h2⟩ := fx_prs_mem.mp hq
  have h3 : as[q.1]? = some v := by
    unfold fx_lv at h1
    by_cases hq1 : q.1 < as.length
    · rw [List.getElem?_append_left (by simpa using hq1), List.getElem?_map] at h1
      cases h4 : as[q.1]? with
      | none => rw [h4] at h1; cases h1
      | some w => rw [h4] at h1; cases h1; rfl
    · rw [List.getElem?_append_right (by simpa using Nat.le_of_not_lt hq1)] at h1
      have := List.mem_of_getElem? h1
      simp at this
  have h5 := fx_args as 0 q.1 v h3
  rw [Nat.zero_add, ← h2] at h5
  exact h5
def fx_p (z : fxY) (n : Nat) : Prop := (mN z).cls ≠ "java/lang/invoke/MethodHandle" ∧ (mN z).cls ≠ "java/lang/invoke/VarHandle" ∧ (parseMethodDescriptor (mN z).desc).map (fun d => d.parameters.length) = some n
def CalV (own : String) (i : Nat) (z : fxY) (n C : Nat) : Prop := Cond.methodLink own i (mN z) ∈ lw_good ∧ Cond.instanceMethod (mN z) ∈ lw_good ∧ Cond.selects (mN z).cls (mN z) (mN z) ∈ lw_good ∧ Cond.initialized (mN z).cls ∈ lw_good ∧ Cond.code (mN z) (mC z) (mL z) (mT z) ∈ lw_good ∧ fx_p z n ∧ C ≤ 10 ∧ ∃ (T : u_T) (N : Nat), vwCl[C]? = some ((mN z).cls, T, N)
def CalS (own : String) (i : Nat) (z : fxY) (n : Nat) : Prop := Cond.methodLink own i (mN z) ∈ lw_good ∧ Cond.static (mN z) ∈ lw_good ∧ Cond.initialized (mN z).cls ∈ lw_good ∧ Cond.code (mN z) (mC z) (mL z) (mT z) ∈ lw_good ∧ fx_p z n
def CalN (own : String) (i : Nat) (z : fxY) (n : Nat) : Prop := (∀ s : State, fx_ns s → va_Nw (.methodLinkNest own i (mN z) RX9) s) ∧ Cond.static (mN z) ∈ lw_good ∧ Cond.initialized (mN z).cls ∈ lw_good ∧ Cond.code (mN z) (mC z) (mL z) (mT z) ∈ lw_good ∧ fx_p z n
theorem fx_blind {E : fxE} {M : fxM} {as : List Value} : FrameBlind (va_Pc as (fx_W E M)) := by
  intro a U g mk h
  obtain ⟨h0, hP, hK, hst, hns⟩ := h
  exact ⟨h0, hP, va_K.moved (u := U) (U := U.calling g mk a) (Vm.Alike.refl U.vm) hK, ⟨⟨hst.1.1.moved (Vm.Alike.refl U.vm), hst.1.2.moved (Vm.Alike.refl U.vm)⟩, ⟨hst.2.1.1.moved (Vm.Alike.refl U.vm), hst.2.1.2.moved (Vm.Alike.refl U.vm)⟩, hst.2.2.1.moved (Vm.Alike.refl U.vm), hst.2.2.2.moved (Vm.Alike.refl U.vm)⟩, va_Nw.same rfl rfl hns.1, va_Nw.same rfl rfl hns.2.1, va_Nw.same rfl rfl hns.2.2⟩
section
variable {E : fxE} {y : fxY} {pc : Nat} {lv : List (Option fxV)} {stk : List fxV} {M : fxM} {Q : Option fxV → fxM → Prop}
/-- behind a call -/
theorem fx_back {p : Program} {l : Launch} {e : Env} {s : State} {m : MethodId} {args : Array Value} {below : List Frame} {meth : Method} {c : Code} {H : Heap} {locs : List Loc} {ls : Array Slot} {Q' : Option fxV → fxM → Prop} {rest : List fxV} {st0 : List Value} {a : Array Value} (hO : fx_Ok E) (C0 : fx_C E y p s m args meth c) (hS : va_S (eA E) s.heap H locs) (hl : lv_has ls (mL y) (fx_prs lv))
    (hr : va_Run p l e (mR y) s m args below meth c H locs 0 0 0 0 (F0 m pc ls st0) (rest.map em) (fx_Q E Q' a) (eA E))
    (kk : ∀ (r : Option fxV) (M' : fxM), Q' r M' → fx_At E y (pc + 3) lv (r.toList ++ rest) M' Q) : W p l e (mR y) s m args below meth c H locs 0 0 (MQ below (fx_Q E Q) args s 0 0 (eA E)) (F0 m pc ls st0) := by
  intro T hT X
  obtain ⟨v, st₀, t, T', L, h0, X', hL, e1, e2, ⟨⟨r, M', hv, hQ, hW⟩, hz, hk⟩, st⟩ := hr T hT X
  have hv' : v = r.map em := by cases hv; rfl
  subst hv'
  rw [h0] at hz hk
  have hS' : va_S (eA E) s.heap T'.heap (locs ++ L) := by
    refine ⟨Nat.le_trans hS.1 (by rw [e1]; exact hz), fun q h1 h2 => ?_, fun q hq => ?_⟩
    · rw [e1, hk q (Nat.lt_of_lt_of_le h1 hS.1) h2]
      exact hS.2.1 q h1 h2
    · rcases List.mem_append.mp hq with h | h
      · exact hS.2.2 q h
      · exact hL q h
  have hP' : fx_P E M' T'.heap := by rw [e1]; exact hW.1
  obtain ⟨t2, a1, b1⟩ := kk r M' hQ hO p l e s m args below meth c C0 T'.heap (locs ++ L) ls hS' hl hP' T' rfl X'
  refine ⟨t2, st t2 ?_, b1⟩
  have e3 : (r.toList ++ rest).map em = (r.map em).toList ++ rest.map em := by cases r <;> rfl
  rw [e3] at a1
  exact a1
theorem fx_cat (rest : List fxV) : ((rest.map em).map fun v => v.category).sum = rest.length := by
  induction rest with
  | nil => rfl
  | cons a r ih => simp only [List.map_cons, List.sum_cons, em_cat, ih, List.length_cons]; omega
theorem x_callV {z : fxY} {i b C : Nat} {as rest : List fxV} {Q' : Option fxV → fxM → Prop} (hd : decode (mC y) pc = .ok (.invokevirtual i, 3)) (hc : CalV (mN y).cls i z as.length C) (hf : mF z + 1 ≤ mF y ∧ 8 + (mL z + 11) + mO z ≤ mO y) (hb : kd E b = C) (hstk : as.reverse ++ .inr b :: rest = stk) (hrest : rest.length ≤ 8) (hct : fx_Ct E z (.inr b :: as) M Q') (kk : ∀ (r : Option fxV) (M' : fxM), Q' r M' → fx_At E y (pc + 3) lv (r.toList ++ rest) M' Q) : fx_At E y pc lv stk M Q := by
  intro hO p l e s m args below meth c C0 H locs ls hS hl hP
  obtain ⟨hx, hbc, hml, hr, hlk, hown, hts, hK, hst, hns⟩ := id C0
  obtain ⟨c1, c2, c3, c4, c5, c6, c7, T, N, c8⟩ := hc
  subst hstk
  obtain ⟨q, hq⟩ := fx_pl_get (M := M) hO (show kd E b ≤ 16 by omega)
  rw [cel_o hb c7] at hq
  refine fx_back (rest := rest) (a := (Value.ref b :: as.map em).toArray) hO C0 hS hl (va_runV (As := as.map em) (rest := rest.map em) (b := b) (n := as.length) ⟨hx, hbc, hml, hown, hts⟩ (hct hO l) ⟨callB_of as.length hts (fx_goodIn c5) rfl rfl rfl (fx_w hts c4) (fx_w hts c1) c6 hf, fx_w hts c2, fx_w hts c3⟩ ⟨fx_blind, va_recv hK hP c8 hq, fun U hU hW => ⟨rfl, fx_WM hK hst hns hS hP hU hW⟩⟩ rfl (by simp) hl.1 ?_ (lv_room (by rw [fx_cat]; exact hrest)) hd ⟨Nat.le_refl _, Nat.le_refl _⟩) kk
  simp [em]
theorem x_callS {z : fxY} {i : Nat} {as rest : List fxV} {Q' : Option fxV → fxM → Prop} (hd : decode (mC y) pc = .ok (.invokestatic i, 3)) (hc : CalS (mN y).cls i z as.length) (hf : mF z + 1 ≤ mF y ∧ 8 + (mL z + 11) + mO z ≤ mO y) (hstk : as.reverse ++ rest = stk) (hrest : rest.length ≤ 8) (hct : fx_Ct E z as M Q') (kk : ∀ (r : Option fxV) (M' : fxM), Q' r M' → fx_At E y (pc + 3) lv (r.toList ++ rest) M' Q) : fx_At E y pc lv stk M Q := by
  intro hO p l e s m args below meth c C0 H locs ls hS hl hP
  obtain ⟨hx, hbc, hml, hr, hlk, hown, hts, hK, hst, hns⟩ := id C0
  obtain ⟨c1, c2, c4, c5, c6⟩ := hc
  subst hstk
  refine fx_back (rest := rest) (a := (as.map em).toArray) hO C0 hS hl (va_runS (As := as.map em) (rest := rest.map em) (n := as.length) ⟨hx, hbc, hml, hown, hts⟩ (hct hO l) ⟨callB_of as.length hts (fx_goodIn c5) rfl rfl rfl (fx_w hts c4) (fx_w hts c1) c6 hf, fx_w hts c2⟩ ⟨fx_blind, fun U hU hW => ⟨rfl, fx_WM hK hst hns hS hP hU hW⟩⟩ rfl (by simp) hl.1 ?_ (lv_room (by rw [fx_cat]; exact hrest)) hd ⟨Nat.le_refl _, Nat.le_refl _⟩) kk
  simp
theorem x_callN {z : fxY} {i : Nat} {as rest : List fxV} {Q' : Option fxV → fxM → Prop} (hd : decode (mC y) pc = .ok (.invokestatic i, 3)) (hc : CalN (mN y).cls i z as.length) (hf : mF z + 1 ≤ mF y ∧ 8 + (mL z + 11) + mO z ≤ mO y) (hstk : as.reverse ++ rest = stk) (hrest : rest.length ≤ 8) (hct : fx_Ct E z as M Q') (kk : ∀ (r : Option fxV) (M' : fxM), Q' r M' → fx_At E y (pc + 3) lv (r.toList ++ rest) M' Q) : fx_At E y pc lv stk M Q := by
  intro hO p l e s m args below meth c C0 H locs ls hS hl hP
  obtain ⟨hx, hbc, hml, hr, hlk, hown, hts, hK, hst, hns⟩ := id C0
  obtain ⟨c1, c2, c4, c5, c6⟩ := hc
  subst hstk
  refine fx_back (rest := rest) (a := (as.map em).toArray) hO C0 hS hl (va_runSN (As := as.map em) (rest := rest.map em) (n := as.length) ⟨hx, hbc, hml, hown, hts⟩ (hct hO l) ⟨va_cnB as.length hts (fx_goodIn c5) rfl rfl rfl (c1 s hns) (fx_w hts c4) c6 hf, fx_w hts c2, trivial⟩ ⟨fx_blind, fun U hU hW => ⟨rfl, fx_WM hK hst hns hS hP hU hW⟩⟩ rfl (by simp) hl.1 ?_ (lv_room (by rw [fx_cat]; exact hrest)) hd ⟨Nat.le_refl _, Nat.le_refl _⟩) kk
  simp
/-- the first n of one row into another -/
def mcpy (M : fxM) (a b : Nat) (n : Int) : fxM := fun c j => if c = b ∧ (j : Int) < n then M a j else M c j
theorem x_copy {a b na nb i : Nat} {n : Int} (hd : decode (mC y) pc = .ok (.invokestatic i, 3)) (hq : Cond.methodLink (mN y).cls i arraycopyName ∈ lw_good ∧ Cond.native arraycopyName ∈ lw_good ∧ Cond.static arraycopyName ∈ lw_good ∧ Cond.initialized "java/lang/System" ∈ lw_good) (ha : kd E a = 11) (hb : kd E b = 11) (hna : ln E a = na) (hnb : ln E b = nb) (hn : 0 ≤ n ∧ n ≤ (na : Int) ∧ n ≤ (nb : Int)) (hF : 1 ≤ mF y) (hO1 : stk.length + (nativeFrameWords "java/lang/System" "arraycopy" 5 + 11) ≤ mO y) (kk : ∀ M1, M1 = mcpy M a b n → fx_At E y (pc + 3) lv stk M1 Q) : fx_At E y pc lv (.inl n :: .inl 0 :: .inr b :: .inl 0 :: .inr a :: stk) M Q := by
  intro hO p l e s m args below meth c C0 H locs ls hS hl hP
  obtain ⟨hx, hbc, hml, hr, hlk, hown, hts, hK, hst, hns⟩ := id C0
  obtain ⟨qa, hqa⟩ := fx_pl_get (M := M) hO (show kd E a ≤ 16 by omega)
  obtain ⟨qb, hqb⟩ := fx_pl_get (M := M) hO (show kd E b ≤ 16 by omega)
  have hqb' := hqb
  rw [cel_i ha (by omega) (by omega), hna] at hqa
  rw [cel_i hb (by omega) (by omega), hnb] at hqb
  have hs1 := hO.2.2.1 a
  have hs2 := hO.2.2.1 b
  have hc : (i3 n).toNatClampNeg = n.toNat := i3_clamp hn.1 (by omega)
  have h0 : (0 : Int32).toNatClampNeg = 0 := by decide
  have hset := fx_pl_set (M := M) (M' := mcpy M a b n) (e := .inl (eY E 11, nb, .inl (va_cpy (fun j => i3 (M a j)) (fun j => i3 (M b j)) 0 0 n.toNat))) hO (show kd E b ≤ 16 by omega) hqb' (by
    rw [cel_i hb (by omega) (by omega), hnb]
    congr 4
    funext j
    by_cases h : (j : Int) < n
    · have : j < n.toNat := by omega
      simp [va_cpy, mcpy, h, this]
    · have : ¬ j < n.toNat := by omega
      simp [va_cpy, mcpy, h, this]) (fun c hc => by funext j; simp [mcpy, hc])
  refine va_copyi (n := i3 n) (sp := 0) (dp := 0) hx hbc (hml.trans hl.1.symm) hown (fx_w hts hq.1) (fx_w hts hq.2.1) (fx_w hts hq.2.2.1) (fx_w hts hq.2.2.2) hK hP (fx_D hO) hS qa qb 0 0 hqa hqb rfl rfl rfl (by decide) (by decide) ?_ ?_ ?_ (fun _ _ => rfl) hF (by rw [fx_cat]; exact hO1) hd (fun H1 locs1 hP1 _ hS1 => ?_)
  · exact fun h => by have := (i3_lt ⟨by omega, by omega⟩ inR_0).mp h; omega
  · rw [hc, h0]; omega
  · rw [hc, h0]; omega
  · rw [hc, h0, hset] at hP1
    exact kk _ rfl hO p l e s m args below meth c C0 H1 locs1 ls hS1 hl hP1
end
end
section
/-! The shape: kinds and lengths of what each field refers to; every reference has one holder. -/
def wt_0 (E : fxE) (a : Nat) : Prop := (kd E (rf E a 0) = 11 ∧ ln E (rf E a 0) = 10) ∧ (kd E (rf E a 1) = 11 ∧ ln E (rf E a 1) = 10)
def wt_1 (E : fxE) (a : Nat) : Prop := (kd E (rf E a 0) = 11 ∧ ln E (rf E a 0) = 200) ∧ (kd E (rf E a 1) = 11 ∧ ln E (rf E a 1) = 200) ∧ (kd E (rf E a 2) = 11 ∧ ln E (rf E a 2) = 200) ∧ (kd E (rf E a 3) = 11 ∧ ln E (rf E a 3) = 200) ∧ (kd E (rf E a 4) = 11 ∧ ln E (rf E a 4) = 200) ∧ (kd E (rf E a 5) = 12 ∧ ln E (rf E a 5) = 401)
def wt_2 (E : fxE) (a : Nat) : Prop := (kd E (rf E a 0) = 11 ∧ ln E (rf E a 0) = 8) ∧ (kd E (rf E a 1) = 11 ∧ ln E (rf E a 1) = 8) ∧ (kd E (rf E a 2) = 11 ∧ ln E (rf E a 2) = 8) ∧ (kd E (rf E a 4) = 11 ∧ ln E (rf E a 4) = 9) ∧ (kd E (rf E a 5) = 11 ∧ ln E (rf E a 5) = 9) ∧ (kd E (rf E a 6) = 11 ∧ ln E (rf E a 6) = 6) ∧ (kd E (rf E a 7) = 11 ∧ ln E (rf E a 7) = 6)
def wt_3 (E : fxE) (a : Nat) : Prop := (kd E (rf E a 0) = 14 ∧ ln E (rf E a 0) = 8)
def wt_4 (E : fxE) (a : Nat) : Prop := (kd E (rf E a 0) = 11 ∧ ln E (rf E a 0) = 200) ∧ (kd E (rf E a 1) = 11 ∧ ln E (rf E a 1) = 200) ∧ (kd E (rf E a 2) = 12 ∧ ln E (rf E a 2) = 200)
def wt_5 (E : fxE) (a : Nat) : Prop := (kd E (rf E a 0) = 2) ∧ (kd E (rf E a 1) = 0) ∧ (kd E (rf E a 2) = 11 ∧ ln E (rf E a 2) = 4)
def wt_6 (E : fxE) (a : Nat) : Prop := (kd E (rf E a 0) = 11 ∧ ln E (rf E a 0) = 120)
def wt_7 (E : fxE) (a : Nat) : Prop := (kd E (rf E a 0) = 11 ∧ ln E (rf E a 0) = 401)
def wt_8 (E : fxE) (a : Nat) : Prop := (kd E (rf E a 0) = 11 ∧ ln E (rf E a 0) = 301) ∧ (kd E (rf E a 1) = 11 ∧ ln E (rf E a 1) = 300) ∧ (kd E (rf E a 2) = 11 ∧ ln E (rf E a 2) = 10) ∧ (kd E (rf E a 3) = 11 ∧ ln E (rf E a 3) = 10)
def wt_9 (E : fxE) (a : Nat) : Prop := (kd E (rf E a 0) = 5) ∧ (kd E (rf E a 1) = 3) ∧ (kd E (rf E a 2) = 2) ∧ (kd E (rf E a 3) = 6) ∧ (kd E (rf E a 4) = 16 ∧ ln E (rf E a 4) = 2) ∧ (kd E (rf E a 5) = 15 ∧ ln E (rf E a 5) = 8) ∧ (kd E (rf E a 6) = 13 ∧ ln E (rf E a 6) = 2) ∧ (kd E (rf E a 7) = 4)
def wt_10 (E : fxE) (a : Nat) : Prop := (kd E (rf E a 0) = 11 ∧ ln E (rf E a 0) = 84) ∧ (kd E (rf E a 1) = 11 ∧ ln E (rf E a 1) = 672) ∧ (kd E (rf E a 5) = 11 ∧ ln E (rf E a 5) = 120) ∧ (kd E (rf E a 9) = 11 ∧ ln E (rf E a 9) = 301) ∧ (kd E (rf E a 10) = 11 ∧ ln E (rf E a 10) = 300) ∧ (kd E (rf E a 11) = 11 ∧ ln E (rf E a 11) = 20) ∧ (kd E (rf E a 13) = 11 ∧ ln E (rf E a 13) = 401) ∧ (kd E (rf E a 14) = 11 ∧ ln E (rf E a 14) = 401) ∧ (kd E (rf E a 15) = 11 ∧ ln E (rf E a 15) = 2814) ∧ (kd E (rf E a 17) = 11 ∧ ln E (rf E a 17) = 402) ∧ (kd E (rf E a 18) = 11 ∧ ln E (rf E a 18) = 402) ∧ (kd E (rf E a 23) = 11 ∧ ln E (rf E a 23) = 24)
def rslot (E : fxE) (a k : Nat) : Prop := (kd E a ≤ 10 ∧ (lay (kd E a))[k]? = some true) ∨ (13 ≤ kd E a ∧ kd E a ≤ 16 ∧ k < ln E a)
def fx_Wt (E : fxE) : Prop := (∀ a, kd E a = 0 → wt_0 E a) ∧ (∀ a, kd E a = 1 → wt_1 E a) ∧ (∀ a, kd E a = 2 → wt_2 E a) ∧ (∀ a, kd E a = 3 → wt_3 E a) ∧ (∀ a, kd E a = 4 → wt_4 E a) ∧ (∀ a, kd E a = 5 → wt_5 E a) ∧ (∀ a, kd E a = 6 → wt_6 E a) ∧ (∀ a, kd E a = 7 → wt_7 E a) ∧ (∀ a, kd E a = 8 → wt_8 E a) ∧ (∀ a, kd E a = 9 → wt_9 E a) ∧ (∀ a, kd E a = 10 → wt_10 E a) ∧ (∀ a i, kd E a = 13 → i < ln E a → kd E (rf E a i) = 1) ∧ (∀ a i, kd E a = 14 → i < ln E a → kd E (rf E a i) = 5) ∧ (∀ a i, kd E a = 15 → i < ln E a → kd E (rf E a i) = 7) ∧ (∀ a i, kd E a = 16 → i < ln E a → kd E (rf E a i) = 8) ∧ (∀ a k b j, rslot E a k → rslot E b j → rf E a k = rf E b j → a = b ∧ k = j)
theorem wk_0_0 {E : fxE} {a : Nat} (hW : fx_Wt E) (h : kd E a = 0) : kd E (rf E a 0) = 11 := (hW.1 a h).1.1
theorem wl_0_0 {E : fxE} {a : Nat} (hW : fx_Wt E) (h : kd E a = 0) : ln E (rf E a 0) = 10 := (hW.1 a h).1.2
theorem wk_0_1 {E : fxE} {a : Nat} (hW : fx_Wt E) (h : kd E a = 0) : kd E (rf E a 1) = 11 := (hW.1 a h).2.1
theorem wl_0_1 {E : fxE} {a : Nat} (hW : fx_Wt E) (h : kd E a = 0) : ln E (rf E a 1) = 10 := (hW.1 a h).2.2
theorem wk_1_0 {E : fxE} {a : Nat} (hW : fx_Wt E) (h : kd E a = 1) : kd E (rf E a 0) = 11 := (hW.2.1 a h).1.1
theorem wl_1_0 {E : fxE} {a : Nat} (hW : fx_Wt E) (h : kd E a = 1) : ln E (rf E a 0) = 200 := (hW.2.1 a h).1.2
theorem wk_1_1 {E : fxE} {a : Nat} (hW : fx_Wt E) (h : kd E a = 1) : kd E (rf E a 1) = 11 := (hW.2.1 a h).2.1.1
theorem wl_1_1 {E : fxE} {a : Nat} (hW : fx_Wt E) (h : kd E a = 1) : ln E (rf E a 1) = 200 := (hW.2.1 a h).2.1.2
theorem wk_1_2 {E : fxE} {a : Nat} (hW : fx_Wt E) (h : kd E a = 1) : kd E (rf E a 2) = 11 := (hW.2.1 a h).2.2.1.1
theorem wl_1_2 {E : fxE} {a : Nat} (hW : fx_Wt E) (h : kd E a = 1) : ln E (rf E a 2) = 200 := (hW.2.1 a h).2.2.1.2
theorem wk_1_3 {E : fxE} {a : Nat} (hW : fx_Wt E) (h : kd E a = 1) : kd E (rf E a 3) = 11 := (hW.2.1 a h).2.2.2.1.1
theorem wl_1_3 {E : fxE} {a : Nat} (hW : fx_Wt E) (h : kd E a = 1) : ln E (rf E a 3) = 200 := (hW.2.1 a h).2.2.2.1.2
theorem wk_1_4 {E : fxE} {a : Nat} (hW : fx_Wt E) (h : kd E a = 1) : kd E (rf E a 4) = 11 := (hW.2.1 a h).2.2.2.2.1.1
theorem wl_1_4 {E : fxE} {a : Nat} (hW : fx_Wt E) (h : kd E a = 1) : ln E (rf E a 4) = 200 := (hW.2.1 a h).2.2.2.2.1.2
theorem wk_1_5 {E : fxE} {a : Nat} (hW : fx_Wt E) (h : kd E a = 1) : kd E (rf E a 5) = 12 := (hW.2.1 a h).2.2.2.2.2.1
theorem wl_1_5 {E : fxE} {a : Nat} (hW : fx_Wt E) (h : kd E a = 1) : ln E (rf E a 5) = 401 := (hW.2.1 a h).2.2.2.2.2.2
theorem wk_2_0 {E : fxE} {a : Nat} (hW : fx_Wt E) (h : kd E a = 2) : kd E (rf E a 0) = 11 := (hW.2.2.1 a h).1.1
theorem wl_2_0 {E : fxE} {a : Nat} (hW : fx_Wt E) (h : kd E a = 2) : ln E (rf E a 0) = 8 := (hW.2.2.1 a h).1.2
theorem wk_2_1 {E : fxE} {a : Nat} (hW : fx_Wt E) (h : kd E a = 2) : kd E (rf E a 1) = 11 := (hW.2.2.1 a h).2.1.1
theorem wl_2_1 {E : fxE} {a : Nat} (hW : fx_Wt E) (h : kd E a = 2) : ln E (rf E a 1) = 8 := (hW.2.2.1 a h).2.1.2
theorem wk_2_2 {E : fxE} {a : Nat} (hW : fx_Wt E) (h : kd E a = 2) : kd E (rf E a 2) = 11 := (hW.2.2.1 a h).2.2.1.1
theorem wl_2_2 {E : fxE} {a : Nat} (hW : fx_Wt E) (h : kd E a = 2) : ln E (rf E a 2) = 8 := (hW.2.2.1 a h).2.2.1.2
theorem wk_2_4 {E : fxE} {a : Nat} (hW : fx_Wt E) (h : kd E a = 2) : kd E (rf E a 4) = 11 := (hW.2.2.1 a h).2.2.2.1.1
theorem wl_2_4 {E : fxE} {a : Nat} (hW : fx_Wt E) (h : kd E a = 2) : ln E (rf E a 4) = 9 := (hW.2.2.1 a h).2.2.2.1.2
theorem wk_2_5 {E : fxE} {a : Nat} (hW : fx_Wt E) (h : kd E a = 2) : kd E (rf E a 5) = 11 := (hW.2.2.1 a h).2.2.2.2.1.1
theorem wl_2_5 {E : fxE} {a : Nat} (hW : fx_Wt E) (h : kd E a = 2) : ln E (rf E a 5) = 9 := (hW.2.2.1 a h).2.2.2.2.1.2
theorem wk_2_6 {E : fxE} {a : Nat} (hW : fx_Wt E) (h : kd E a = 2) : kd E (rf E a 6) = 11 := (hW.2.2.1 a h).2.2.2.2.2.1.1
theorem wl_2_6 {E : fxE} {a : Nat} (hW : fx_Wt E) (h : kd E a = 2) : ln E (rf E a 6) = 6 := (hW.2.2.1 a h).2.2.2.2.2.1.2
theorem wk_2_7 {E : fxE} {a : Nat} (hW : fx_Wt E) (h : kd E a = 2) : kd E (rf E a 7) = 11 := (hW.2.2.1 a h).2.2.2.2.2.2.1
theorem wl_2_7 {E : fxE} {a : Nat} (hW : fx_Wt E) (h : kd E a = 2) : ln E (rf E a 7) = 6 := (hW.2.2.1 a h).2.2.2.2.2.2.2
theorem wk_3_0 {E : fxE} {a : Nat} (hW : fx_Wt E) (h : kd E a = 3) : kd E (rf E a 0) = 14 := (hW.2.2.2.1 a h).1
theorem wl_3_0 {E : fxE} {a : Nat} (hW : fx_Wt E) (h : kd E a = 3) : ln E (rf E a 0) = 8 := (hW.2.2.2.1 a h).2
theorem wk_4_0 {E : fxE} {a : Nat} (hW : fx_Wt E) (h : kd E a = 4) : kd E (rf E a 0) = 11 := (hW.2.2.2.2.1 a h).1.1
theorem wl_4_0 {E : fxE} {a : Nat} (hW : fx_Wt E) (h : kd E a = 4) : ln E (rf E a 0) = 200 := (hW.2.2.2.2.1 a h).1.2
theorem wk_4_1 {E : fxE} {a : Nat} (hW : fx_Wt E) (h : kd E a = 4) : kd E (rf E a 1) = 11 := (hW.2.2.2.2.1 a h).2.1.1
theorem wl_4_1 {E : fxE} {a : Nat} (hW : fx_Wt E) (h : kd E a = 4) : ln E (rf E a 1) = 200 := (hW.2.2.2.2.1 a h).2.1.2
theorem wk_4_2 {E : fxE} {a : Nat} (hW : fx_Wt E) (h : kd E a = 4) : kd E (rf E a 2) = 12 := (hW.2.2.2.2.1 a h).2.2.1
theorem wl_4_2 {E : fxE} {a : Nat} (hW : fx_Wt E) (h : kd E a = 4) : ln E (rf E a 2) = 200 := (hW.2.2.2.2.1 a h).2.2.2
theorem wk_5_0 {E : fxE} {a : Nat} (hW : fx_Wt E) (h : kd E a = 5) : kd E (rf E a 0) = 2 := (hW.2.2.2.2.2.1 a h).1
theorem wk_5_1 {E : fxE} {a : Nat} (hW : fx_Wt E) (h : kd E a = 5) : kd E (rf E a 1) = 0 := (hW.2.2.2.2.2.1 a h).2.1
theorem wk_5_2 {E : fxE} {a : Nat} (hW : fx_Wt E) (h : kd E a = 5) : kd E (rf E a 2) = 11 := (hW.2.2.2.2.2.1 a h).2.2.1
theorem wl_5_2 {E : fxE} {a : Nat} (hW : fx_Wt E) (h : kd E a = 5) : ln E (rf E a 2) = 4 := (hW.2.2.2.2.2.1 a h).2.2.2
theorem wk_6_0 {E : fxE} {a : Nat} (hW : fx_Wt E) (h : kd E a = 6) : kd E (rf E a 0) = 11 := (hW.2.2.2.2.2.2.1 a h).1
theorem wl_6_0 {E : fxE} {a : Nat} (hW : fx_Wt E) (h : kd E a = 6) : ln E (rf E a 0) = 120 := (hW.2.2.2.2.2.2.1 a h).2
theorem wk_7_0 {E : fxE} {a : Nat} (hW : fx_Wt E) (h : kd E a = 7) : kd E (rf E a 0) = 11 := (hW.2.2.2.2.2.2.2.1 a h).1
theorem wl_7_0 {E : fxE} {a : Nat} (hW : fx_Wt E) (h : kd E a = 7) : ln E (rf E a 0) = 401 := (hW.2.2.2.2.2.2.2.1 a h).2
theorem wk_8_0 {E : fxE} {a : Nat} (hW : fx_Wt E) (h : kd E a = 8) : kd E (rf E a 0) = 11 := (hW.2.2.2.2.2.2.2.2.1 a h).1.1
theorem wl_8_0 {E : fxE} {a : Nat} (hW : fx_Wt E) (h : kd E a = 8) : ln E (rf E a 0) = 301 := (hW.2.2.2.2.2.2.2.2.1 a h).1.2
theorem wk_8_1 {E : fxE} {a : Nat} (hW : fx_Wt E) (h : kd E a = 8) : kd E (rf E a 1) = 11 := (hW.2.2.2.2.2.2.2.2.1 a h).2.1.1
theorem wl_8_1 {E : fxE} {a : Nat} (hW : fx_Wt E) (h : kd E a = 8) : ln E (rf E a 1) = 300 := (hW.2.2.2.2.2.2.2.2.1 a h).2.1.2
theorem wk_8_2 {E : fxE} {a : Nat} (hW : fx_Wt E) (h : kd E a = 8) : kd E (rf E a 2) = 11 := (hW.2.2.2.2.2.2.2.2.1 a h).2.2.1.1
theorem wl_8_2 {E : fxE} {a : Nat} (hW : fx_Wt E) (h : kd E a = 8) : ln E (rf E a 2) = 10 := (hW.2.2.2.2.2.2.2.2.1 a h).2.2.1.2
theorem wk_8_3 {E : fxE} {a : Nat} (hW : fx_Wt E) (h : kd E a = 8) : kd E (rf E a 3) = 11 := (hW.2.2.2.2.2.2.2.2.1 a h).2.2.2.1
theorem wl_8_3 {E : fxE} {a : Nat} (hW : fx_Wt E) (h : kd E a = 8) : ln E (rf E a 3) = 10 := (hW.2.2.2.2.2.2.2.2.1 a h).2.2.2.2
theorem wk_9_0 {E : fxE} {a : Nat} (hW : fx_Wt E) (h : kd E a = 9) : kd E (rf E a 0) = 5 := (hW.2.2.2.2.2.2.2.2.2.1 a h).1
theorem wk_9_1 {E : fxE} {a : Nat} (hW : fx_Wt E) (h : kd E a = 9) : kd E (rf E a 1) = 3 := (hW.2.2.2.2.2.2.2.2.2.1 a h).2.1
theorem wk_9_2 {E : fxE} {a : Nat} (hW : fx_Wt E) (h : kd E a = 9) : kd E (rf E a 2) = 2 := (hW.2.2.2.2.2.2.2.2.2.1 a h).2.2.1
theorem wk_9_3 {E : fxE} {a : Nat} (hW : fx_Wt E) (h : kd E a = 9) : kd E (rf E a 3) = 6 := (hW.2.2.2.2.2.2.2.2.2.1 a h).2.2.2.1
theorem wk_9_4 {E : fxE} {a : Nat} (hW : fx_Wt E) (h : kd E a = 9) : kd E (rf E a 4) = 16 := (hW.2.2.2.2.2.2.2.2.2.1 a h).2.2.2.2.1.1
theorem wl_9_4 {E : fxE} {a : Nat} (hW : fx_Wt E) (h : kd E a = 9) : ln E (rf E a 4) = 2 := (hW.2.2.2.2.2.2.2.2.2.1 a h).2.2.2.2.1.2
theorem wk_9_5 {E : fxE} {a : Nat} (hW : fx_Wt E) (h : kd E a = 9) : kd E (rf E a 5) = 15 := (hW.2.2.2.2.2.2.2.2.2.1 a h).2.2.2.2.2.1.1
theorem wl_9_5 {E : fxE} {a : Nat} (hW : fx_Wt E) (h : kd E a = 9) : ln E (rf E a 5) = 8 := (hW.2.2.2.2.2.2.2.2.2.1 a h).2.2.2.2.2.1.2
theorem wk_9_6 {E : fxE} {a : Nat} (hW : fx_Wt E) (h : kd E a = 9) : kd E (rf E a 6) = 13 := (hW.2.2.2.2.2.2.2.2.2.1 a h).2.2.2.2.2.2.1.1
theorem wl_9_6 {E : fxE} {a : Nat} (hW : fx_Wt E) (h : kd E a = 9) : ln E (rf E a 6) = 2 := (hW.2.2.2.2.2.2.2.2.2.1 a h).2.2.2.2.2.2.1.2
theorem wk_9_7 {E : fxE} {a : Nat} (hW : fx_Wt E) (h : kd E a = 9) : kd E (rf E a 7) = 4 := (hW.2.2.2.2.2.2.2.2.2.1 a h).2.2.2.2.2.2.2
theorem wk_10_0 {E : fxE} {a : Nat} (hW : fx_Wt E) (h : kd E a = 10) : kd E (rf E a 0) = 11 := (hW.2.2.2.2.2.2.2.2.2.2.1 a h).1.1
theorem wl_10_0 {E : fxE} {a : Nat} (hW : fx_Wt E) (h : kd E a = 10) : ln E (rf E a 0) = 84 := (hW.2.2.2.2.2.2.2.2.2.2.1 a h).1.2
theorem wk_10_1 {E : fxE} {a : Nat} (hW : fx_Wt E) (h : kd E a = 10) : kd E (rf E a 1) = 11 := (hW.2.2.2.2.2.2.2.2.2.2.1 a h).2.1.1
theorem wl_10_1 {E : fxE} {a : Nat} (hW : fx_Wt E) (h : kd E a = 10) : ln E (rf E a 1) = 672 := (hW.2.2.2.2.2.2.2.2.2.2.1 a h).2.1.2
theorem wk_10_5 {E : fxE} {a : Nat} (hW : fx_Wt E) (h : kd E a = 10) : kd E (rf E a 5) = 11 := (hW.2.2.2.2.2.2.2.2.2.2.1 a h).2.2.1.1
theorem wl_10_5 {E : fxE} {a : Nat} (hW : fx_Wt E) (h : kd E a = 10) : ln E (rf E a 5) = 120 := (hW.2.2.2.2.2.2.2.2.2.2.1 a h).2.2.1.2
theorem wk_10_9 {E : fxE} {a : Nat} (hW : fx_Wt E) (h : kd E a = 10) : kd E (rf E a 9) = 11 := (hW.2.2.2.2.2.2.2.2.2.2.1 a h).2.2.2.1.1
theorem wl_10_9 {E : fxE} {a : Nat} (hW : fx_Wt E) (h : kd E a = 10) : ln E (rf E a 9) = 301 := (hW.2.2.2.2.2.2.2.2.2.2.1 a h).2.2.2.1.2
theorem wk_10_10 {E : fxE} {a : Nat} (hW : fx_Wt E) (h : kd E a = 10) : kd E (rf E a 10) = 11 := (hW.2.2.2.2.2.2.2.2.2.2.1 a h).2.2.2.2.1.1
theorem wl_10_10 {E : fxE} {a : Nat} (hW : fx_Wt E) (h : kd E a = 10) : ln E (rf E a 10) = 300 := (hW.2.2.2.2.2.2.2.2.2.2.1 a h).2.2.2.2.1.2
theorem wk_10_11 {E : fxE} {a : Nat} (hW : fx_Wt E) (h : kd E a = 10) : kd E (rf E a 11) = 11 := (hW.2.2.2.2.2.2.2.2.2.2.1 a h).2.2.2.2.2.1.1
theorem wl_10_11 {E : fxE} {a : Nat} (hW : fx_Wt E) (h : kd E a = 10) : ln E (rf E a 11) = 20 := (hW.2.2.2.2.2.2.2.2.2.2.1 a h).2.2.2.2.2.1.2
theorem wk_10_13 {E : fxE} {a : Nat} (hW : fx_Wt E) (h : kd E a = 10) : kd E (rf E a 13) = 11 := (hW.2.2.2.2.2.2.2.2.2.2.1 a h).2.2.2.2.2.2.1.1
theorem wl_10_13 {E : fxE} {a : Nat} (hW : fx_Wt E) (h : kd E a = 10) : ln E (rf E a 13) = 401 := (hW.2.2.2.2.2.2.2.2.2.2.1 a h).2.2.2.2.2.2.1.2
theorem wk_10_14 {E : fxE} {a : Nat} (hW : fx_Wt E) (h : kd E a = 10) : kd E (rf E a 14) = 11 := (hW.2.2.2.2.2.2.2.2.2.2.1 a h).2.2.2.2.2.2.2.1.1
theorem wl_10_14 {E : fxE} {a : Nat} (hW : fx_Wt E) (h : kd E a = 10) : ln E (rf E a 14) = 401 := (hW.2.2.2.2.2.2.2.2.2.2.1 a h).2.2.2.2.2.2.2.1.2
theorem wk_10_15 {E : fxE} {a : Nat} (hW : fx_Wt E) (h : kd E a = 10) : kd E (rf E a 15) = 11 := (hW.2.2.2.2.2.2.2.2.2.2.1 a h).2.2.2.2.2.2.2.2.1.1
theorem wl_10_15 {E : fxE} {a : Nat} (hW : fx_Wt E) (h : kd E a = 10) : ln E (rf E a 15) = 2814 := (hW.2.2.2.2.2.2.2.2.2.2.1 a h).2.2.2.2.2.2.2.2.1.2
theorem wk_10_17 {E : fxE} {a : Nat} (hW : fx_Wt E) (h : kd E a = 10) : kd E (rf E a 17) = 11 := (hW.2.2.2.2.2.2.2.2.2.2.1 a h).2.2.2.2.2.2.2.2.2.1.1
theorem wl_10_17 {E : fxE} {a : Nat} (hW : fx_Wt E) (h : kd E a = 10) : ln E (rf E a 17) = 402 := (hW.2.2.2.2.2.2.2.2.2.2.1 a h).2.2.2.2.2.2.2.2.2.1.2
theorem wk_10_18 {E : fxE} {a : Nat} (hW : fx_Wt E) (h : kd E a = 10) : kd E (rf E a 18) = 11 := (hW.2.2.2.2.2.2.2.2.2.2.1 a h).2.2.2.2.2.2.2.2.2.2.1.1
theorem wl_10_18 {E : fxE} {a : Nat} (hW : fx_Wt E) (h : kd E a = 10) : ln E (rf E a 18) = 402 := (hW.2.2.2.2.2.2.2.2.2.2.1 a h).2.2.2.2.2.2.2.2.2.2.1.2
theorem wk_10_23 {E : fxE} {a : Nat} (hW : fx_Wt E) (h : kd E a = 10) : kd E (rf E a 23) = 11 := (hW.2.2.2.2.2.2.2.2.2.2.1 a h).2.2.2.2.2.2.2.2.2.2.2.1
theorem wl_10_23 {E : fxE} {a : Nat} (hW : fx_Wt E) (h : kd E a = 10) : ln E (rf E a 23) = 24 := (hW.2.2.2.2.2.2.2.2.2.2.1 a h).2.2.2.2.2.2.2.2.2.2.2.2
theorem we_13 {E : fxE} {a n : Nat} {i : Int} (hW : fx_Wt E) (h : kd E a = 13) (hn : ln E a = n) (g : 0 ≤ i ∧ i < (n : Int)) : kd E (rf E a i.toNat) = 1 := hW.2.2.2.2.2.2.2.2.2.2.2.1 a i.toNat h (by omega)
theorem we_14 {E : fxE} {a n : Nat} {i : Int} (hW : fx_Wt E) (h : kd E a = 14) (hn : ln E a = n) (g : 0 ≤ i ∧ i < (n : Int)) : kd E (rf E a i.toNat) = 5 := hW.2.2.2.2.2.2.2.2.2.2.2.2.1 a i.toNat h (by omega)
theorem we_15 {E : fxE} {a n : Nat} {i : Int} (hW : fx_Wt E) (h : kd E a = 15) (hn : ln E a = n) (g : 0 ≤ i ∧ i < (n : Int)) : kd E (rf E a i.toNat) = 7 := hW.2.2.2.2.2.2.2.2.2.2.2.2.2.1 a i.toNat h (by omega)
theorem we_16 {E : fxE} {a n : Nat} {i : Int} (hW : fx_Wt E) (h : kd E a = 16) (hn : ln E a = n) (g : 0 ≤ i ∧ i < (n : Int)) : kd E (rf E a i.toNat) = 8 := hW.2.2.2.2.2.2.2.2.2.2.2.2.2.2.1 a i.toNat h (by omega)
theorem wd {E : fxE} (hW : fx_Wt E) {a k b j : Nat} (h1 : rslot E a k) (h2 : rslot E b j) (h : rf E a k = rf E b j) : a = b ∧ k = j := hW.2.2.2.2.2.2.2.2.2.2.2.2.2.2.2 a k b j h1 h2 h
theorem rs_o {E : fxE} {a C k : Nat} (h : kd E a = C) (hC : C ≤ 10) (hk : (lay C)[k]? = some true) : rslot E a k := Or.inl (by rw [h]; exact ⟨hC, hk⟩)
theorem rs_a {E : fxE} {a C k : Nat} (h : kd E a = C) (hC : 13 ≤ C ∧ C ≤ 16) (hk : k < ln E a) : rslot E a k := Or.inr (by rw [h]; exact ⟨hC.1, hC.2, hk⟩)
def CtV (E : fxE) (z : fxY) (as : List fxV) (M : fxM) (R : fxM → Prop) : Prop := fx_Ct E z as M (fun r M' => r = none ∧ R M')
def CtI (E : fxE) (z : fxY) (as : List fxV) (M : fxM) (R : Int → fxM → Prop) : Prop := fx_Ct E z as M (fun r M' => ∃ v : Int, r = some (.inl v) ∧ R v M')
def CtA (E : fxE) (z : fxY) (as : List fxV) (M : fxM) (R : Nat → fxM → Prop) : Prop := fx_Ct E z as M (fun r M' => ∃ v : Nat, r = some (.inr v) ∧ R v M')
/-- a test: 1 or 0, nothing changes -/
def CtB (E : fxE) (z : fxY) (as : List fxV) (M : fxM) (c : Prop) : Prop := fx_Ct E z as M (fun r M' => M' = M ∧ ((c ∧ r = some (.inl 1)) ∨ (¬ c ∧ r = some (.inl 0))))
/-- a number, nothing changes -/
def CtF (E : fxE) (z : fxY) (as : List fxV) (M : fxM) (v : Int) : Prop := fx_Ct E z as M (fun r M' => M' = M ∧ r = some (.inl v))
def lvle : List (Option fxV) → List (Option fxV) → Prop
  | [], _ => True
  | none :: l, _ :: l' => lvle l l'
  | some v :: l, some w :: l' => v = w ∧ lvle l l'
  | _, _ => False
theorem lvle_get : ∀ (l l' : List (Option fxV)), lvle l l' → ∀ (i : Nat) (v : fxV), l[i]? = some (some v) → l'[i]? = some (some v)
  | [], _, _, i, v, h => by simp at h
  | none :: l, [], hl, _, _, _ => by simp [lvle] at hl
  | none :: l, b :: l', hl, 0, v, h => by cases h
  | none :: l, b :: l', hl, i + 1, v, h => lvle_get l l' hl i v h
  | some a :: l, [], hl, _, _, _ => by simp [lvle] at hl
  | some a :: l, none :: l', hl, _, _, _ => by simp [lvle] at hl
  | some a :: l, some b :: l', hl, 0, v, h => by
    cases h
    show some (some b) = _
    rw [hl.1]
  | some a :: l, some b :: l', hl, i + 1, v, h => lvle_get l l' hl.2 i v h
theorem x_weak {E : fxE} {y : fxY} {pc : Nat} {lv lv' : List (Option fxV)} {stk : List fxV} {M : fxM} {Q : Option fxV → fxM → Prop} (hl : lvle lv lv') (h : fx_At E y pc lv stk M Q) : fx_At E y pc lv' stk M Q := by
  intro hO p l e s m args below meth c C H locs ls hS hv hP
  refine h hO p l e s m args below meth c C H locs ls hS ⟨hv.1, hv.2.1, fun q hq => hv.2.2 q ?_⟩ hP
  obtain ⟨v, h1, h2⟩ := fx_prs_mem.mp hq
  exact fx_prs_mem.mpr ⟨v, lvle_get lv lv' hl q.1 v h1, h2⟩
theorem x_post {E : fxE} {y : fxY} {as : List fxV} {M : fxM} {Q Q' : Option fxV → fxM → Prop} (h : fx_Ct E y as M Q) (hq : ∀ r M', Q r M' → Q' r M') : fx_Ct E y as M Q' := by
  intro hO l p e a1 a2 a3 s m args below a4 a5 a6 a7
  obtain ⟨t, o, b1, b2, b3, ⟨⟨r, M', c1, c2, c3⟩, c4⟩, b5⟩ := h hO l p e a1 a2 a3 s m args below a4 a5 a6 a7
  exact ⟨t, o, b1, b2, b3, ⟨⟨r, M', c1, hq r M' c2, c3⟩, c4⟩, b5⟩
theorem goX0 : ∀ w ∈ wsX00, w ∈ lw_good := fun w h => lw_goodI (inX0 w h) ((by decide +kernel : ∀ w ∈ wsX00, goodWord w = true) w h)
theorem goX1 : ∀ w ∈ wsX10, w ∈ lw_good := fun w h => lw_goodI (inX1 w h) ((by decide +kernel : ∀ w ∈ wsX10, goodWord w = true) w h)
theorem goX2 : ∀ w ∈ wsX20, w ∈ lw_good := fun w h => lw_goodI (inX2 w h) ((by decide +kernel : ∀ w ∈ wsX20, goodWord w = true) w h)
theorem goX3 : ∀ w ∈ wsX30, w ∈ lw_good := fun w h => lw_goodI (inX3 w h) ((by decide +kernel : ∀ w ∈ wsX30, goodWord w = true) w h)
theorem goX4 : ∀ w ∈ wsX40, w ∈ lw_good := fun w h => lw_goodI (inX4 w h) ((by decide +kernel : ∀ w ∈ wsX40, goodWord w = true) w h)
theorem goX5 : ∀ w ∈ wsX50, w ∈ lw_good := fun w h => lw_goodI (inX5 w h) ((by decide +kernel : ∀ w ∈ wsX50, goodWord w = true) w h)
theorem goX6 : ∀ w ∈ wsX60, w ∈ lw_good := fun w h => lw_goodI (inX6 w h) ((by decide +kernel : ∀ w ∈ wsX60, goodWord w = true) w h)
theorem goX7 : ∀ w ∈ wsX70, w ∈ lw_good := fun w h => lw_goodI (inX7 w h) ((by decide +kernel : ∀ w ∈ wsX70, goodWord w = true) w h)
theorem goX8 : ∀ w ∈ wsX80, w ∈ lw_good := fun w h => lw_goodI (inX8 w h) ((by decide +kernel : ∀ w ∈ wsX80, goodWord w = true) w h)
theorem goX9 : ∀ w ∈ wsX90, w ∈ lw_good := fun w h => lw_goodI (inX9 w h) ((by decide +kernel : ∀ w ∈ wsX90, goodWord w = true) w h)
theorem goX10 : ∀ w ∈ wsX100, w ∈ lw_good := fun w h => lw_goodI (inX10 w h) ((by decide +kernel : ∀ w ∈ wsX100, goodWord w = true) w h)
end
section
/-! printed: methods, field links, call links, constants -/
theorem tb0 {w : Cond} (h : w ∈ k2_sels lw_privs) : w ∈ lw_tbl := List.mem_append_left _ h
theorem tb1 {w : Cond} (h : w ∈ tables_1_1) : w ∈ lw_tbl := List.mem_append_right _ (List.mem_append_left _ h)
theorem tb2 {w : Cond} (h : w ∈ tables_1_2) : w ∈ lw_tbl := List.mem_append_right _ (List.mem_append_right _ (List.mem_append_left _ h))
theorem tb3 {w : Cond} (h : w ∈ tables_1_3) : w ∈ lw_tbl := List.mem_append_right _ (List.mem_append_right _ (List.mem_append_right _ (List.mem_append_left _ h)))
theorem tb4 {w : Cond} (h : w ∈ tables_1_4) : w ∈ lw_tbl := List.mem_append_right _ (List.mem_append_right _ (List.mem_append_right _ (List.mem_append_right _ (List.mem_append_left _ h))))
theorem tb5 {w : Cond} (h : w ∈ tables_1_5) : w ∈ lw_tbl := List.mem_append_right _ (List.mem_append_right _ (List.mem_append_right _ (List.mem_append_right _ (List.mem_append_right _ (h)))))
abbrev m_X0_copyFrom : fxY := (yX0_copyFrom, cX0_copyFrom, 2, none, 2, 81)
abbrev m_X0_append : fxY := (yX0_append, cX0_append, 3, none, 0, 0)
abbrev m_X0_runAfter : fxY := (yX0_runAfter, cX0_runAfter, 2, (some .int), 0, 0)
abbrev m_X0_reachOf : fxY := (yX0_reachOf, cX0_reachOf, 4, (some .int), 1, 21)
abbrev m_X0_routeOf : fxY := (yX0_routeOf, cX0_routeOf, 6, (some .int), 1, 21)
abbrev m_X0_lastReached : fxY := (yX0_lastReached, cX0_lastReached, 5, (some .int), 1, 21)
abbrev m_X1_find : fxY := (yX1_find, cX1_find, 7, none, 3, 70)
abbrev m_X1_deviation : fxY := (yX1_deviation, cX1_deviation, 3, (some .int), 1, 21)
abbrev m_X1_isMarked : fxY := (yX1_isMarked, cX1_isMarked, 5, (some .boolean), 2, 43)
abbrev m_X1_keep : fxY := (yX1_keep, cX1_keep, 8, none, 2, 43)
abbrev m_X1_startOf : fxY := (yX1_startOf, cX1_startOf, 2, (some .int), 0, 0)
abbrev m_X1_lossOf : fxY := (yX1_lossOf, cX1_lossOf, 2, (some .int), 0, 0)
abbrev m_X1_isInside : fxY := (yX1_isInside, cX1_isInside, 2, (some .boolean), 0, 0)
abbrev m_X1_bouncesFrom : fxY := (yX1_bouncesFrom, cX1_bouncesFrom, 2, (some .boolean), 0, 0)
abbrev m_X1_ghostMirror : fxY := (yX1_ghostMirror, cX1_ghostMirror, 6, (some .int), 1, 21)
abbrev m_X1_ghostOrigin : fxY := (yX1_ghostOrigin, cX1_ghostOrigin, 3, (some .int), 2, 46)
abbrev m_X1_firstEnd : fxY := (yX1_firstEnd, cX1_firstEnd, 2, (some .int), 0, 0)
abbrev m_X2_copyFrom : fxY := (yX2_copyFrom, cX2_copyFrom, 2, none, 2, 81)
abbrev m_X2_clear : fxY := (yX2_clear, cX2_clear, 1, none, 0, 0)
abbrev m_X2_append : fxY := (yX2_append, cX2_append, 4, none, 0, 0)
abbrev m_X2_appendBend : fxY := (yX2_appendBend, cX2_appendBend, 3, none, 0, 0)
abbrev m_X2_dropBend : fxY := (yX2_dropBend, cX2_dropBend, 3, none, 0, 0)
abbrev m_X2_placeOfJoint : fxY := (yX2_placeOfJoint, cX2_placeOfJoint, 4, (some .int), 0, 0)
abbrev m_X2_totalLength : fxY := (yX2_totalLength, cX2_totalLength, 1, (some .int), 1, 23)
abbrev m_X3_keep : fxY := (yX3_keep, cX3_keep, 2, none, 4, 123)
abbrev m_X3_restoreLatest : fxY := (yX3_restoreLatest, cX3_restoreLatest, 2, none, 4, 123)
abbrev m_X4_pair : fxY := (yX4_pair, cX4_pair, 7, none, 2, 47)
abbrev m_X4_partner : fxY := (yX4_partner, cX4_partner, 7, (some .int), 1, 21)
abbrev m_X4_keep : fxY := (yX4_keep, cX4_keep, 3, none, 0, 0)
abbrev m_X5_copyFrom : fxY := (yX5_copyFrom, cX5_copyFrom, 2, none, 3, 102)
abbrev m_X6_append : fxY := (yX6_append, cX6_append, 2, none, 0, 0)
abbrev m_X6_readInto : fxY := (yX6_readInto, cX6_readInto, 3, (some .boolean), 4, 91)
abbrev m_X6_readItem : fxY := (yX6_readItem, cX6_readItem, 6, (some .boolean), 3, 66)
abbrev m_X6_readNumber : fxY := (yX6_readNumber, cX6_readNumber, 5, (some .int), 2, 42)
abbrev m_X6_readSign : fxY := (yX6_readSign, cX6_readSign, 2, (some .boolean), 1, 22)
abbrev m_X6_codeAt : fxY := (yX6_codeAt, cX6_codeAt, 2, (some .int), 0, 0)
abbrev m_X6_isDigit : fxY := (yX6_isDigit, cX6_isDigit, 2, (some .boolean), 1, 21)
abbrev m_X6_blame : fxY := (yX6_blame, cX6_blame, 3, none, 0, 0)
abbrev m_X7_at : fxY := (yX7_at, cX7_at, 2, (some .int), 0, 0)
abbrev m_X7_compute : fxY := (yX7_compute, cX7_compute, 5, none, 3, 72)
abbrev m_X7_levelBefore : fxY := (yX7_levelBefore, cX7_levelBefore, 3, (some .int), 1, 21)
abbrev m_X7_raiseTo : fxY := (yX7_raiseTo, cX7_raiseTo, 3, none, 0, 0)
abbrev m_X7_addReflection : fxY := (yX7_addReflection, cX7_addReflection, 8, none, 2, 43)
abbrev m_X7_addGhost : fxY := (yX7_addGhost, cX7_addGhost, 10, none, 2, 43)
abbrev m_X8_look : fxY := (yX8_look, cX8_look, 4, none, 2, 48)
abbrev m_X8_distanceOf : fxY := (yX8_distanceOf, cX8_distanceOf, 2, (some .int), 0, 0)
abbrev m_X8_lookAtUnits : fxY := (yX8_lookAtUnits, cX8_lookAtUnits, 6, none, 0, 0)
abbrev m_X8_lookAtBends : fxY := (yX8_lookAtBends, cX8_lookAtBends, 4, none, 1, 21)
abbrev m_X8_lookAtJoints : fxY := (yX8_lookAtJoints, cX8_lookAtJoints, 6, none, 1, 23)
abbrev m_X8_addReflector : fxY := (yX8_addReflector, cX8_addReflector, 3, none, 0, 0)
abbrev m_X8_lossUpTo : fxY := (yX8_lossUpTo, cX8_lossUpTo, 2, (some .int), 0, 0)
abbrev m_X8_levelAt : fxY := (yX8_levelAt, cX8_levelAt, 2, (some .int), 0, 0)
abbrev m_X9_begin : fxY := (yX9_begin, cX9_begin, 5, (some .int), 6, 164)
abbrev m_X9_addSection : fxY := (yX9_addSection, cX9_addSection, 5, (some .int), 6, 164)
abbrev m_X9_setJoint : fxY := (yX9_setJoint, cX9_setJoint, 6, (some .int), 6, 164)
abbrev m_X9_addBend : fxY := (yX9_addBend, cX9_addBend, 4, (some .int), 6, 164)
abbrev m_X9_removeBend : fxY := (yX9_removeBend, cX9_removeBend, 4, (some .int), 6, 164)
abbrev m_X9_setBreak : fxY := (yX9_setBreak, cX9_setBreak, 5, (some .int), 6, 164)
abbrev m_X9_set : fxY := (yX9_set, cX9_set, 4, (some .int), 6, 164)
abbrev m_X9_undo : fxY := (yX9_undo, cX9_undo, 1, (some .int), 5, 144)
abbrev m_X9_told : fxY := (yX9_told, cX9_told, 2, (some .int), 2, 43)
abbrev m_X9_section : fxY := (yX9_section, cX9_section, 4, (some .int), 1, 23)
abbrev m_X9_joint : fxY := (yX9_joint, cX9_joint, 4, (some .int), 1, 23)
abbrev m_X9_bend : fxY := (yX9_bend, cX9_bend, 4, (some .int), 1, 22)
abbrev m_X9_lossTo : fxY := (yX9_lossTo, cX9_lossTo, 3, (some .int), 4, 93)
abbrev m_X9_sample : fxY := (yX9_sample, cX9_sample, 4, (some .int), 5, 119)
abbrev m_X9_visible : fxY := (yX9_visible, cX9_visible, 5, (some .int), 5, 119)
abbrev m_X9_stitched : fxY := (yX9_stitched, cX9_stitched, 3, (some .int), 6, 145)
abbrev m_X9_stitchedCount : fxY := (yX9_stitchedCount, cX9_stitchedCount, 4, (some .int), 6, 145)
abbrev m_X9_events : fxY := (yX9_events, cX9_events, 3, (some .int), 6, 142)
abbrev m_X9_event : fxY := (yX9_event, cX9_event, 6, (some .int), 6, 142)
abbrev m_X9_ghosts : fxY := (yX9_ghosts, cX9_ghosts, 6, (some .int), 6, 142)
abbrev m_X9_endSeen : fxY := (yX9_endSeen, cX9_endSeen, 3, (some .int), 6, 142)
abbrev m_X9_joinedCount : fxY := (yX9_joinedCount, cX9_joinedCount, 2, (some .int), 6, 142)
abbrev m_X9_joined : fxY := (yX9_joined, cX9_joined, 8, (some .int), 6, 142)
abbrev m_X9_addPoint : fxY := (yX9_addPoint, cX9_addPoint, 4, (some .int), 6, 164)
abbrev m_X9_clearMap : fxY := (yX9_clearMap, cX9_clearMap, 2, (some .int), 6, 164)
abbrev m_X9_setExcess : fxY := (yX9_setExcess, cX9_setExcess, 3, (some .int), 6, 164)
abbrev m_X9_point : fxY := (yX9_point, cX9_point, 4, (some .int), 2, 44)
abbrev m_X9_toRoute : fxY := (yX9_toRoute, cX9_toRoute, 2, (some .int), 2, 46)
abbrev m_X9_pointBefore : fxY := (yX9_pointBefore, cX9_pointBefore, 2, (some .int), 2, 45)
abbrev m_X9_placed : fxY := (yX9_placed, cX9_placed, 5, (some .int), 6, 142)
abbrev m_X9_write : fxY := (yX9_write, cX9_write, 2, (some .int), 1, 22)
abbrev m_X9_wipe : fxY := (yX9_wipe, cX9_wipe, 2, (some .int), 0, 0)
abbrev m_X9_load : fxY := (yX9_load, cX9_load, 1, (some .int), 6, 164)
abbrev m_X9_fault : fxY := (yX9_fault, cX9_fault, 2, (some .int), 1, 22)
abbrev m_X9_isWithin : fxY := (yX9_isWithin, cX9_isWithin, 3, (some .boolean), 0, 0)
abbrev m_X9_isSide : fxY := (yX9_isSide, cX9_isSide, 1, (some .boolean), 1, 22)
abbrev m_X9_isWidth : fxY := (yX9_isWidth, cX9_isWidth, 1, (some .boolean), 1, 22)
abbrev m_X9_isDistance : fxY := (yX9_isDistance, cX9_isDistance, 1, (some .boolean), 1, 22)
abbrev m_X9_isSection : fxY := (yX9_isSection, cX9_isSection, 3, (some .boolean), 1, 22)
abbrev m_X9_copyRow : fxY := (yX9_copyRow, cX9_copyRow, 2, none, 1, 60)
abbrev m_X9_recordChange : fxY := (yX9_recordChange, cX9_recordChange, 1, none, 5, 144)
abbrev m_X9_viewOf : fxY := (yX9_viewOf, cX9_viewOf, 3, (some (.object "FibreBench$View")), 3, 71)
abbrev m_X9_traceOf : fxY := (yX9_traceOf, cX9_traceOf, 4, (some (.object "FibreBench$Trace")), 4, 96)
abbrev m_X9_slotOf : fxY := (yX9_slotOf, cX9_slotOf, 4, (some .int), 0, 0)
abbrev m_X9_stitchedAt : fxY := (yX9_stitchedAt, cX9_stitchedAt, 7, (some .int), 5, 119)
abbrev m_X9_eventsOf : fxY := (yX9_eventsOf, cX9_eventsOf, 4, (some (.object "FibreBench$EventList")), 5, 119)
abbrev m_X9_joinSides : fxY := (yX9_joinSides, cX9_joinSides, 3, none, 3, 73)
abbrev m_X9_routeOfEnd : fxY := (yX9_routeOfEnd, cX9_routeOfEnd, 4, (some .int), 2, 46)
abbrev m_X10_isIn : fxY := (yX10_isIn, cX10_isIn, 3, (some .boolean), 0, 0)
abbrev m_X10_clearFibre : fxY := (yX10_clearFibre, cX10_clearFibre, 2, none, 0, 0)
abbrev m_X10_append : fxY := (yX10_append, cX10_append, 5, none, 0, 0)
abbrev m_X10_renew : fxY := (yX10_renew, cX10_renew, 4, none, 1, 24)
abbrev m_X10_placeOf : fxY := (yX10_placeOf, cX10_placeOf, 4, (some .int), 0, 0)
abbrev m_X10_whole : fxY := (yX10_whole, cX10_whole, 1, (some .int), 1, 23)
abbrev m_X10_keep : fxY := (yX10_keep, cX10_keep, 2, none, 0, 0)
abbrev m_X10_isSection : fxY := (yX10_isSection, cX10_isSection, 3, (some .boolean), 1, 22)
abbrev m_X10_begin : fxY := (yX10_begin, cX10_begin, 5, (some .int), 2, 47)
abbrev m_X10_addSection : fxY := (yX10_addSection, cX10_addSection, 4, (some .int), 2, 44)
abbrev m_X10_isJoint : fxY := (yX10_isJoint, cX10_isJoint, 2, (some .boolean), 1, 22)
abbrev m_X10_setJoint : fxY := (yX10_setJoint, cX10_setJoint, 5, (some .int), 2, 43)
abbrev m_X10_addBend : fxY := (yX10_addBend, cX10_addBend, 3, (some .int), 2, 43)
abbrev m_X10_isBend : fxY := (yX10_isBend, cX10_isBend, 2, (some .boolean), 1, 22)
abbrev m_X10_removeBend : fxY := (yX10_removeBend, cX10_removeBend, 4, (some .int), 2, 43)
abbrev m_X10_setBreak : fxY := (yX10_setBreak, cX10_setBreak, 4, (some .int), 2, 43)
abbrev m_X10_set : fxY := (yX10_set, cX10_set, 5, (some .int), 1, 22)
abbrev m_X10_undo : fxY := (yX10_undo, cX10_undo, 2, (some .int), 0, 0)
abbrev m_X10_told : fxY := (yX10_told, cX10_told, 2, (some .int), 2, 43)
abbrev m_X10_section : fxY := (yX10_section, cX10_section, 3, (some .int), 1, 23)
abbrev m_X10_joint : fxY := (yX10_joint, cX10_joint, 3, (some .int), 2, 43)
abbrev m_X10_bend : fxY := (yX10_bend, cX10_bend, 3, (some .int), 2, 43)
abbrev m_X10_far : fxY := (yX10_far, cX10_far, 3, (some .int), 2, 43)
abbrev m_X10_sectionOf : fxY := (yX10_sectionOf, cX10_sectionOf, 5, (some .int), 2, 43)
abbrev m_X10_layLosses : fxY := (yX10_layLosses, cX10_layLosses, 6, none, 3, 67)
abbrev m_X10_isSide : fxY := (yX10_isSide, cX10_isSide, 1, (some .boolean), 1, 22)
abbrev m_X10_lossTo : fxY := (yX10_lossTo, cX10_lossTo, 3, (some .int), 4, 92)
abbrev m_X10_scattered : fxY := (yX10_scattered, cX10_scattered, 3, (some .int), 0, 0)
abbrev m_X10_before : fxY := (yX10_before, cX10_before, 3, (some .int), 1, 22)
abbrev m_X10_reflect : fxY := (yX10_reflect, cX10_reflect, 3, none, 0, 0)
abbrev m_X10_layReflectors : fxY := (yX10_layReflectors, cX10_layReflectors, 6, none, 3, 65)
abbrev m_X10_raise : fxY := (yX10_raise, cX10_raise, 3, none, 0, 0)
abbrev m_X10_addReflector : fxY := (yX10_addReflector, cX10_addReflector, 7, none, 2, 44)
abbrev m_X10_addGhost : fxY := (yX10_addGhost, cX10_addGhost, 8, none, 2, 44)
abbrev m_X10_layTrace : fxY := (yX10_layTrace, cX10_layTrace, 6, none, 4, 92)
abbrev m_X10_isTrace : fxY := (yX10_isTrace, cX10_isTrace, 2, (some .boolean), 2, 42)
abbrev m_X10_sample : fxY := (yX10_sample, cX10_sample, 4, (some .int), 5, 117)
abbrev m_X10_visible : fxY := (yX10_visible, cX10_visible, 4, (some .int), 5, 117)
abbrev m_X10_stitch : fxY := (yX10_stitch, cX10_stitch, 5, none, 5, 117)
abbrev m_X10_layStitches : fxY := (yX10_layStitches, cX10_layStitches, 3, none, 6, 141)
abbrev m_X10_stitched : fxY := (yX10_stitched, cX10_stitched, 3, (some .int), 7, 163)
abbrev m_X10_stitchedCount : fxY := (yX10_stitchedCount, cX10_stitchedCount, 4, (some .int), 7, 163)
abbrev m_X10_deviation : fxY := (yX10_deviation, cX10_deviation, 2, (some .int), 0, 0)
abbrev m_X10_isMarked : fxY := (yX10_isMarked, cX10_isMarked, 4, (some .boolean), 1, 21)
abbrev m_X10_of : fxY := (yX10_of, cX10_of, 3, (some .int), 0, 0)
abbrev m_X10_addEvent : fxY := (yX10_addEvent, cX10_addEvent, 5, none, 1, 21)
abbrev m_X10_name : fxY := (yX10_name, cX10_name, 8, none, 1, 22)
abbrev m_X10_addEvents : fxY := (yX10_addEvents, cX10_addEvents, 6, none, 5, 117)
abbrev m_X10_layEvents : fxY := (yX10_layEvents, cX10_layEvents, 3, none, 6, 142)
abbrev m_X10_events : fxY := (yX10_events, cX10_events, 3, (some .int), 7, 164)
abbrev m_X10_event : fxY := (yX10_event, cX10_event, 5, (some .int), 7, 164)
abbrev m_X10_ghosts : fxY := (yX10_ghosts, cX10_ghosts, 5, (some .int), 7, 164)
abbrev m_X10_firstEnd : fxY := (yX10_firstEnd, cX10_firstEnd, 4, (some .int), 7, 164)
abbrev m_X10_endSeen : fxY := (yX10_endSeen, cX10_endSeen, 3, (some .int), 8, 187)
abbrev m_X10_layJoins : fxY := (yX10_layJoins, cX10_layJoins, 8, none, 7, 164)
abbrev m_X10_joinedCount : fxY := (yX10_joinedCount, cX10_joinedCount, 2, (some .int), 8, 191)
abbrev m_X10_joined : fxY := (yX10_joined, cX10_joined, 5, (some .int), 8, 191)
abbrev m_X10_addPoint : fxY := (yX10_addPoint, cX10_addPoint, 4, (some .int), 1, 22)
abbrev m_X10_clearMap : fxY := (yX10_clearMap, cX10_clearMap, 2, (some .int), 1, 21)
abbrev m_X10_setExcess : fxY := (yX10_setExcess, cX10_setExcess, 3, (some .int), 1, 22)
abbrev m_X10_reach : fxY := (yX10_reach, cX10_reach, 4, (some .int), 0, 0)
abbrev m_X10_point : fxY := (yX10_point, cX10_point, 3, (some .int), 1, 23)
abbrev m_X10_onRoute : fxY := (yX10_onRoute, cX10_onRoute, 4, (some .int), 1, 23)
abbrev m_X10_toRoute : fxY := (yX10_toRoute, cX10_toRoute, 2, (some .int), 2, 46)
abbrev m_X10_pointBefore : fxY := (yX10_pointBefore, cX10_pointBefore, 4, (some .int), 1, 23)
abbrev m_X10_placed : fxY := (yX10_placed, cX10_placed, 6, (some .int), 8, 187)
abbrev m_X10_write : fxY := (yX10_write, cX10_write, 2, (some .int), 1, 22)
abbrev m_X10_wipe : fxY := (yX10_wipe, cX10_wipe, 2, (some .int), 0, 0)
abbrev m_X10_isWrong : fxY := (yX10_isWrong, cX10_isWrong, 1, (some .boolean), 0, 0)
abbrev m_X10_fails : fxY := (yX10_fails, cX10_fails, 3, none, 1, 20)
abbrev m_X10_isDigit : fxY := (yX10_isDigit, cX10_isDigit, 1, (some .boolean), 1, 22)
abbrev m_X10_readNumber : fxY := (yX10_readNumber, cX10_readNumber, 5, (some .int), 2, 42)
abbrev m_X10_want : fxY := (yX10_want, cX10_want, 2, none, 2, 42)
abbrev m_X10_readItem : fxY := (yX10_readItem, cX10_readItem, 3, none, 3, 66)
abbrev m_X10_readAll : fxY := (yX10_readAll, cX10_readAll, 2, none, 4, 88)
abbrev m_X10_load : fxY := (yX10_load, cX10_load, 2, (some .int), 5, 109)
abbrev m_X10_fault : fxY := (yX10_fault, cX10_fault, 2, (some .int), 1, 22)
abbrev m_J9_abs_0f7a4 : fxY := (yJ9_abs_0f7a4, cJ9_abs_0f7a4, 1, (some .int), 0, 0)
abbrev m_J9_max_7cf53 : fxY := (yJ9_max_7cf53, cJ9_max_7cf53, 2, (some .int), 0, 0)
abbrev m_J9_min_7cf53 : fxY := (yJ9_min_7cf53, cJ9_min_7cf53, 2, (some .int), 0, 0)
abbrev m_J7_fill_53178 : fxY := (yJ7_fill_53178, cJ7_fill_53178, 4, none, 0, 0)
theorem k_RX0_33 : Cond.constant RX0 33 (-1000005) ∈ lw_good := lw_goodI (tb3 (List.mem_of_getElem? (i := 221) (by decide +kernel))) rfl
theorem k_RX1_72 : Cond.constant RX1 72 (-1000005) ∈ lw_good := lw_goodI (tb3 (List.mem_of_getElem? (i := 130) (by decide +kernel))) rfl
theorem k_RX10_23 : Cond.constant RX10 23 (-1000005) ∈ lw_good := lw_goodI (tb4 (List.mem_of_getElem? (i := 56) (by decide +kernel))) rfl
theorem k_RX10_81 : Cond.constant RX10 81 (-1000002) ∈ lw_good := lw_goodI (tb4 (List.mem_of_getElem? (i := 155) (by decide +kernel))) rfl
theorem k_RX10_89 : Cond.constant RX10 89 (-1000003) ∈ lw_good := lw_goodI (tb4 (List.mem_of_getElem? (i := 172) (by decide +kernel))) rfl
theorem k_RX10_94 : Cond.constant RX10 94 (-1000001) ∈ lw_good := lw_goodI (tb4 (List.mem_of_getElem? (i := 181) (by decide +kernel))) rfl
theorem k_RX10_98 : Cond.constant RX10 98 (-1000004) ∈ lw_good := lw_goodI (tb4 (List.mem_of_getElem? (i := 198) (by decide +kernel))) rfl
theorem k_RX4_41 : Cond.constant RX4 41 (-1000005) ∈ lw_good := lw_goodI (tb3 (List.mem_of_getElem? (i := 172) (by decide +kernel))) rfl
theorem k_RX9_107 : Cond.constant RX9 107 (-1000003) ∈ lw_good := lw_goodI (tb2 (List.mem_of_getElem? (i := 153) (by decide +kernel))) rfl
theorem k_RX9_111 : Cond.constant RX9 111 (-1000001) ∈ lw_good := lw_goodI (tb2 (List.mem_of_getElem? (i := 158) (by decide +kernel))) rfl
theorem k_RX9_135 : Cond.constant RX9 135 (-1000004) ∈ lw_good := lw_goodI (tb2 (List.mem_of_getElem? (i := 179) (by decide +kernel))) rfl
theorem k_RX9_139 : Cond.fieldLink RX9 139 "FibreBench" "LEAST_SETTING" "[I" ∈ lw_good := lw_goodI (tb2 (List.mem_of_getElem? (i := 184) (by decide +kernel))) rfl
theorem k_RX9_142 : Cond.fieldLink RX9 142 "FibreBench" "GREATEST_SETTING" "[I" ∈ lw_good := lw_goodI (tb2 (List.mem_of_getElem? (i := 185) (by decide +kernel))) rfl
theorem k_RX9_201 : Cond.constant RX9 201 (-1000005) ∈ lw_good := lw_goodI (tb3 (List.mem_of_getElem? (i := 83) (by decide +kernel))) rfl
theorem k_RX9_313 : Cond.fieldLink RX9 313 "FibreBench" "STITCH_WIDTHS" "[I" ∈ lw_good := lw_goodI (tb3 (List.mem_of_getElem? (i := 33) (by decide +kernel))) rfl
theorem k_RX9_93 : Cond.constant RX9 93 (-1000002) ∈ lw_good := lw_goodI (tb2 (List.mem_of_getElem? (i := 105) (by decide +kernel))) rfl
theorem k_copy : Cond.methodLink RX9 286 arraycopyName ∈ lw_good ∧ Cond.native arraycopyName ∈ lw_good ∧ Cond.static arraycopyName ∈ lw_good ∧ Cond.initialized "java/lang/System" ∈ lw_good := ⟨lw_goodI (tb2 (List.mem_of_getElem? (i := 136) (by decide +kernel))) rfl, lw_goodI (tb2 (List.mem_of_getElem? (i := 138) (by decide +kernel))) rfl, lw_goodI (tb2 (List.mem_of_getElem? (i := 137) (by decide +kernel))) rfl, lw_goodI (tb1 (List.mem_of_getElem? (i := 13) (by decide +kernel))) rfl⟩
theorem f_RX0_9 : Fld RX0 9 0 0 true := ⟨RX0, TX0, 4, tyX0, rfl, goX0, by decide, rfl, lw_goodI (tb1 (List.mem_of_getElem? (i := 98) (by decide +kernel))) rfl, rfl, tyX0_ok, nmX0, (fun h => Bool.noConfusion h), by decide⟩
theorem f_RX0_15 : Fld RX0 15 0 1 true := ⟨RX0, TX0, 4, tyX0, rfl, goX0, by decide, rfl, lw_goodI (tb1 (List.mem_of_getElem? (i := 100) (by decide +kernel))) rfl, rfl, tyX0_ok, nmX0, (fun h => Bool.noConfusion h), by decide⟩
theorem f_RX0_18 : Fld RX0 18 0 2 false := ⟨RX0, TX0, 4, tyX0, rfl, goX0, by decide, rfl, lw_goodI (tb1 (List.mem_of_getElem? (i := 102) (by decide +kernel))) rfl, rfl, tyX0_ok, nmX0, (fun _ => ⟨rfl, rfl⟩), by decide⟩
theorem f_RX0_22 : Fld RX0 22 0 3 false := ⟨RX0, TX0, 4, tyX0, rfl, goX0, by decide, rfl, lw_goodI (tb1 (List.mem_of_getElem? (i := 104) (by decide +kernel))) rfl, rfl, tyX0_ok, nmX0, (fun _ => ⟨rfl, rfl⟩), by decide⟩
theorem f_RX1_9 : Fld RX1 9 1 0 true := ⟨RX1, TX1, 9, tyX1, rfl, goX1, by decide, rfl, lw_goodI (tb2 (List.mem_of_getElem? (i := 13) (by decide +kernel))) rfl, rfl, tyX1_ok, nmX1, (fun h => Bool.noConfusion h), by decide⟩
theorem f_RX1_15 : Fld RX1 15 1 1 true := ⟨RX1, TX1, 9, tyX1, rfl, goX1, by decide, rfl, lw_goodI (tb2 (List.mem_of_getElem? (i := 15) (by decide +kernel))) rfl, rfl, tyX1_ok, nmX1, (fun h => Bool.noConfusion h), by decide⟩
theorem f_RX1_18 : Fld RX1 18 1 2 true := ⟨RX1, TX1, 9, tyX1, rfl, goX1, by decide, rfl, lw_goodI (tb2 (List.mem_of_getElem? (i := 17) (by decide +kernel))) rfl, rfl, tyX1_ok, nmX1, (fun h => Bool.noConfusion h), by decide⟩
theorem f_RX1_21 : Fld RX1 21 1 3 true := ⟨RX1, TX1, 9, tyX1, rfl, goX1, by decide, rfl, lw_goodI (tb2 (List.mem_of_getElem? (i := 19) (by decide +kernel))) rfl, rfl, tyX1_ok, nmX1, (fun h => Bool.noConfusion h), by decide⟩
theorem f_RX1_24 : Fld RX1 24 1 4 true := ⟨RX1, TX1, 9, tyX1, rfl, goX1, by decide, rfl, lw_goodI (tb2 (List.mem_of_getElem? (i := 21) (by decide +kernel))) rfl, rfl, tyX1_ok, nmX1, (fun h => Bool.noConfusion h), by decide⟩
theorem f_RX1_27 : Fld RX1 27 1 5 true := ⟨RX1, TX1, 9, tyX1, rfl, goX1, by decide, rfl, lw_goodI (tb2 (List.mem_of_getElem? (i := 23) (by decide +kernel))) rfl, rfl, tyX1_ok, nmX1, (fun h => Bool.noConfusion h), by decide⟩
theorem f_RX1_31 : Fld RX1 31 1 6 false := ⟨RX1, TX1, 9, tyX1, rfl, goX1, by decide, rfl, lw_goodI (tb2 (List.mem_of_getElem? (i := 24) (by decide +kernel))) rfl, rfl, tyX1_ok, nmX1, (fun _ => ⟨rfl, rfl⟩), by decide⟩
theorem f_RX10_7 : Fld RX10 7 10 0 true := ⟨RX10, TX10, 25, tyX10, rfl, goX10, by decide, rfl, lw_goodI (tb4 (List.mem_of_getElem? (i := 69) (by decide +kernel))) rfl, rfl, tyX10_ok, nmX10, (fun h => Bool.noConfusion h), by decide⟩
theorem f_RX10_13 : Fld RX10 13 10 1 true := ⟨RX10, TX10, 25, tyX10, rfl, goX10, by decide, rfl, lw_goodI (tb4 (List.mem_of_getElem? (i := 70) (by decide +kernel))) rfl, rfl, tyX10_ok, nmX10, (fun h => Bool.noConfusion h), by decide⟩
theorem f_RX10_16 : Fld RX10 16 10 3 false := ⟨RX10, TX10, 25, tyX10, rfl, goX10, by decide, rfl, lw_goodI (tb4 (List.mem_of_getElem? (i := 72) (by decide +kernel))) rfl, rfl, tyX10_ok, nmX10, (fun _ => ⟨rfl, rfl⟩), by decide⟩
theorem f_RX10_20 : Fld RX10 20 10 5 true := ⟨RX10, TX10, 25, tyX10, rfl, goX10, by decide, rfl, lw_goodI (tb4 (List.mem_of_getElem? (i := 74) (by decide +kernel))) rfl, rfl, tyX10_ok, nmX10, (fun h => Bool.noConfusion h), by decide⟩
theorem f_RX10_24 : Fld RX10 24 10 7 false := ⟨RX10, TX10, 25, tyX10, rfl, goX10, by decide, rfl, lw_goodI (tb4 (List.mem_of_getElem? (i := 76) (by decide +kernel))) rfl, rfl, tyX10_ok, nmX10, (fun _ => ⟨rfl, rfl⟩), by decide⟩
theorem f_RX10_27 : Fld RX10 27 10 8 false := ⟨RX10, TX10, 25, tyX10, rfl, goX10, by decide, rfl, lw_goodI (tb4 (List.mem_of_getElem? (i := 77) (by decide +kernel))) rfl, rfl, tyX10_ok, nmX10, (fun _ => ⟨rfl, rfl⟩), by decide⟩
theorem f_RX10_30 : Fld RX10 30 10 9 true := ⟨RX10, TX10, 25, tyX10, rfl, goX10, by decide, rfl, lw_goodI (tb4 (List.mem_of_getElem? (i := 78) (by decide +kernel))) rfl, rfl, tyX10_ok, nmX10, (fun h => Bool.noConfusion h), by decide⟩
theorem f_RX10_33 : Fld RX10 33 10 10 true := ⟨RX10, TX10, 25, tyX10, rfl, goX10, by decide, rfl, lw_goodI (tb4 (List.mem_of_getElem? (i := 79) (by decide +kernel))) rfl, rfl, tyX10_ok, nmX10, (fun h => Bool.noConfusion h), by decide⟩
theorem f_RX10_36 : Fld RX10 36 10 11 true := ⟨RX10, TX10, 25, tyX10, rfl, goX10, by decide, rfl, lw_goodI (tb4 (List.mem_of_getElem? (i := 80) (by decide +kernel))) rfl, rfl, tyX10_ok, nmX10, (fun h => Bool.noConfusion h), by decide⟩
theorem f_RX10_39 : Fld RX10 39 10 13 true := ⟨RX10, TX10, 25, tyX10, rfl, goX10, by decide, rfl, lw_goodI (tb4 (List.mem_of_getElem? (i := 82) (by decide +kernel))) rfl, rfl, tyX10_ok, nmX10, (fun h => Bool.noConfusion h), by decide⟩
theorem f_RX10_42 : Fld RX10 42 10 14 true := ⟨RX10, TX10, 25, tyX10, rfl, goX10, by decide, rfl, lw_goodI (tb4 (List.mem_of_getElem? (i := 83) (by decide +kernel))) rfl, rfl, tyX10_ok, nmX10, (fun h => Bool.noConfusion h), by decide⟩
theorem f_RX10_45 : Fld RX10 45 10 15 true := ⟨RX10, TX10, 25, tyX10, rfl, goX10, by decide, rfl, lw_goodI (tb4 (List.mem_of_getElem? (i := 84) (by decide +kernel))) rfl, rfl, tyX10_ok, nmX10, (fun h => Bool.noConfusion h), by decide⟩
theorem f_RX10_48 : Fld RX10 48 10 17 true := ⟨RX10, TX10, 25, tyX10, rfl, goX10, by decide, rfl, lw_goodI (tb4 (List.mem_of_getElem? (i := 86) (by decide +kernel))) rfl, rfl, tyX10_ok, nmX10, (fun h => Bool.noConfusion h), by decide⟩
theorem f_RX10_51 : Fld RX10 51 10 18 true := ⟨RX10, TX10, 25, tyX10, rfl, goX10, by decide, rfl, lw_goodI (tb4 (List.mem_of_getElem? (i := 87) (by decide +kernel))) rfl, rfl, tyX10_ok, nmX10, (fun h => Bool.noConfusion h), by decide⟩
theorem f_RX10_54 : Fld RX10 54 10 23 true := ⟨RX10, TX10, 25, tyX10, rfl, goX10, by decide, rfl, lw_goodI (tb4 (List.mem_of_getElem? (i := 92) (by decide +kernel))) rfl, rfl, tyX10_ok, nmX10, (fun h => Bool.noConfusion h), by decide⟩
theorem f_RX10_71 : Fld RX10 71 10 2 false := ⟨RX10, TX10, 25, tyX10, rfl, goX10, by decide, rfl, lw_goodI (tb4 (List.mem_of_getElem? (i := 71) (by decide +kernel))) rfl, rfl, tyX10_ok, nmX10, (fun _ => ⟨rfl, rfl⟩), by decide⟩
theorem f_RX10_99 : Fld RX10 99 10 6 false := ⟨RX10, TX10, 25, tyX10, rfl, goX10, by decide, rfl, lw_goodI (tb4 (List.mem_of_getElem? (i := 75) (by decide +kernel))) rfl, rfl, tyX10_ok, nmX10, (fun _ => ⟨rfl, rfl⟩), by decide⟩
theorem f_RX10_119 : Fld RX10 119 10 12 false := ⟨RX10, TX10, 25, tyX10, rfl, goX10, by decide, rfl, lw_goodI (tb4 (List.mem_of_getElem? (i := 81) (by decide +kernel))) rfl, rfl, tyX10_ok, nmX10, (fun _ => ⟨rfl, rfl⟩), by decide⟩
theorem f_RX10_132 : Fld RX10 132 10 4 false := ⟨RX10, TX10, 25, tyX10, rfl, goX10, by decide, rfl, lw_goodI (tb4 (List.mem_of_getElem? (i := 73) (by decide +kernel))) rfl, rfl, tyX10_ok, nmX10, (fun _ => ⟨rfl, rfl⟩), by decide⟩
theorem f_RX10_161 : Fld RX10 161 10 16 false := ⟨RX10, TX10, 25, tyX10, rfl, goX10, by decide, rfl, lw_goodI (tb4 (List.mem_of_getElem? (i := 85) (by decide +kernel))) rfl, rfl, tyX10_ok, nmX10, (fun _ => ⟨rfl, rfl⟩), by decide⟩
theorem f_RX10_185 : Fld RX10 185 10 19 false := ⟨RX10, TX10, 25, tyX10, rfl, goX10, by decide, rfl, lw_goodI (tb4 (List.mem_of_getElem? (i := 88) (by decide +kernel))) rfl, rfl, tyX10_ok, nmX10, (fun _ => ⟨rfl, rfl⟩), by decide⟩
theorem f_RX10_197 : Fld RX10 197 10 22 false := ⟨RX10, TX10, 25, tyX10, rfl, goX10, by decide, rfl, lw_goodI (tb4 (List.mem_of_getElem? (i := 91) (by decide +kernel))) rfl, rfl, tyX10_ok, nmX10, (fun _ => ⟨rfl, rfl⟩), by decide⟩
theorem f_RX10_204 : Fld RX10 204 10 21 false := ⟨RX10, TX10, 25, tyX10, rfl, goX10, by decide, rfl, lw_goodI (tb4 (List.mem_of_getElem? (i := 90) (by decide +kernel))) rfl, rfl, tyX10_ok, nmX10, (fun _ => ⟨rfl, rfl⟩), by decide⟩
theorem f_RX10_207 : Fld RX10 207 10 20 false := ⟨RX10, TX10, 25, tyX10, rfl, goX10, by decide, rfl, lw_goodI (tb4 (List.mem_of_getElem? (i := 89) (by decide +kernel))) rfl, rfl, tyX10_ok, nmX10, (fun _ => ⟨rfl, rfl⟩), by decide⟩
theorem f_RX10_216 : Fld RX10 216 10 24 false := ⟨RX10, TX10, 25, tyX10, rfl, goX10, by decide, rfl, lw_goodI (tb4 (List.mem_of_getElem? (i := 93) (by decide +kernel))) rfl, rfl, tyX10_ok, nmX10, (fun _ => ⟨rfl, rfl⟩), by decide⟩
theorem f_RX2_9 : Fld RX2 9 2 0 true := ⟨RX2, TX2, 11, tyX2, rfl, goX2, by decide, rfl, lw_goodI (tb1 (List.mem_of_getElem? (i := 35) (by decide +kernel))) rfl, rfl, tyX2_ok, nmX2, (fun h => Bool.noConfusion h), by decide⟩
theorem f_RX2_15 : Fld RX2 15 2 1 true := ⟨RX2, TX2, 11, tyX2, rfl, goX2, by decide, rfl, lw_goodI (tb1 (List.mem_of_getElem? (i := 38) (by decide +kernel))) rfl, rfl, tyX2_ok, nmX2, (fun h => Bool.noConfusion h), by decide⟩
theorem f_RX2_18 : Fld RX2 18 2 2 true := ⟨RX2, TX2, 11, tyX2, rfl, goX2, by decide, rfl, lw_goodI (tb1 (List.mem_of_getElem? (i := 41) (by decide +kernel))) rfl, rfl, tyX2_ok, nmX2, (fun h => Bool.noConfusion h), by decide⟩
theorem f_RX2_21 : Fld RX2 21 2 3 false := ⟨RX2, TX2, 11, tyX2, rfl, goX2, by decide, rfl, lw_goodI (tb1 (List.mem_of_getElem? (i := 44) (by decide +kernel))) rfl, rfl, tyX2_ok, nmX2, (fun _ => ⟨rfl, rfl⟩), by decide⟩
theorem f_RX2_25 : Fld RX2 25 2 4 true := ⟨RX2, TX2, 11, tyX2, rfl, goX2, by decide, rfl, lw_goodI (tb1 (List.mem_of_getElem? (i := 47) (by decide +kernel))) rfl, rfl, tyX2_ok, nmX2, (fun h => Bool.noConfusion h), by decide⟩
theorem f_RX2_28 : Fld RX2 28 2 5 true := ⟨RX2, TX2, 11, tyX2, rfl, goX2, by decide, rfl, lw_goodI (tb1 (List.mem_of_getElem? (i := 50) (by decide +kernel))) rfl, rfl, tyX2_ok, nmX2, (fun h => Bool.noConfusion h), by decide⟩
theorem f_RX2_31 : Fld RX2 31 2 6 true := ⟨RX2, TX2, 11, tyX2, rfl, goX2, by decide, rfl, lw_goodI (tb1 (List.mem_of_getElem? (i := 53) (by decide +kernel))) rfl, rfl, tyX2_ok, nmX2, (fun h => Bool.noConfusion h), by decide⟩
theorem f_RX2_34 : Fld RX2 34 2 7 true := ⟨RX2, TX2, 11, tyX2, rfl, goX2, by decide, rfl, lw_goodI (tb1 (List.mem_of_getElem? (i := 56) (by decide +kernel))) rfl, rfl, tyX2_ok, nmX2, (fun h => Bool.noConfusion h), by decide⟩
theorem f_RX2_37 : Fld RX2 37 2 8 false := ⟨RX2, TX2, 11, tyX2, rfl, goX2, by decide, rfl, lw_goodI (tb1 (List.mem_of_getElem? (i := 59) (by decide +kernel))) rfl, rfl, tyX2_ok, nmX2, (fun _ => ⟨rfl, rfl⟩), by decide⟩
theorem f_RX2_40 : Fld RX2 40 2 9 false := ⟨RX2, TX2, 11, tyX2, rfl, goX2, by decide, rfl, lw_goodI (tb1 (List.mem_of_getElem? (i := 62) (by decide +kernel))) rfl, rfl, tyX2_ok, nmX2, (fun _ => ⟨rfl, rfl⟩), by decide⟩
theorem f_RX2_43 : Fld RX2 43 2 10 false := ⟨RX2, TX2, 11, tyX2, rfl, goX2, by decide, rfl, lw_goodI (tb1 (List.mem_of_getElem? (i := 65) (by decide +kernel))) rfl, rfl, tyX2_ok, nmX2, (fun _ => ⟨rfl, rfl⟩), by decide⟩
theorem f_RX3_11 : Fld RX3 11 3 0 true := ⟨RX3, TX3, 3, tyX3, rfl, goX3, by decide, rfl, lw_goodI (tb1 (List.mem_of_getElem? (i := 143) (by decide +kernel))) rfl, rfl, tyX3_ok, nmX3, (fun h => Bool.noConfusion h), by decide⟩
theorem f_RX3_17 : Fld RX3 17 3 1 false := ⟨RX3, TX3, 3, tyX3, rfl, goX3, by decide, rfl, lw_goodI (tb1 (List.mem_of_getElem? (i := 144) (by decide +kernel))) rfl, rfl, tyX3_ok, nmX3, (fun _ => ⟨rfl, rfl⟩), by decide⟩
theorem f_RX3_21 : Fld RX3 21 3 2 false := ⟨RX3, TX3, 3, tyX3, rfl, goX3, by decide, rfl, lw_goodI (tb1 (List.mem_of_getElem? (i := 145) (by decide +kernel))) rfl, rfl, tyX3_ok, nmX3, (fun _ => ⟨rfl, rfl⟩), by decide⟩
theorem f_RX4_9 : Fld RX4 9 4 0 true := ⟨RX4, TX4, 4, tyX4, rfl, goX4, by decide, rfl, lw_goodI (tb1 (List.mem_of_getElem? (i := 193) (by decide +kernel))) rfl, rfl, tyX4_ok, nmX4, (fun h => Bool.noConfusion h), by decide⟩
theorem f_RX4_15 : Fld RX4 15 4 1 true := ⟨RX4, TX4, 4, tyX4, rfl, goX4, by decide, rfl, lw_goodI (tb1 (List.mem_of_getElem? (i := 195) (by decide +kernel))) rfl, rfl, tyX4_ok, nmX4, (fun h => Bool.noConfusion h), by decide⟩
theorem f_RX4_18 : Fld RX4 18 4 2 true := ⟨RX4, TX4, 4, tyX4, rfl, goX4, by decide, rfl, lw_goodI (tb1 (List.mem_of_getElem? (i := 197) (by decide +kernel))) rfl, rfl, tyX4_ok, nmX4, (fun h => Bool.noConfusion h), by decide⟩
theorem f_RX4_22 : Fld RX4 22 4 3 false := ⟨RX4, TX4, 4, tyX4, rfl, goX4, by decide, rfl, lw_goodI (tb1 (List.mem_of_getElem? (i := 198) (by decide +kernel))) rfl, rfl, tyX4_ok, nmX4, (fun _ => ⟨rfl, rfl⟩), by decide⟩
theorem f_RX4_26 : Fld RX4 26 1 6 false := ⟨RX1, TX1, 9, tyX1, rfl, goX1, by decide, rfl, lw_goodI (tb2 (List.mem_of_getElem? (i := 25) (by decide +kernel))) rfl, rfl, tyX1_ok, nmX1, (fun _ => ⟨rfl, rfl⟩), by decide⟩
theorem f_RX5_10 : Fld RX5 10 5 0 true := ⟨RX5, TX5, 3, tyX5, rfl, goX5, by decide, rfl, lw_goodI (tb1 (List.mem_of_getElem? (i := 117) (by decide +kernel))) rfl, rfl, tyX5_ok, nmX5, (fun h => Bool.noConfusion h), by decide⟩
theorem f_RX5_19 : Fld RX5 19 5 1 true := ⟨RX5, TX5, 3, tyX5, rfl, goX5, by decide, rfl, lw_goodI (tb1 (List.mem_of_getElem? (i := 119) (by decide +kernel))) rfl, rfl, tyX5_ok, nmX5, (fun h => Bool.noConfusion h), by decide⟩
theorem f_RX5_29 : Fld RX5 29 5 2 true := ⟨RX5, TX5, 3, tyX5, rfl, goX5, by decide, rfl, lw_goodI (tb1 (List.mem_of_getElem? (i := 121) (by decide +kernel))) rfl, rfl, tyX5_ok, nmX5, (fun h => Bool.noConfusion h), by decide⟩
theorem f_RX6_9 : Fld RX6 9 6 0 true := ⟨RX6, TX6, 5, tyX6, rfl, goX6, by decide, rfl, lw_goodI (tb1 (List.mem_of_getElem? (i := 162) (by decide +kernel))) rfl, rfl, tyX6_ok, nmX6, (fun h => Bool.noConfusion h), by decide⟩
theorem f_RX6_15 : Fld RX6 15 6 1 false := ⟨RX6, TX6, 5, tyX6, rfl, goX6, by decide, rfl, lw_goodI (tb1 (List.mem_of_getElem? (i := 163) (by decide +kernel))) rfl, rfl, tyX6_ok, nmX6, (fun _ => ⟨rfl, rfl⟩), by decide⟩
theorem f_RX6_19 : Fld RX6 19 6 2 false := ⟨RX6, TX6, 5, tyX6, rfl, goX6, by decide, rfl, lw_goodI (tb1 (List.mem_of_getElem? (i := 165) (by decide +kernel))) rfl, rfl, tyX6_ok, nmX6, (fun _ => ⟨rfl, rfl⟩), by decide⟩
theorem f_RX6_22 : Fld RX6 22 6 3 false := ⟨RX6, TX6, 5, tyX6, rfl, goX6, by decide, rfl, lw_goodI (tb1 (List.mem_of_getElem? (i := 167) (by decide +kernel))) rfl, rfl, tyX6_ok, nmX6, (fun _ => ⟨rfl, rfl⟩), by decide⟩
theorem f_RX6_25 : Fld RX6 25 6 4 false := ⟨RX6, TX6, 5, tyX6, rfl, goX6, by decide, rfl, lw_goodI (tb1 (List.mem_of_getElem? (i := 169) (by decide +kernel))) rfl, rfl, tyX6_ok, nmX6, (fun _ => ⟨rfl, rfl⟩), by decide⟩
theorem f_RX7_9 : Fld RX7 9 7 0 true := ⟨RX7, TX7, 3, tyX7, rfl, goX7, by decide, rfl, lw_goodI (tb2 (List.mem_of_getElem? (i := 55) (by decide +kernel))) rfl, rfl, tyX7_ok, nmX7, (fun h => Bool.noConfusion h), by decide⟩
theorem f_RX7_15 : Fld RX7 15 7 1 false := ⟨RX7, TX7, 3, tyX7, rfl, goX7, by decide, rfl, lw_goodI (tb2 (List.mem_of_getElem? (i := 56) (by decide +kernel))) rfl, rfl, tyX7_ok, nmX7, (fun _ => ⟨rfl, rfl⟩), by decide⟩
theorem f_RX7_28 : Fld RX7 28 8 7 false := ⟨RX8, TX8, 9, tyX8, rfl, goX8, by decide, rfl, lw_goodI (tb1 (List.mem_of_getElem? (i := 226) (by decide +kernel))) rfl, rfl, tyX8_ok, nmX8, (fun _ => ⟨rfl, rfl⟩), by decide⟩
theorem f_RX7_41 : Fld RX7 41 8 4 false := ⟨RX8, TX8, 9, tyX8, rfl, goX8, by decide, rfl, lw_goodI (tb1 (List.mem_of_getElem? (i := 222) (by decide +kernel))) rfl, rfl, tyX8_ok, nmX8, (fun _ => ⟨rfl, rfl⟩), by decide⟩
theorem f_RX7_52 : Fld RX7 52 8 2 true := ⟨RX8, TX8, 9, tyX8, rfl, goX8, by decide, rfl, lw_goodI (tb1 (List.mem_of_getElem? (i := 218) (by decide +kernel))) rfl, rfl, tyX8_ok, nmX8, (fun h => Bool.noConfusion h), by decide⟩
theorem f_RX7_65 : Fld RX7 65 8 3 true := ⟨RX8, TX8, 9, tyX8, rfl, goX8, by decide, rfl, lw_goodI (tb1 (List.mem_of_getElem? (i := 220) (by decide +kernel))) rfl, rfl, tyX8_ok, nmX8, (fun h => Bool.noConfusion h), by decide⟩
theorem f_RX8_9 : Fld RX8 9 8 0 true := ⟨RX8, TX8, 9, tyX8, rfl, goX8, by decide, rfl, lw_goodI (tb1 (List.mem_of_getElem? (i := 215) (by decide +kernel))) rfl, rfl, tyX8_ok, nmX8, (fun h => Bool.noConfusion h), by decide⟩
theorem f_RX8_15 : Fld RX8 15 8 1 true := ⟨RX8, TX8, 9, tyX8, rfl, goX8, by decide, rfl, lw_goodI (tb1 (List.mem_of_getElem? (i := 216) (by decide +kernel))) rfl, rfl, tyX8_ok, nmX8, (fun h => Bool.noConfusion h), by decide⟩
theorem f_RX8_18 : Fld RX8 18 8 2 true := ⟨RX8, TX8, 9, tyX8, rfl, goX8, by decide, rfl, lw_goodI (tb1 (List.mem_of_getElem? (i := 217) (by decide +kernel))) rfl, rfl, tyX8_ok, nmX8, (fun h => Bool.noConfusion h), by decide⟩
theorem f_RX8_21 : Fld RX8 21 8 3 true := ⟨RX8, TX8, 9, tyX8, rfl, goX8, by decide, rfl, lw_goodI (tb1 (List.mem_of_getElem? (i := 219) (by decide +kernel))) rfl, rfl, tyX8_ok, nmX8, (fun h => Bool.noConfusion h), by decide⟩
theorem f_RX8_24 : Fld RX8 24 8 4 false := ⟨RX8, TX8, 9, tyX8, rfl, goX8, by decide, rfl, lw_goodI (tb1 (List.mem_of_getElem? (i := 221) (by decide +kernel))) rfl, rfl, tyX8_ok, nmX8, (fun _ => ⟨rfl, rfl⟩), by decide⟩
theorem f_RX8_28 : Fld RX8 28 8 5 false := ⟨RX8, TX8, 9, tyX8, rfl, goX8, by decide, rfl, lw_goodI (tb1 (List.mem_of_getElem? (i := 223) (by decide +kernel))) rfl, rfl, tyX8_ok, nmX8, (fun _ => ⟨rfl, rfl⟩), by decide⟩
theorem f_RX8_31 : Fld RX8 31 8 6 false := ⟨RX8, TX8, 9, tyX8, rfl, goX8, by decide, rfl, lw_goodI (tb1 (List.mem_of_getElem? (i := 224) (by decide +kernel))) rfl, rfl, tyX8_ok, nmX8, (fun _ => ⟨rfl, rfl⟩), by decide⟩
theorem f_RX8_34 : Fld RX8 34 8 7 false := ⟨RX8, TX8, 9, tyX8, rfl, goX8, by decide, rfl, lw_goodI (tb1 (List.mem_of_getElem? (i := 225) (by decide +kernel))) rfl, rfl, tyX8_ok, nmX8, (fun _ => ⟨rfl, rfl⟩), by decide⟩
theorem f_RX8_46 : Fld RX8 46 2 9 false := ⟨RX2, TX2, 11, tyX2, rfl, goX2, by decide, rfl, lw_goodI (tb1 (List.mem_of_getElem? (i := 63) (by decide +kernel))) rfl, rfl, tyX2_ok, nmX2, (fun _ => ⟨rfl, rfl⟩), by decide⟩
theorem f_RX8_69 : Fld RX8 69 2 10 false := ⟨RX2, TX2, 11, tyX2, rfl, goX2, by decide, rfl, lw_goodI (tb1 (List.mem_of_getElem? (i := 66) (by decide +kernel))) rfl, rfl, tyX2_ok, nmX2, (fun _ => ⟨rfl, rfl⟩), by decide⟩
theorem f_RX8_76 : Fld RX8 76 2 3 false := ⟨RX2, TX2, 11, tyX2, rfl, goX2, by decide, rfl, lw_goodI (tb1 (List.mem_of_getElem? (i := 46) (by decide +kernel))) rfl, rfl, tyX2_ok, nmX2, (fun _ => ⟨rfl, rfl⟩), by decide⟩
theorem f_RX8_79 : Fld RX8 79 2 0 true := ⟨RX2, TX2, 11, tyX2, rfl, goX2, by decide, rfl, lw_goodI (tb1 (List.mem_of_getElem? (i := 36) (by decide +kernel))) rfl, rfl, tyX2_ok, nmX2, (fun h => Bool.noConfusion h), by decide⟩
theorem f_RX8_82 : Fld RX8 82 2 2 true := ⟨RX2, TX2, 11, tyX2, rfl, goX2, by decide, rfl, lw_goodI (tb1 (List.mem_of_getElem? (i := 42) (by decide +kernel))) rfl, rfl, tyX2_ok, nmX2, (fun h => Bool.noConfusion h), by decide⟩
theorem f_RX8_85 : Fld RX8 85 2 1 true := ⟨RX2, TX2, 11, tyX2, rfl, goX2, by decide, rfl, lw_goodI (tb1 (List.mem_of_getElem? (i := 39) (by decide +kernel))) rfl, rfl, tyX2_ok, nmX2, (fun h => Bool.noConfusion h), by decide⟩
theorem f_RX8_88 : Fld RX8 88 2 8 false := ⟨RX2, TX2, 11, tyX2, rfl, goX2, by decide, rfl, lw_goodI (tb1 (List.mem_of_getElem? (i := 60) (by decide +kernel))) rfl, rfl, tyX2_ok, nmX2, (fun _ => ⟨rfl, rfl⟩), by decide⟩
theorem f_RX8_91 : Fld RX8 91 2 6 true := ⟨RX2, TX2, 11, tyX2, rfl, goX2, by decide, rfl, lw_goodI (tb1 (List.mem_of_getElem? (i := 54) (by decide +kernel))) rfl, rfl, tyX2_ok, nmX2, (fun h => Bool.noConfusion h), by decide⟩
theorem f_RX8_94 : Fld RX8 94 2 7 true := ⟨RX2, TX2, 11, tyX2, rfl, goX2, by decide, rfl, lw_goodI (tb1 (List.mem_of_getElem? (i := 57) (by decide +kernel))) rfl, rfl, tyX2_ok, nmX2, (fun h => Bool.noConfusion h), by decide⟩
theorem f_RX8_100 : Fld RX8 100 2 4 true := ⟨RX2, TX2, 11, tyX2, rfl, goX2, by decide, rfl, lw_goodI (tb1 (List.mem_of_getElem? (i := 49) (by decide +kernel))) rfl, rfl, tyX2_ok, nmX2, (fun h => Bool.noConfusion h), by decide⟩
theorem f_RX8_103 : Fld RX8 103 2 5 true := ⟨RX2, TX2, 11, tyX2, rfl, goX2, by decide, rfl, lw_goodI (tb1 (List.mem_of_getElem? (i := 52) (by decide +kernel))) rfl, rfl, tyX2_ok, nmX2, (fun h => Bool.noConfusion h), by decide⟩
theorem f_RX9_12 : Fld RX9 12 9 0 true := ⟨RX9, TX9, 9, tyX9, rfl, goX9, by decide, rfl, lw_goodI (tb2 (List.mem_of_getElem? (i := 67) (by decide +kernel))) rfl, rfl, tyX9_ok, nmX9, (fun h => Bool.noConfusion h), by decide⟩
theorem f_RX9_16 : Fld RX9 16 5 0 true := ⟨RX5, TX5, 3, tyX5, rfl, goX5, by decide, rfl, lw_goodI (tb1 (List.mem_of_getElem? (i := 118) (by decide +kernel))) rfl, rfl, tyX5_ok, nmX5, (fun h => Bool.noConfusion h), by decide⟩
theorem f_RX9_26 : Fld RX9 26 5 2 true := ⟨RX5, TX5, 3, tyX5, rfl, goX5, by decide, rfl, lw_goodI (tb1 (List.mem_of_getElem? (i := 122) (by decide +kernel))) rfl, rfl, tyX5_ok, nmX5, (fun h => Bool.noConfusion h), by decide⟩
theorem f_RX9_30 : Fld RX9 30 5 1 true := ⟨RX5, TX5, 3, tyX5, rfl, goX5, by decide, rfl, lw_goodI (tb1 (List.mem_of_getElem? (i := 120) (by decide +kernel))) rfl, rfl, tyX5_ok, nmX5, (fun h => Bool.noConfusion h), by decide⟩
theorem f_RX9_34 : Fld RX9 34 0 3 false := ⟨RX0, TX0, 4, tyX0, rfl, goX0, by decide, rfl, lw_goodI (tb1 (List.mem_of_getElem? (i := 105) (by decide +kernel))) rfl, rfl, tyX0_ok, nmX0, (fun _ => ⟨rfl, rfl⟩), by decide⟩
theorem f_RX9_43 : Fld RX9 43 9 1 true := ⟨RX9, TX9, 9, tyX9, rfl, goX9, by decide, rfl, lw_goodI (tb2 (List.mem_of_getElem? (i := 68) (by decide +kernel))) rfl, rfl, tyX9_ok, nmX9, (fun h => Bool.noConfusion h), by decide⟩
theorem f_RX9_48 : Fld RX9 48 9 2 true := ⟨RX9, TX9, 9, tyX9, rfl, goX9, by decide, rfl, lw_goodI (tb2 (List.mem_of_getElem? (i := 69) (by decide +kernel))) rfl, rfl, tyX9_ok, nmX9, (fun h => Bool.noConfusion h), by decide⟩
theorem f_RX9_54 : Fld RX9 54 9 3 true := ⟨RX9, TX9, 9, tyX9, rfl, goX9, by decide, rfl, lw_goodI (tb2 (List.mem_of_getElem? (i := 70) (by decide +kernel))) rfl, rfl, tyX9_ok, nmX9, (fun h => Bool.noConfusion h), by decide⟩
theorem f_RX9_60 : Fld RX9 60 9 4 true := ⟨RX9, TX9, 9, tyX9, rfl, goX9, by decide, rfl, lw_goodI (tb2 (List.mem_of_getElem? (i := 71) (by decide +kernel))) rfl, rfl, tyX9_ok, nmX9, (fun h => Bool.noConfusion h), by decide⟩
theorem f_RX9_66 : Fld RX9 66 9 5 true := ⟨RX9, TX9, 9, tyX9, rfl, goX9, by decide, rfl, lw_goodI (tb2 (List.mem_of_getElem? (i := 72) (by decide +kernel))) rfl, rfl, tyX9_ok, nmX9, (fun h => Bool.noConfusion h), by decide⟩
theorem f_RX9_72 : Fld RX9 72 9 6 true := ⟨RX9, TX9, 9, tyX9, rfl, goX9, by decide, rfl, lw_goodI (tb2 (List.mem_of_getElem? (i := 73) (by decide +kernel))) rfl, rfl, tyX9_ok, nmX9, (fun h => Bool.noConfusion h), by decide⟩
theorem f_RX9_79 : Fld RX9 79 9 7 true := ⟨RX9, TX9, 9, tyX9, rfl, goX9, by decide, rfl, lw_goodI (tb2 (List.mem_of_getElem? (i := 74) (by decide +kernel))) rfl, rfl, tyX9_ok, nmX9, (fun h => Bool.noConfusion h), by decide⟩
theorem f_RX9_83 : Fld RX9 83 9 8 false := ⟨RX9, TX9, 9, tyX9, rfl, goX9, by decide, rfl, lw_goodI (tb2 (List.mem_of_getElem? (i := 75) (by decide +kernel))) rfl, rfl, tyX9_ok, nmX9, (fun _ => ⟨rfl, rfl⟩), by decide⟩
theorem f_RX9_104 : Fld RX9 104 2 3 false := ⟨RX2, TX2, 11, tyX2, rfl, goX2, by decide, rfl, lw_goodI (tb1 (List.mem_of_getElem? (i := 45) (by decide +kernel))) rfl, rfl, tyX2_ok, nmX2, (fun _ => ⟨rfl, rfl⟩), by decide⟩
theorem f_RX9_112 : Fld RX9 112 2 4 true := ⟨RX2, TX2, 11, tyX2, rfl, goX2, by decide, rfl, lw_goodI (tb1 (List.mem_of_getElem? (i := 48) (by decide +kernel))) rfl, rfl, tyX2_ok, nmX2, (fun h => Bool.noConfusion h), by decide⟩
theorem f_RX9_115 : Fld RX9 115 2 5 true := ⟨RX2, TX2, 11, tyX2, rfl, goX2, by decide, rfl, lw_goodI (tb1 (List.mem_of_getElem? (i := 51) (by decide +kernel))) rfl, rfl, tyX2_ok, nmX2, (fun h => Bool.noConfusion h), by decide⟩
theorem f_RX9_118 : Fld RX9 118 2 8 false := ⟨RX2, TX2, 11, tyX2, rfl, goX2, by decide, rfl, lw_goodI (tb1 (List.mem_of_getElem? (i := 61) (by decide +kernel))) rfl, rfl, tyX2_ok, nmX2, (fun _ => ⟨rfl, rfl⟩), by decide⟩
theorem f_RX9_125 : Fld RX9 125 2 7 true := ⟨RX2, TX2, 11, tyX2, rfl, goX2, by decide, rfl, lw_goodI (tb1 (List.mem_of_getElem? (i := 58) (by decide +kernel))) rfl, rfl, tyX2_ok, nmX2, (fun h => Bool.noConfusion h), by decide⟩
theorem f_RX9_132 : Fld RX9 132 2 9 false := ⟨RX2, TX2, 11, tyX2, rfl, goX2, by decide, rfl, lw_goodI (tb1 (List.mem_of_getElem? (i := 64) (by decide +kernel))) rfl, rfl, tyX2_ok, nmX2, (fun _ => ⟨rfl, rfl⟩), by decide⟩
theorem f_RX9_136 : Fld RX9 136 2 10 false := ⟨RX2, TX2, 11, tyX2, rfl, goX2, by decide, rfl, lw_goodI (tb1 (List.mem_of_getElem? (i := 67) (by decide +kernel))) rfl, rfl, tyX2_ok, nmX2, (fun _ => ⟨rfl, rfl⟩), by decide⟩
theorem f_RX9_145 : Fld RX9 145 3 2 false := ⟨RX3, TX3, 3, tyX3, rfl, goX3, by decide, rfl, lw_goodI (tb1 (List.mem_of_getElem? (i := 146) (by decide +kernel))) rfl, rfl, tyX3_ok, nmX3, (fun _ => ⟨rfl, rfl⟩), by decide⟩
theorem f_RX9_152 : Fld RX9 152 0 2 false := ⟨RX0, TX0, 4, tyX0, rfl, goX0, by decide, rfl, lw_goodI (tb1 (List.mem_of_getElem? (i := 103) (by decide +kernel))) rfl, rfl, tyX0_ok, nmX0, (fun _ => ⟨rfl, rfl⟩), by decide⟩
theorem f_RX9_155 : Fld RX9 155 6 1 false := ⟨RX6, TX6, 5, tyX6, rfl, goX6, by decide, rfl, lw_goodI (tb1 (List.mem_of_getElem? (i := 164) (by decide +kernel))) rfl, rfl, tyX6_ok, nmX6, (fun _ => ⟨rfl, rfl⟩), by decide⟩
theorem f_RX9_156 : Fld RX9 156 2 0 true := ⟨RX2, TX2, 11, tyX2, rfl, goX2, by decide, rfl, lw_goodI (tb1 (List.mem_of_getElem? (i := 37) (by decide +kernel))) rfl, rfl, tyX2_ok, nmX2, (fun h => Bool.noConfusion h), by decide⟩
theorem f_RX9_159 : Fld RX9 159 2 1 true := ⟨RX2, TX2, 11, tyX2, rfl, goX2, by decide, rfl, lw_goodI (tb1 (List.mem_of_getElem? (i := 40) (by decide +kernel))) rfl, rfl, tyX2_ok, nmX2, (fun h => Bool.noConfusion h), by decide⟩
theorem f_RX9_162 : Fld RX9 162 2 2 true := ⟨RX2, TX2, 11, tyX2, rfl, goX2, by decide, rfl, lw_goodI (tb1 (List.mem_of_getElem? (i := 43) (by decide +kernel))) rfl, rfl, tyX2_ok, nmX2, (fun h => Bool.noConfusion h), by decide⟩
theorem f_RX9_169 : Fld RX9 169 2 6 true := ⟨RX2, TX2, 11, tyX2, rfl, goX2, by decide, rfl, lw_goodI (tb1 (List.mem_of_getElem? (i := 55) (by decide +kernel))) rfl, rfl, tyX2_ok, nmX2, (fun h => Bool.noConfusion h), by decide⟩
theorem f_RX9_206 : Fld RX9 206 1 6 false := ⟨RX1, TX1, 9, tyX1, rfl, goX1, by decide, rfl, lw_goodI (tb2 (List.mem_of_getElem? (i := 26) (by decide +kernel))) rfl, rfl, tyX1_ok, nmX1, (fun _ => ⟨rfl, rfl⟩), by decide⟩
theorem f_RX9_207 : Fld RX9 207 1 0 true := ⟨RX1, TX1, 9, tyX1, rfl, goX1, by decide, rfl, lw_goodI (tb2 (List.mem_of_getElem? (i := 14) (by decide +kernel))) rfl, rfl, tyX1_ok, nmX1, (fun h => Bool.noConfusion h), by decide⟩
theorem f_RX9_210 : Fld RX9 210 1 1 true := ⟨RX1, TX1, 9, tyX1, rfl, goX1, by decide, rfl, lw_goodI (tb2 (List.mem_of_getElem? (i := 16) (by decide +kernel))) rfl, rfl, tyX1_ok, nmX1, (fun h => Bool.noConfusion h), by decide⟩
theorem f_RX9_213 : Fld RX9 213 1 2 true := ⟨RX1, TX1, 9, tyX1, rfl, goX1, by decide, rfl, lw_goodI (tb2 (List.mem_of_getElem? (i := 18) (by decide +kernel))) rfl, rfl, tyX1_ok, nmX1, (fun h => Bool.noConfusion h), by decide⟩
theorem f_RX9_216 : Fld RX9 216 1 3 true := ⟨RX1, TX1, 9, tyX1, rfl, goX1, by decide, rfl, lw_goodI (tb2 (List.mem_of_getElem? (i := 20) (by decide +kernel))) rfl, rfl, tyX1_ok, nmX1, (fun h => Bool.noConfusion h), by decide⟩
theorem f_RX9_219 : Fld RX9 219 1 4 true := ⟨RX1, TX1, 9, tyX1, rfl, goX1, by decide, rfl, lw_goodI (tb2 (List.mem_of_getElem? (i := 22) (by decide +kernel))) rfl, rfl, tyX1_ok, nmX1, (fun h => Bool.noConfusion h), by decide⟩
theorem f_RX9_235 : Fld RX9 235 4 3 false := ⟨RX4, TX4, 4, tyX4, rfl, goX4, by decide, rfl, lw_goodI (tb1 (List.mem_of_getElem? (i := 199) (by decide +kernel))) rfl, rfl, tyX4_ok, nmX4, (fun _ => ⟨rfl, rfl⟩), by decide⟩
theorem f_RX9_236 : Fld RX9 236 4 0 true := ⟨RX4, TX4, 4, tyX4, rfl, goX4, by decide, rfl, lw_goodI (tb1 (List.mem_of_getElem? (i := 194) (by decide +kernel))) rfl, rfl, tyX4_ok, nmX4, (fun h => Bool.noConfusion h), by decide⟩
theorem f_RX9_239 : Fld RX9 239 4 1 true := ⟨RX4, TX4, 4, tyX4, rfl, goX4, by decide, rfl, lw_goodI (tb1 (List.mem_of_getElem? (i := 196) (by decide +kernel))) rfl, rfl, tyX4_ok, nmX4, (fun h => Bool.noConfusion h), by decide⟩
theorem f_RX9_245 : Fld RX9 245 0 0 true := ⟨RX0, TX0, 4, tyX0, rfl, goX0, by decide, rfl, lw_goodI (tb1 (List.mem_of_getElem? (i := 99) (by decide +kernel))) rfl, rfl, tyX0_ok, nmX0, (fun h => Bool.noConfusion h), by decide⟩
theorem f_RX9_250 : Fld RX9 250 0 1 true := ⟨RX0, TX0, 4, tyX0, rfl, goX0, by decide, rfl, lw_goodI (tb1 (List.mem_of_getElem? (i := 101) (by decide +kernel))) rfl, rfl, tyX0_ok, nmX0, (fun h => Bool.noConfusion h), by decide⟩
theorem f_RX9_275 : Fld RX9 275 6 2 false := ⟨RX6, TX6, 5, tyX6, rfl, goX6, by decide, rfl, lw_goodI (tb1 (List.mem_of_getElem? (i := 166) (by decide +kernel))) rfl, rfl, tyX6_ok, nmX6, (fun _ => ⟨rfl, rfl⟩), by decide⟩
theorem f_RX9_278 : Fld RX9 278 6 3 false := ⟨RX6, TX6, 5, tyX6, rfl, goX6, by decide, rfl, lw_goodI (tb1 (List.mem_of_getElem? (i := 168) (by decide +kernel))) rfl, rfl, tyX6_ok, nmX6, (fun _ => ⟨rfl, rfl⟩), by decide⟩
theorem f_RX9_295 : Fld RX9 295 8 8 false := ⟨RX8, TX8, 9, tyX8, rfl, goX8, by decide, rfl, lw_goodI (tb1 (List.mem_of_getElem? (i := 228) (by decide +kernel))) rfl, rfl, tyX8_ok, nmX8, (fun _ => ⟨rfl, rfl⟩), by decide⟩
theorem f_RX9_305 : Fld RX9 305 7 2 false := ⟨RX7, TX7, 3, tyX7, rfl, goX7, by decide, rfl, lw_goodI (tb2 (List.mem_of_getElem? (i := 59) (by decide +kernel))) rfl, rfl, tyX7_ok, nmX7, (fun _ => ⟨rfl, rfl⟩), by decide⟩
theorem f_RX9_306 : Fld RX9 306 7 1 false := ⟨RX7, TX7, 3, tyX7, rfl, goX7, by decide, rfl, lw_goodI (tb2 (List.mem_of_getElem? (i := 57) (by decide +kernel))) rfl, rfl, tyX7_ok, nmX7, (fun _ => ⟨rfl, rfl⟩), by decide⟩
theorem f_RX9_316 : Fld RX9 316 1 8 false := ⟨RX1, TX1, 9, tyX1, rfl, goX1, by decide, rfl, lw_goodI (tb2 (List.mem_of_getElem? (i := 30) (by decide +kernel))) rfl, rfl, tyX1_ok, nmX1, (fun _ => ⟨rfl, rfl⟩), by decide⟩
theorem f_RX9_317 : Fld RX9 317 1 7 false := ⟨RX1, TX1, 9, tyX1, rfl, goX1, by decide, rfl, lw_goodI (tb2 (List.mem_of_getElem? (i := 28) (by decide +kernel))) rfl, rfl, tyX1_ok, nmX1, (fun _ => ⟨rfl, rfl⟩), by decide⟩
theorem z_J7_fill_53178 : Cond.static yJ7_fill_53178 ∈ lw_good ∧ Cond.initialized RJ7 ∈ lw_good ∧ Cond.code yJ7_fill_53178 cJ7_fill_53178 4 none ∈ lw_good ∧ fx_p m_J7_fill_53178 2 := ⟨lw_goodI (tb2 (List.mem_of_getElem? (i := 233) (by decide +kernel))) rfl, lw_goodI (tb1 (List.mem_of_getElem? (i := 14) (by decide +kernel))) rfl, lw_goodI (tb2 (List.mem_of_getElem? (i := 234) (by decide +kernel))) rfl, ⟨by decide, by decide, by decide +kernel⟩⟩
theorem z_J9_abs_0f7a4 : Cond.static yJ9_abs_0f7a4 ∈ lw_good ∧ Cond.initialized RJ9 ∈ lw_good ∧ Cond.code yJ9_abs_0f7a4 cJ9_abs_0f7a4 1 (some .int) ∈ lw_good ∧ fx_p m_J9_abs_0f7a4 1 := ⟨lw_goodI (tb3 (List.mem_of_getElem? (i := 170) (by decide +kernel))) rfl, lw_goodI (tb1 (List.mem_of_getElem? (i := 12) (by decide +kernel))) rfl, lw_goodI (tb3 (List.mem_of_getElem? (i := 171) (by decide +kernel))) rfl, ⟨by decide, by decide, by decide +kernel⟩⟩
theorem z_J9_max_7cf53 : Cond.static yJ9_max_7cf53 ∈ lw_good ∧ Cond.initialized RJ9 ∈ lw_good ∧ Cond.code yJ9_max_7cf53 cJ9_max_7cf53 2 (some .int) ∈ lw_good ∧ fx_p m_J9_max_7cf53 2 := ⟨lw_goodI (tb3 (List.mem_of_getElem? (i := 112) (by decide +kernel))) rfl, lw_goodI (tb1 (List.mem_of_getElem? (i := 12) (by decide +kernel))) rfl, lw_goodI (tb3 (List.mem_of_getElem? (i := 113) (by decide +kernel))) rfl, ⟨by decide, by decide, by decide +kernel⟩⟩
theorem z_J9_min_7cf53 : Cond.static yJ9_min_7cf53 ∈ lw_good ∧ Cond.initialized RJ9 ∈ lw_good ∧ Cond.code yJ9_min_7cf53 cJ9_min_7cf53 2 (some .int) ∈ lw_good ∧ fx_p m_J9_min_7cf53 2 := ⟨lw_goodI (tb2 (List.mem_of_getElem? (i := 134) (by decide +kernel))) rfl, lw_goodI (tb1 (List.mem_of_getElem? (i := 12) (by decide +kernel))) rfl, lw_goodI (tb2 (List.mem_of_getElem? (i := 135) (by decide +kernel))) rfl, ⟨by decide, by decide, by decide +kernel⟩⟩
theorem z_X0_append : Cond.instanceMethod yX0_append ∈ lw_good ∧ Cond.selects RX0 yX0_append yX0_append ∈ lw_good ∧ Cond.initialized RX0 ∈ lw_good ∧ Cond.code yX0_append cX0_append 3 none ∈ lw_good ∧ fx_p m_X0_append 2 := ⟨lw_goodI (tb3 (List.mem_of_getElem? (i := 190) (by decide +kernel))) rfl, lw_goodI (tb3 (List.mem_of_getElem? (i := 191) (by decide +kernel))) rfl, lw_goodI (tb1 (List.mem_of_getElem? (i := 4) (by decide +kernel))) rfl, lw_goodI (tb3 (List.mem_of_getElem? (i := 192) (by decide +kernel))) rfl, ⟨by decide, by decide, by decide +kernel⟩⟩
theorem z_X0_copyFrom : Cond.instanceMethod yX0_copyFrom ∈ lw_good ∧ Cond.selects RX0 yX0_copyFrom yX0_copyFrom ∈ lw_good ∧ Cond.initialized RX0 ∈ lw_good ∧ Cond.code yX0_copyFrom cX0_copyFrom 2 none ∈ lw_good ∧ fx_p m_X0_copyFrom 1 := ⟨lw_goodI (tb2 (List.mem_of_getElem? (i := 140) (by decide +kernel))) rfl, lw_goodI (tb2 (List.mem_of_getElem? (i := 141) (by decide +kernel))) rfl, lw_goodI (tb1 (List.mem_of_getElem? (i := 4) (by decide +kernel))) rfl, lw_goodI (tb2 (List.mem_of_getElem? (i := 142) (by decide +kernel))) rfl, ⟨by decide, by decide, by decide +kernel⟩⟩
theorem z_X0_lastReached : Cond.instanceMethod yX0_lastReached ∈ lw_good ∧ Cond.selects RX0 yX0_lastReached yX0_lastReached ∈ lw_good ∧ Cond.initialized RX0 ∈ lw_good ∧ Cond.code yX0_lastReached cX0_lastReached 5 (some .int) ∈ lw_good ∧ fx_p m_X0_lastReached 1 := ⟨lw_goodI (tb3 (List.mem_of_getElem? (i := 227) (by decide +kernel))) rfl, lw_goodI (tb3 (List.mem_of_getElem? (i := 228) (by decide +kernel))) rfl, lw_goodI (tb1 (List.mem_of_getElem? (i := 4) (by decide +kernel))) rfl, lw_goodI (tb3 (List.mem_of_getElem? (i := 229) (by decide +kernel))) rfl, ⟨by decide, by decide, by decide +kernel⟩⟩
theorem z_X0_reachOf : Cond.instanceMethod yX0_reachOf ∈ lw_good ∧ Cond.selects RX0 yX0_reachOf yX0_reachOf ∈ lw_good ∧ Cond.initialized RX0 ∈ lw_good ∧ Cond.code yX0_reachOf cX0_reachOf 4 (some .int) ∈ lw_good ∧ fx_p m_X0_reachOf 1 := ⟨lw_goodI (tb3 (List.mem_of_getElem? (i := 206) (by decide +kernel))) rfl, lw_goodI (tb3 (List.mem_of_getElem? (i := 207) (by decide +kernel))) rfl, lw_goodI (tb1 (List.mem_of_getElem? (i := 4) (by decide +kernel))) rfl, lw_goodI (tb3 (List.mem_of_getElem? (i := 208) (by decide +kernel))) rfl, ⟨by decide, by decide, by decide +kernel⟩⟩
theorem z_X0_routeOf : Cond.instanceMethod yX0_routeOf ∈ lw_good ∧ Cond.selects RX0 yX0_routeOf yX0_routeOf ∈ lw_good ∧ Cond.initialized RX0 ∈ lw_good ∧ Cond.code yX0_routeOf cX0_routeOf 6 (some .int) ∈ lw_good ∧ fx_p m_X0_routeOf 1 := ⟨lw_goodI (tb3 (List.mem_of_getElem? (i := 218) (by decide +kernel))) rfl, lw_goodI (tb3 (List.mem_of_getElem? (i := 219) (by decide +kernel))) rfl, lw_goodI (tb1 (List.mem_of_getElem? (i := 4) (by decide +kernel))) rfl, lw_goodI (tb3 (List.mem_of_getElem? (i := 220) (by decide +kernel))) rfl, ⟨by decide, by decide, by decide +kernel⟩⟩
theorem z_X0_runAfter : Cond.instanceMethod yX0_runAfter ∈ lw_good ∧ Cond.selects RX0 yX0_runAfter yX0_runAfter ∈ lw_good ∧ Cond.initialized RX0 ∈ lw_good ∧ Cond.code yX0_runAfter cX0_runAfter 2 (some .int) ∈ lw_good ∧ fx_p m_X0_runAfter 1 := ⟨lw_goodI (tb3 (List.mem_of_getElem? (i := 210) (by decide +kernel))) rfl, lw_goodI (tb3 (List.mem_of_getElem? (i := 211) (by decide +kernel))) rfl, lw_goodI (tb1 (List.mem_of_getElem? (i := 4) (by decide +kernel))) rfl, lw_goodI (tb3 (List.mem_of_getElem? (i := 212) (by decide +kernel))) rfl, ⟨by decide, by decide, by decide +kernel⟩⟩
theorem z_X10_addEvent : Cond.instanceMethod yX10_addEvent ∈ lw_good ∧ Cond.selects RX10 yX10_addEvent yX10_addEvent ∈ lw_good ∧ Cond.initialized RX10 ∈ lw_good ∧ Cond.code yX10_addEvent cX10_addEvent 5 none ∈ lw_good ∧ fx_p m_X10_addEvent 2 := ⟨lw_goodI (tb5 (List.mem_of_getElem? (i := 88) (by decide +kernel))) rfl, lw_goodI (tb0 (List.mem_of_getElem? (i := 32) (by decide +kernel))) rfl, lw_goodI (tb1 (List.mem_of_getElem? (i := 11) (by decide +kernel))) rfl, lw_goodI (tb5 (List.mem_of_getElem? (i := 89) (by decide +kernel))) rfl, ⟨by decide, by decide, by decide +kernel⟩⟩
theorem z_X10_addEvents : Cond.instanceMethod yX10_addEvents ∈ lw_good ∧ Cond.selects RX10 yX10_addEvents yX10_addEvents ∈ lw_good ∧ Cond.initialized RX10 ∈ lw_good ∧ Cond.code yX10_addEvents cX10_addEvents 6 none ∈ lw_good ∧ fx_p m_X10_addEvents 2 := ⟨lw_goodI (tb5 (List.mem_of_getElem? (i := 76) (by decide +kernel))) rfl, lw_goodI (tb0 (List.mem_of_getElem? (i := 29) (by decide +kernel))) rfl, lw_goodI (tb1 (List.mem_of_getElem? (i := 11) (by decide +kernel))) rfl, lw_goodI (tb5 (List.mem_of_getElem? (i := 77) (by decide +kernel))) rfl, ⟨by decide, by decide, by decide +kernel⟩⟩
theorem z_X10_addGhost : Cond.instanceMethod yX10_addGhost ∈ lw_good ∧ Cond.selects RX10 yX10_addGhost yX10_addGhost ∈ lw_good ∧ Cond.initialized RX10 ∈ lw_good ∧ Cond.code yX10_addGhost cX10_addGhost 8 none ∈ lw_good ∧ fx_p m_X10_addGhost 3 := ⟨lw_goodI (tb5 (List.mem_of_getElem? (i := 39) (by decide +kernel))) rfl, lw_goodI (tb0 (List.mem_of_getElem? (i := 25) (by decide +kernel))) rfl, lw_goodI (tb1 (List.mem_of_getElem? (i := 11) (by decide +kernel))) rfl, lw_goodI (tb5 (List.mem_of_getElem? (i := 40) (by decide +kernel))) rfl, ⟨by decide, by decide, by decide +kernel⟩⟩
theorem z_X10_addReflector : Cond.instanceMethod yX10_addReflector ∈ lw_good ∧ Cond.selects RX10 yX10_addReflector yX10_addReflector ∈ lw_good ∧ Cond.initialized RX10 ∈ lw_good ∧ Cond.code yX10_addReflector cX10_addReflector 7 none ∈ lw_good ∧ fx_p m_X10_addReflector 3 := ⟨lw_goodI (tb5 (List.mem_of_getElem? (i := 31) (by decide +kernel))) rfl, lw_goodI (tb0 (List.mem_of_getElem? (i := 23) (by decide +kernel))) rfl, lw_goodI (tb1 (List.mem_of_getElem? (i := 11) (by decide +kernel))) rfl, lw_goodI (tb5 (List.mem_of_getElem? (i := 32) (by decide +kernel))) rfl, ⟨by decide, by decide, by decide +kernel⟩⟩
theorem z_X10_append : Cond.instanceMethod yX10_append ∈ lw_good ∧ Cond.selects RX10 yX10_append yX10_append ∈ lw_good ∧ Cond.initialized RX10 ∈ lw_good ∧ Cond.code yX10_append cX10_append 5 none ∈ lw_good ∧ fx_p m_X10_append 3 := ⟨lw_goodI (tb4 (List.mem_of_getElem? (i := 67) (by decide +kernel))) rfl, lw_goodI (tb0 (List.mem_of_getElem? (i := 9) (by decide +kernel))) rfl, lw_goodI (tb1 (List.mem_of_getElem? (i := 11) (by decide +kernel))) rfl, lw_goodI (tb4 (List.mem_of_getElem? (i := 68) (by decide +kernel))) rfl, ⟨by decide, by decide, by decide +kernel⟩⟩
theorem z_X10_before : Cond.instanceMethod yX10_before ∈ lw_good ∧ Cond.selects RX10 yX10_before yX10_before ∈ lw_good ∧ Cond.initialized RX10 ∈ lw_good ∧ Cond.code yX10_before cX10_before 3 (some .int) ∈ lw_good ∧ fx_p m_X10_before 2 := ⟨lw_goodI (tb5 (List.mem_of_getElem? (i := 35) (by decide +kernel))) rfl, lw_goodI (tb0 (List.mem_of_getElem? (i := 24) (by decide +kernel))) rfl, lw_goodI (tb1 (List.mem_of_getElem? (i := 11) (by decide +kernel))) rfl, lw_goodI (tb5 (List.mem_of_getElem? (i := 36) (by decide +kernel))) rfl, ⟨by decide, by decide, by decide +kernel⟩⟩
theorem z_X10_clearFibre : Cond.instanceMethod yX10_clearFibre ∈ lw_good ∧ Cond.selects RX10 yX10_clearFibre yX10_clearFibre ∈ lw_good ∧ Cond.initialized RX10 ∈ lw_good ∧ Cond.code yX10_clearFibre cX10_clearFibre 2 none ∈ lw_good ∧ fx_p m_X10_clearFibre 0 := ⟨lw_goodI (tb4 (List.mem_of_getElem? (i := 63) (by decide +kernel))) rfl, lw_goodI (tb0 (List.mem_of_getElem? (i := 8) (by decide +kernel))) rfl, lw_goodI (tb1 (List.mem_of_getElem? (i := 11) (by decide +kernel))) rfl, lw_goodI (tb4 (List.mem_of_getElem? (i := 64) (by decide +kernel))) rfl, ⟨by decide, by decide, by decide +kernel⟩⟩
theorem z_X10_deviation : Cond.instanceMethod yX10_deviation ∈ lw_good ∧ Cond.selects RX10 yX10_deviation yX10_deviation ∈ lw_good ∧ Cond.initialized RX10 ∈ lw_good ∧ Cond.code yX10_deviation cX10_deviation 2 (some .int) ∈ lw_good ∧ fx_p m_X10_deviation 1 := ⟨lw_goodI (tb5 (List.mem_of_getElem? (i := 84) (by decide +kernel))) rfl, lw_goodI (tb0 (List.mem_of_getElem? (i := 31) (by decide +kernel))) rfl, lw_goodI (tb1 (List.mem_of_getElem? (i := 11) (by decide +kernel))) rfl, lw_goodI (tb5 (List.mem_of_getElem? (i := 85) (by decide +kernel))) rfl, ⟨by decide, by decide, by decide +kernel⟩⟩
theorem z_X10_fails : Cond.instanceMethod yX10_fails ∈ lw_good ∧ Cond.selects RX10 yX10_fails yX10_fails ∈ lw_good ∧ Cond.initialized RX10 ∈ lw_good ∧ Cond.code yX10_fails cX10_fails 3 none ∈ lw_good ∧ fx_p m_X10_fails 2 := ⟨lw_goodI (tb5 (List.mem_of_getElem? (i := 192) (by decide +kernel))) rfl, lw_goodI (tb0 (List.mem_of_getElem? (i := 43) (by decide +kernel))) rfl, lw_goodI (tb1 (List.mem_of_getElem? (i := 11) (by decide +kernel))) rfl, lw_goodI (tb5 (List.mem_of_getElem? (i := 193) (by decide +kernel))) rfl, ⟨by decide, by decide, by decide +kernel⟩⟩
theorem z_X10_far : Cond.instanceMethod yX10_far ∈ lw_good ∧ Cond.selects RX10 yX10_far yX10_far ∈ lw_good ∧ Cond.initialized RX10 ∈ lw_good ∧ Cond.code yX10_far cX10_far 3 (some .int) ∈ lw_good ∧ fx_p m_X10_far 2 := ⟨lw_goodI (tb5 (List.mem_of_getElem? (i := 0) (by decide +kernel))) rfl, lw_goodI (tb0 (List.mem_of_getElem? (i := 17) (by decide +kernel))) rfl, lw_goodI (tb1 (List.mem_of_getElem? (i := 11) (by decide +kernel))) rfl, lw_goodI (tb5 (List.mem_of_getElem? (i := 1) (by decide +kernel))) rfl, ⟨by decide, by decide, by decide +kernel⟩⟩
theorem z_X10_firstEnd : Cond.instanceMethod yX10_firstEnd ∈ lw_good ∧ Cond.selects RX10 yX10_firstEnd yX10_firstEnd ∈ lw_good ∧ Cond.initialized RX10 ∈ lw_good ∧ Cond.code yX10_firstEnd cX10_firstEnd 4 (some .int) ∈ lw_good ∧ fx_p m_X10_firstEnd 2 := ⟨lw_goodI (tb5 (List.mem_of_getElem? (i := 112) (by decide +kernel))) rfl, lw_goodI (tb0 (List.mem_of_getElem? (i := 35) (by decide +kernel))) rfl, lw_goodI (tb1 (List.mem_of_getElem? (i := 11) (by decide +kernel))) rfl, lw_goodI (tb5 (List.mem_of_getElem? (i := 113) (by decide +kernel))) rfl, ⟨by decide, by decide, by decide +kernel⟩⟩
theorem z_X10_isBend : Cond.instanceMethod yX10_isBend ∈ lw_good ∧ Cond.selects RX10 yX10_isBend yX10_isBend ∈ lw_good ∧ Cond.initialized RX10 ∈ lw_good ∧ Cond.code yX10_isBend cX10_isBend 2 (some .boolean) ∈ lw_good ∧ fx_p m_X10_isBend 1 := ⟨lw_goodI (tb4 (List.mem_of_getElem? (i := 192) (by decide +kernel))) rfl, lw_goodI (tb0 (List.mem_of_getElem? (i := 14) (by decide +kernel))) rfl, lw_goodI (tb1 (List.mem_of_getElem? (i := 11) (by decide +kernel))) rfl, lw_goodI (tb4 (List.mem_of_getElem? (i := 193) (by decide +kernel))) rfl, ⟨by decide, by decide, by decide +kernel⟩⟩
theorem z_X10_isDigit : Cond.instanceMethod yX10_isDigit ∈ lw_good ∧ Cond.selects RX10 yX10_isDigit yX10_isDigit ∈ lw_good ∧ Cond.initialized RX10 ∈ lw_good ∧ Cond.code yX10_isDigit cX10_isDigit 1 (some .boolean) ∈ lw_good ∧ fx_p m_X10_isDigit 0 := ⟨lw_goodI (tb5 (List.mem_of_getElem? (i := 188) (by decide +kernel))) rfl, lw_goodI (tb0 (List.mem_of_getElem? (i := 42) (by decide +kernel))) rfl, lw_goodI (tb1 (List.mem_of_getElem? (i := 11) (by decide +kernel))) rfl, lw_goodI (tb5 (List.mem_of_getElem? (i := 189) (by decide +kernel))) rfl, ⟨by decide, by decide, by decide +kernel⟩⟩
theorem z_X10_isIn : Cond.static yX10_isIn ∈ lw_good ∧ Cond.initialized RX10 ∈ lw_good ∧ Cond.code yX10_isIn cX10_isIn 3 (some .boolean) ∈ lw_good ∧ fx_p m_X10_isIn 3 := ⟨lw_goodI (tb4 (List.mem_of_getElem? (i := 153) (by decide +kernel))) rfl, lw_goodI (tb1 (List.mem_of_getElem? (i := 11) (by decide +kernel))) rfl, lw_goodI (tb4 (List.mem_of_getElem? (i := 154) (by decide +kernel))) rfl, ⟨by decide, by decide, by decide +kernel⟩⟩
theorem z_X10_isJoint : Cond.instanceMethod yX10_isJoint ∈ lw_good ∧ Cond.selects RX10 yX10_isJoint yX10_isJoint ∈ lw_good ∧ Cond.initialized RX10 ∈ lw_good ∧ Cond.code yX10_isJoint cX10_isJoint 2 (some .boolean) ∈ lw_good ∧ fx_p m_X10_isJoint 1 := ⟨lw_goodI (tb4 (List.mem_of_getElem? (i := 179) (by decide +kernel))) rfl, lw_goodI (tb0 (List.mem_of_getElem? (i := 13) (by decide +kernel))) rfl, lw_goodI (tb1 (List.mem_of_getElem? (i := 11) (by decide +kernel))) rfl, lw_goodI (tb4 (List.mem_of_getElem? (i := 180) (by decide +kernel))) rfl, ⟨by decide, by decide, by decide +kernel⟩⟩
theorem z_X10_isMarked : Cond.instanceMethod yX10_isMarked ∈ lw_good ∧ Cond.selects RX10 yX10_isMarked yX10_isMarked ∈ lw_good ∧ Cond.initialized RX10 ∈ lw_good ∧ Cond.code yX10_isMarked cX10_isMarked 4 (some .boolean) ∈ lw_good ∧ fx_p m_X10_isMarked 1 := ⟨lw_goodI (tb5 (List.mem_of_getElem? (i := 80) (by decide +kernel))) rfl, lw_goodI (tb0 (List.mem_of_getElem? (i := 30) (by decide +kernel))) rfl, lw_goodI (tb1 (List.mem_of_getElem? (i := 11) (by decide +kernel))) rfl, lw_goodI (tb5 (List.mem_of_getElem? (i := 81) (by decide +kernel))) rfl, ⟨by decide, by decide, by decide +kernel⟩⟩
theorem z_X10_isSection : Cond.static yX10_isSection ∈ lw_good ∧ Cond.initialized RX10 ∈ lw_good ∧ Cond.code yX10_isSection cX10_isSection 3 (some .boolean) ∈ lw_good ∧ fx_p m_X10_isSection 3 := ⟨lw_goodI (tb4 (List.mem_of_getElem? (i := 150) (by decide +kernel))) rfl, lw_goodI (tb1 (List.mem_of_getElem? (i := 11) (by decide +kernel))) rfl, lw_goodI (tb4 (List.mem_of_getElem? (i := 151) (by decide +kernel))) rfl, ⟨by decide, by decide, by decide +kernel⟩⟩
theorem z_X10_isSide : Cond.static yX10_isSide ∈ lw_good ∧ Cond.initialized RX10 ∈ lw_good ∧ Cond.code yX10_isSide cX10_isSide 1 (some .boolean) ∈ lw_good ∧ fx_p m_X10_isSide 1 := ⟨lw_goodI (tb4 (List.mem_of_getElem? (i := 228) (by decide +kernel))) rfl, lw_goodI (tb1 (List.mem_of_getElem? (i := 11) (by decide +kernel))) rfl, lw_goodI (tb4 (List.mem_of_getElem? (i := 229) (by decide +kernel))) rfl, ⟨by decide, by decide, by decide +kernel⟩⟩
theorem z_X10_isTrace : Cond.static yX10_isTrace ∈ lw_good ∧ Cond.initialized RX10 ∈ lw_good ∧ Cond.code yX10_isTrace cX10_isTrace 2 (some .boolean) ∈ lw_good ∧ fx_p m_X10_isTrace 2 := ⟨lw_goodI (tb5 (List.mem_of_getElem? (i := 7) (by decide +kernel))) rfl, lw_goodI (tb1 (List.mem_of_getElem? (i := 11) (by decide +kernel))) rfl, lw_goodI (tb5 (List.mem_of_getElem? (i := 8) (by decide +kernel))) rfl, ⟨by decide, by decide, by decide +kernel⟩⟩
theorem z_X10_isWrong : Cond.instanceMethod yX10_isWrong ∈ lw_good ∧ Cond.selects RX10 yX10_isWrong yX10_isWrong ∈ lw_good ∧ Cond.initialized RX10 ∈ lw_good ∧ Cond.code yX10_isWrong cX10_isWrong 1 (some .boolean) ∈ lw_good ∧ fx_p m_X10_isWrong 0 := ⟨lw_goodI (tb5 (List.mem_of_getElem? (i := 180) (by decide +kernel))) rfl, lw_goodI (tb0 (List.mem_of_getElem? (i := 40) (by decide +kernel))) rfl, lw_goodI (tb1 (List.mem_of_getElem? (i := 11) (by decide +kernel))) rfl, lw_goodI (tb5 (List.mem_of_getElem? (i := 181) (by decide +kernel))) rfl, ⟨by decide, by decide, by decide +kernel⟩⟩
theorem z_X10_keep : Cond.instanceMethod yX10_keep ∈ lw_good ∧ Cond.selects RX10 yX10_keep yX10_keep ∈ lw_good ∧ Cond.initialized RX10 ∈ lw_good ∧ Cond.code yX10_keep cX10_keep 2 none ∈ lw_good ∧ fx_p m_X10_keep 0 := ⟨lw_goodI (tb4 (List.mem_of_getElem? (i := 158) (by decide +kernel))) rfl, lw_goodI (tb0 (List.mem_of_getElem? (i := 10) (by decide +kernel))) rfl, lw_goodI (tb1 (List.mem_of_getElem? (i := 11) (by decide +kernel))) rfl, lw_goodI (tb4 (List.mem_of_getElem? (i := 159) (by decide +kernel))) rfl, ⟨by decide, by decide, by decide +kernel⟩⟩
theorem z_X10_layEvents : Cond.instanceMethod yX10_layEvents ∈ lw_good ∧ Cond.selects RX10 yX10_layEvents yX10_layEvents ∈ lw_good ∧ Cond.initialized RX10 ∈ lw_good ∧ Cond.code yX10_layEvents cX10_layEvents 3 none ∈ lw_good ∧ fx_p m_X10_layEvents 2 := ⟨lw_goodI (tb5 (List.mem_of_getElem? (i := 72) (by decide +kernel))) rfl, lw_goodI (tb0 (List.mem_of_getElem? (i := 28) (by decide +kernel))) rfl, lw_goodI (tb1 (List.mem_of_getElem? (i := 11) (by decide +kernel))) rfl, lw_goodI (tb5 (List.mem_of_getElem? (i := 73) (by decide +kernel))) rfl, ⟨by decide, by decide, by decide +kernel⟩⟩
theorem z_X10_layJoins : Cond.instanceMethod yX10_layJoins ∈ lw_good ∧ Cond.selects RX10 yX10_layJoins yX10_layJoins ∈ lw_good ∧ Cond.initialized RX10 ∈ lw_good ∧ Cond.code yX10_layJoins cX10_layJoins 8 none ∈ lw_good ∧ fx_p m_X10_layJoins 1 := ⟨lw_goodI (tb5 (List.mem_of_getElem? (i := 120) (by decide +kernel))) rfl, lw_goodI (tb0 (List.mem_of_getElem? (i := 36) (by decide +kernel))) rfl, lw_goodI (tb1 (List.mem_of_getElem? (i := 11) (by decide +kernel))) rfl, lw_goodI (tb5 (List.mem_of_getElem? (i := 121) (by decide +kernel))) rfl, ⟨by decide, by decide, by decide +kernel⟩⟩
theorem z_X10_layLosses : Cond.instanceMethod yX10_layLosses ∈ lw_good ∧ Cond.selects RX10 yX10_layLosses yX10_layLosses ∈ lw_good ∧ Cond.initialized RX10 ∈ lw_good ∧ Cond.code yX10_layLosses cX10_layLosses 6 none ∈ lw_good ∧ fx_p m_X10_layLosses 1 := ⟨lw_goodI (tb4 (List.mem_of_getElem? (i := 232) (by decide +kernel))) rfl, lw_goodI (tb0 (List.mem_of_getElem? (i := 15) (by decide +kernel))) rfl, lw_goodI (tb1 (List.mem_of_getElem? (i := 11) (by decide +kernel))) rfl, lw_goodI (tb4 (List.mem_of_getElem? (i := 233) (by decide +kernel))) rfl, ⟨by decide, by decide, by decide +kernel⟩⟩
theorem z_X10_layReflectors : Cond.instanceMethod yX10_layReflectors ∈ lw_good ∧ Cond.selects RX10 yX10_layReflectors yX10_layReflectors ∈ lw_good ∧ Cond.initialized RX10 ∈ lw_good ∧ Cond.code yX10_layReflectors cX10_layReflectors 6 none ∈ lw_good ∧ fx_p m_X10_layReflectors 2 := ⟨lw_goodI (tb5 (List.mem_of_getElem? (i := 15) (by decide +kernel))) rfl, lw_goodI (tb0 (List.mem_of_getElem? (i := 19) (by decide +kernel))) rfl, lw_goodI (tb1 (List.mem_of_getElem? (i := 11) (by decide +kernel))) rfl, lw_goodI (tb5 (List.mem_of_getElem? (i := 16) (by decide +kernel))) rfl, ⟨by decide, by decide, by decide +kernel⟩⟩
theorem z_X10_layStitches : Cond.instanceMethod yX10_layStitches ∈ lw_good ∧ Cond.selects RX10 yX10_layStitches yX10_layStitches ∈ lw_good ∧ Cond.initialized RX10 ∈ lw_good ∧ Cond.code yX10_layStitches cX10_layStitches 3 none ∈ lw_good ∧ fx_p m_X10_layStitches 1 := ⟨lw_goodI (tb5 (List.mem_of_getElem? (i := 56) (by decide +kernel))) rfl, lw_goodI (tb0 (List.mem_of_getElem? (i := 26) (by decide +kernel))) rfl, lw_goodI (tb1 (List.mem_of_getElem? (i := 11) (by decide +kernel))) rfl, lw_goodI (tb5 (List.mem_of_getElem? (i := 57) (by decide +kernel))) rfl, ⟨by decide, by decide, by decide +kernel⟩⟩
theorem z_X10_layTrace : Cond.instanceMethod yX10_layTrace ∈ lw_good ∧ Cond.selects RX10 yX10_layTrace yX10_layTrace ∈ lw_good ∧ Cond.initialized RX10 ∈ lw_good ∧ Cond.code yX10_layTrace cX10_layTrace 6 none ∈ lw_good ∧ fx_p m_X10_layTrace 2 := ⟨lw_goodI (tb5 (List.mem_of_getElem? (i := 11) (by decide +kernel))) rfl, lw_goodI (tb0 (List.mem_of_getElem? (i := 18) (by decide +kernel))) rfl, lw_goodI (tb1 (List.mem_of_getElem? (i := 11) (by decide +kernel))) rfl, lw_goodI (tb5 (List.mem_of_getElem? (i := 12) (by decide +kernel))) rfl, ⟨by decide, by decide, by decide +kernel⟩⟩
theorem z_X10_name : Cond.instanceMethod yX10_name ∈ lw_good ∧ Cond.selects RX10 yX10_name yX10_name ∈ lw_good ∧ Cond.initialized RX10 ∈ lw_good ∧ Cond.code yX10_name cX10_name 8 none ∈ lw_good ∧ fx_p m_X10_name 2 := ⟨lw_goodI (tb5 (List.mem_of_getElem? (i := 92) (by decide +kernel))) rfl, lw_goodI (tb0 (List.mem_of_getElem? (i := 33) (by decide +kernel))) rfl, lw_goodI (tb1 (List.mem_of_getElem? (i := 11) (by decide +kernel))) rfl, lw_goodI (tb5 (List.mem_of_getElem? (i := 93) (by decide +kernel))) rfl, ⟨by decide, by decide, by decide +kernel⟩⟩
theorem z_X10_of : Cond.instanceMethod yX10_of ∈ lw_good ∧ Cond.selects RX10 yX10_of yX10_of ∈ lw_good ∧ Cond.initialized RX10 ∈ lw_good ∧ Cond.code yX10_of cX10_of 3 (some .int) ∈ lw_good ∧ fx_p m_X10_of 2 := ⟨lw_goodI (tb5 (List.mem_of_getElem? (i := 96) (by decide +kernel))) rfl, lw_goodI (tb0 (List.mem_of_getElem? (i := 34) (by decide +kernel))) rfl, lw_goodI (tb1 (List.mem_of_getElem? (i := 11) (by decide +kernel))) rfl, lw_goodI (tb5 (List.mem_of_getElem? (i := 97) (by decide +kernel))) rfl, ⟨by decide, by decide, by decide +kernel⟩⟩
theorem z_X10_onRoute : Cond.instanceMethod yX10_onRoute ∈ lw_good ∧ Cond.selects RX10 yX10_onRoute yX10_onRoute ∈ lw_good ∧ Cond.initialized RX10 ∈ lw_good ∧ Cond.code yX10_onRoute cX10_onRoute 4 (some .int) ∈ lw_good ∧ fx_p m_X10_onRoute 1 := ⟨lw_goodI (tb5 (List.mem_of_getElem? (i := 152) (by decide +kernel))) rfl, lw_goodI (tb0 (List.mem_of_getElem? (i := 38) (by decide +kernel))) rfl, lw_goodI (tb1 (List.mem_of_getElem? (i := 11) (by decide +kernel))) rfl, lw_goodI (tb5 (List.mem_of_getElem? (i := 153) (by decide +kernel))) rfl, ⟨by decide, by decide, by decide +kernel⟩⟩
theorem z_X10_placeOf : Cond.instanceMethod yX10_placeOf ∈ lw_good ∧ Cond.selects RX10 yX10_placeOf yX10_placeOf ∈ lw_good ∧ Cond.initialized RX10 ∈ lw_good ∧ Cond.code yX10_placeOf cX10_placeOf 4 (some .int) ∈ lw_good ∧ fx_p m_X10_placeOf 1 := ⟨lw_goodI (tb4 (List.mem_of_getElem? (i := 166) (by decide +kernel))) rfl, lw_goodI (tb0 (List.mem_of_getElem? (i := 12) (by decide +kernel))) rfl, lw_goodI (tb1 (List.mem_of_getElem? (i := 11) (by decide +kernel))) rfl, lw_goodI (tb4 (List.mem_of_getElem? (i := 167) (by decide +kernel))) rfl, ⟨by decide, by decide, by decide +kernel⟩⟩
theorem z_X10_raise : Cond.instanceMethod yX10_raise ∈ lw_good ∧ Cond.selects RX10 yX10_raise yX10_raise ∈ lw_good ∧ Cond.initialized RX10 ∈ lw_good ∧ Cond.code yX10_raise cX10_raise 3 none ∈ lw_good ∧ fx_p m_X10_raise 2 := ⟨lw_goodI (tb5 (List.mem_of_getElem? (i := 27) (by decide +kernel))) rfl, lw_goodI (tb0 (List.mem_of_getElem? (i := 22) (by decide +kernel))) rfl, lw_goodI (tb1 (List.mem_of_getElem? (i := 11) (by decide +kernel))) rfl, lw_goodI (tb5 (List.mem_of_getElem? (i := 28) (by decide +kernel))) rfl, ⟨by decide, by decide, by decide +kernel⟩⟩
theorem z_X10_reach : Cond.instanceMethod yX10_reach ∈ lw_good ∧ Cond.selects RX10 yX10_reach yX10_reach ∈ lw_good ∧ Cond.initialized RX10 ∈ lw_good ∧ Cond.code yX10_reach cX10_reach 4 (some .int) ∈ lw_good ∧ fx_p m_X10_reach 1 := ⟨lw_goodI (tb5 (List.mem_of_getElem? (i := 144) (by decide +kernel))) rfl, lw_goodI (tb0 (List.mem_of_getElem? (i := 37) (by decide +kernel))) rfl, lw_goodI (tb1 (List.mem_of_getElem? (i := 11) (by decide +kernel))) rfl, lw_goodI (tb5 (List.mem_of_getElem? (i := 145) (by decide +kernel))) rfl, ⟨by decide, by decide, by decide +kernel⟩⟩
theorem z_X10_readAll : Cond.instanceMethod yX10_readAll ∈ lw_good ∧ Cond.selects RX10 yX10_readAll yX10_readAll ∈ lw_good ∧ Cond.initialized RX10 ∈ lw_good ∧ Cond.code yX10_readAll cX10_readAll 2 none ∈ lw_good ∧ fx_p m_X10_readAll 0 := ⟨lw_goodI (tb5 (List.mem_of_getElem? (i := 176) (by decide +kernel))) rfl, lw_goodI (tb0 (List.mem_of_getElem? (i := 39) (by decide +kernel))) rfl, lw_goodI (tb1 (List.mem_of_getElem? (i := 11) (by decide +kernel))) rfl, lw_goodI (tb5 (List.mem_of_getElem? (i := 177) (by decide +kernel))) rfl, ⟨by decide, by decide, by decide +kernel⟩⟩
theorem z_X10_readItem : Cond.instanceMethod yX10_readItem ∈ lw_good ∧ Cond.selects RX10 yX10_readItem yX10_readItem ∈ lw_good ∧ Cond.initialized RX10 ∈ lw_good ∧ Cond.code yX10_readItem cX10_readItem 3 none ∈ lw_good ∧ fx_p m_X10_readItem 1 := ⟨lw_goodI (tb5 (List.mem_of_getElem? (i := 184) (by decide +kernel))) rfl, lw_goodI (tb0 (List.mem_of_getElem? (i := 41) (by decide +kernel))) rfl, lw_goodI (tb1 (List.mem_of_getElem? (i := 11) (by decide +kernel))) rfl, lw_goodI (tb5 (List.mem_of_getElem? (i := 185) (by decide +kernel))) rfl, ⟨by decide, by decide, by decide +kernel⟩⟩
theorem z_X10_readNumber : Cond.instanceMethod yX10_readNumber ∈ lw_good ∧ Cond.selects RX10 yX10_readNumber yX10_readNumber ∈ lw_good ∧ Cond.initialized RX10 ∈ lw_good ∧ Cond.code yX10_readNumber cX10_readNumber 5 (some .int) ∈ lw_good ∧ fx_p m_X10_readNumber 2 := ⟨lw_goodI (tb5 (List.mem_of_getElem? (i := 196) (by decide +kernel))) rfl, lw_goodI (tb0 (List.mem_of_getElem? (i := 44) (by decide +kernel))) rfl, lw_goodI (tb1 (List.mem_of_getElem? (i := 11) (by decide +kernel))) rfl, lw_goodI (tb5 (List.mem_of_getElem? (i := 197) (by decide +kernel))) rfl, ⟨by decide, by decide, by decide +kernel⟩⟩
theorem z_X10_reflect : Cond.instanceMethod yX10_reflect ∈ lw_good ∧ Cond.selects RX10 yX10_reflect yX10_reflect ∈ lw_good ∧ Cond.initialized RX10 ∈ lw_good ∧ Cond.code yX10_reflect cX10_reflect 3 none ∈ lw_good ∧ fx_p m_X10_reflect 2 := ⟨lw_goodI (tb5 (List.mem_of_getElem? (i := 19) (by decide +kernel))) rfl, lw_goodI (tb0 (List.mem_of_getElem? (i := 20) (by decide +kernel))) rfl, lw_goodI (tb1 (List.mem_of_getElem? (i := 11) (by decide +kernel))) rfl, lw_goodI (tb5 (List.mem_of_getElem? (i := 20) (by decide +kernel))) rfl, ⟨by decide, by decide, by decide +kernel⟩⟩
theorem z_X10_renew : Cond.instanceMethod yX10_renew ∈ lw_good ∧ Cond.selects RX10 yX10_renew yX10_renew ∈ lw_good ∧ Cond.initialized RX10 ∈ lw_good ∧ Cond.code yX10_renew cX10_renew 4 none ∈ lw_good ∧ fx_p m_X10_renew 3 := ⟨lw_goodI (tb4 (List.mem_of_getElem? (i := 59) (by decide +kernel))) rfl, lw_goodI (tb0 (List.mem_of_getElem? (i := 7) (by decide +kernel))) rfl, lw_goodI (tb1 (List.mem_of_getElem? (i := 11) (by decide +kernel))) rfl, lw_goodI (tb4 (List.mem_of_getElem? (i := 60) (by decide +kernel))) rfl, ⟨by decide, by decide, by decide +kernel⟩⟩
theorem z_X10_scattered : Cond.instanceMethod yX10_scattered ∈ lw_good ∧ Cond.selects RX10 yX10_scattered yX10_scattered ∈ lw_good ∧ Cond.initialized RX10 ∈ lw_good ∧ Cond.code yX10_scattered cX10_scattered 3 (some .int) ∈ lw_good ∧ fx_p m_X10_scattered 2 := ⟨lw_goodI (tb5 (List.mem_of_getElem? (i := 23) (by decide +kernel))) rfl, lw_goodI (tb0 (List.mem_of_getElem? (i := 21) (by decide +kernel))) rfl, lw_goodI (tb1 (List.mem_of_getElem? (i := 11) (by decide +kernel))) rfl, lw_goodI (tb5 (List.mem_of_getElem? (i := 24) (by decide +kernel))) rfl, ⟨by decide, by decide, by decide +kernel⟩⟩
theorem z_X10_sectionOf : Cond.instanceMethod yX10_sectionOf ∈ lw_good ∧ Cond.selects RX10 yX10_sectionOf yX10_sectionOf ∈ lw_good ∧ Cond.initialized RX10 ∈ lw_good ∧ Cond.code yX10_sectionOf cX10_sectionOf 5 (some .int) ∈ lw_good ∧ fx_p m_X10_sectionOf 2 := ⟨lw_goodI (tb4 (List.mem_of_getElem? (i := 236) (by decide +kernel))) rfl, lw_goodI (tb0 (List.mem_of_getElem? (i := 16) (by decide +kernel))) rfl, lw_goodI (tb1 (List.mem_of_getElem? (i := 11) (by decide +kernel))) rfl, lw_goodI (tb4 (List.mem_of_getElem? (i := 237) (by decide +kernel))) rfl, ⟨by decide, by decide, by decide +kernel⟩⟩
theorem z_X10_stitch : Cond.instanceMethod yX10_stitch ∈ lw_good ∧ Cond.selects RX10 yX10_stitch yX10_stitch ∈ lw_good ∧ Cond.initialized RX10 ∈ lw_good ∧ Cond.code yX10_stitch cX10_stitch 5 none ∈ lw_good ∧ fx_p m_X10_stitch 2 := ⟨lw_goodI (tb5 (List.mem_of_getElem? (i := 60) (by decide +kernel))) rfl, lw_goodI (tb0 (List.mem_of_getElem? (i := 27) (by decide +kernel))) rfl, lw_goodI (tb1 (List.mem_of_getElem? (i := 11) (by decide +kernel))) rfl, lw_goodI (tb5 (List.mem_of_getElem? (i := 61) (by decide +kernel))) rfl, ⟨by decide, by decide, by decide +kernel⟩⟩
theorem z_X10_want : Cond.instanceMethod yX10_want ∈ lw_good ∧ Cond.selects RX10 yX10_want yX10_want ∈ lw_good ∧ Cond.initialized RX10 ∈ lw_good ∧ Cond.code yX10_want cX10_want 2 none ∈ lw_good ∧ fx_p m_X10_want 1 := ⟨lw_goodI (tb5 (List.mem_of_getElem? (i := 200) (by decide +kernel))) rfl, lw_goodI (tb0 (List.mem_of_getElem? (i := 45) (by decide +kernel))) rfl, lw_goodI (tb1 (List.mem_of_getElem? (i := 11) (by decide +kernel))) rfl, lw_goodI (tb5 (List.mem_of_getElem? (i := 201) (by decide +kernel))) rfl, ⟨by decide, by decide, by decide +kernel⟩⟩
theorem z_X10_whole : Cond.instanceMethod yX10_whole ∈ lw_good ∧ Cond.selects RX10 yX10_whole yX10_whole ∈ lw_good ∧ Cond.initialized RX10 ∈ lw_good ∧ Cond.code yX10_whole cX10_whole 1 (some .int) ∈ lw_good ∧ fx_p m_X10_whole 0 := ⟨lw_goodI (tb4 (List.mem_of_getElem? (i := 162) (by decide +kernel))) rfl, lw_goodI (tb0 (List.mem_of_getElem? (i := 11) (by decide +kernel))) rfl, lw_goodI (tb1 (List.mem_of_getElem? (i := 11) (by decide +kernel))) rfl, lw_goodI (tb4 (List.mem_of_getElem? (i := 163) (by decide +kernel))) rfl, ⟨by decide, by decide, by decide +kernel⟩⟩
theorem z_X1_bouncesFrom : Cond.instanceMethod yX1_bouncesFrom ∈ lw_good ∧ Cond.selects RX1 yX1_bouncesFrom yX1_bouncesFrom ∈ lw_good ∧ Cond.initialized RX1 ∈ lw_good ∧ Cond.code yX1_bouncesFrom cX1_bouncesFrom 2 (some .boolean) ∈ lw_good ∧ fx_p m_X1_bouncesFrom 1 := ⟨lw_goodI (tb3 (List.mem_of_getElem? (i := 127) (by decide +kernel))) rfl, lw_goodI (tb3 (List.mem_of_getElem? (i := 128) (by decide +kernel))) rfl, lw_goodI (tb1 (List.mem_of_getElem? (i := 9) (by decide +kernel))) rfl, lw_goodI (tb3 (List.mem_of_getElem? (i := 129) (by decide +kernel))) rfl, ⟨by decide, by decide, by decide +kernel⟩⟩
theorem z_X1_deviation : Cond.static yX1_deviation ∈ lw_good ∧ Cond.initialized RX1 ∈ lw_good ∧ Cond.code yX1_deviation cX1_deviation 3 (some .int) ∈ lw_good ∧ fx_p m_X1_deviation 3 := ⟨lw_goodI (tb3 (List.mem_of_getElem? (i := 104) (by decide +kernel))) rfl, lw_goodI (tb1 (List.mem_of_getElem? (i := 9) (by decide +kernel))) rfl, lw_goodI (tb3 (List.mem_of_getElem? (i := 105) (by decide +kernel))) rfl, ⟨by decide, by decide, by decide +kernel⟩⟩
theorem z_X1_find : Cond.instanceMethod yX1_find ∈ lw_good ∧ Cond.selects RX1 yX1_find yX1_find ∈ lw_good ∧ Cond.initialized RX1 ∈ lw_good ∧ Cond.code yX1_find cX1_find 7 none ∈ lw_good ∧ fx_p m_X1_find 3 := ⟨lw_goodI (tb3 (List.mem_of_getElem? (i := 97) (by decide +kernel))) rfl, lw_goodI (tb3 (List.mem_of_getElem? (i := 98) (by decide +kernel))) rfl, lw_goodI (tb1 (List.mem_of_getElem? (i := 9) (by decide +kernel))) rfl, lw_goodI (tb3 (List.mem_of_getElem? (i := 99) (by decide +kernel))) rfl, ⟨by decide, by decide, by decide +kernel⟩⟩
theorem z_X1_firstEnd : Cond.instanceMethod yX1_firstEnd ∈ lw_good ∧ Cond.selects RX1 yX1_firstEnd yX1_firstEnd ∈ lw_good ∧ Cond.initialized RX1 ∈ lw_good ∧ Cond.code yX1_firstEnd cX1_firstEnd 2 (some .int) ∈ lw_good ∧ fx_p m_X1_firstEnd 0 := ⟨lw_goodI (tb3 (List.mem_of_getElem? (i := 145) (by decide +kernel))) rfl, lw_goodI (tb3 (List.mem_of_getElem? (i := 146) (by decide +kernel))) rfl, lw_goodI (tb1 (List.mem_of_getElem? (i := 9) (by decide +kernel))) rfl, lw_goodI (tb3 (List.mem_of_getElem? (i := 147) (by decide +kernel))) rfl, ⟨by decide, by decide, by decide +kernel⟩⟩
theorem z_X1_ghostMirror : Cond.instanceMethod yX1_ghostMirror ∈ lw_good ∧ Cond.selects RX1 yX1_ghostMirror yX1_ghostMirror ∈ lw_good ∧ Cond.initialized RX1 ∈ lw_good ∧ Cond.code yX1_ghostMirror cX1_ghostMirror 6 (some .int) ∈ lw_good ∧ fx_p m_X1_ghostMirror 1 := ⟨lw_goodI (tb3 (List.mem_of_getElem? (i := 119) (by decide +kernel))) rfl, lw_goodI (tb3 (List.mem_of_getElem? (i := 120) (by decide +kernel))) rfl, lw_goodI (tb1 (List.mem_of_getElem? (i := 9) (by decide +kernel))) rfl, lw_goodI (tb3 (List.mem_of_getElem? (i := 121) (by decide +kernel))) rfl, ⟨by decide, by decide, by decide +kernel⟩⟩
theorem z_X1_ghostOrigin : Cond.instanceMethod yX1_ghostOrigin ∈ lw_good ∧ Cond.selects RX1 yX1_ghostOrigin yX1_ghostOrigin ∈ lw_good ∧ Cond.initialized RX1 ∈ lw_good ∧ Cond.code yX1_ghostOrigin cX1_ghostOrigin 3 (some .int) ∈ lw_good ∧ fx_p m_X1_ghostOrigin 1 := ⟨lw_goodI (tb3 (List.mem_of_getElem? (i := 132) (by decide +kernel))) rfl, lw_goodI (tb3 (List.mem_of_getElem? (i := 133) (by decide +kernel))) rfl, lw_goodI (tb1 (List.mem_of_getElem? (i := 9) (by decide +kernel))) rfl, lw_goodI (tb3 (List.mem_of_getElem? (i := 134) (by decide +kernel))) rfl, ⟨by decide, by decide, by decide +kernel⟩⟩
theorem z_X1_isInside : Cond.instanceMethod yX1_isInside ∈ lw_good ∧ Cond.selects RX1 yX1_isInside yX1_isInside ∈ lw_good ∧ Cond.initialized RX1 ∈ lw_good ∧ Cond.code yX1_isInside cX1_isInside 2 (some .boolean) ∈ lw_good ∧ fx_p m_X1_isInside 1 := ⟨lw_goodI (tb3 (List.mem_of_getElem? (i := 161) (by decide +kernel))) rfl, lw_goodI (tb3 (List.mem_of_getElem? (i := 162) (by decide +kernel))) rfl, lw_goodI (tb1 (List.mem_of_getElem? (i := 9) (by decide +kernel))) rfl, lw_goodI (tb3 (List.mem_of_getElem? (i := 163) (by decide +kernel))) rfl, ⟨by decide, by decide, by decide +kernel⟩⟩
theorem z_X1_isMarked : Cond.static yX1_isMarked ∈ lw_good ∧ Cond.initialized RX1 ∈ lw_good ∧ Cond.code yX1_isMarked cX1_isMarked 5 (some .boolean) ∈ lw_good ∧ fx_p m_X1_isMarked 4 := ⟨lw_goodI (tb3 (List.mem_of_getElem? (i := 101) (by decide +kernel))) rfl, lw_goodI (tb1 (List.mem_of_getElem? (i := 9) (by decide +kernel))) rfl, lw_goodI (tb3 (List.mem_of_getElem? (i := 102) (by decide +kernel))) rfl, ⟨by decide, by decide, by decide +kernel⟩⟩
theorem z_X1_keep : Cond.instanceMethod yX1_keep ∈ lw_good ∧ Cond.selects RX1 yX1_keep yX1_keep ∈ lw_good ∧ Cond.initialized RX1 ∈ lw_good ∧ Cond.code yX1_keep cX1_keep 8 none ∈ lw_good ∧ fx_p m_X1_keep 4 := ⟨lw_goodI (tb3 (List.mem_of_getElem? (i := 108) (by decide +kernel))) rfl, lw_goodI (tb3 (List.mem_of_getElem? (i := 109) (by decide +kernel))) rfl, lw_goodI (tb1 (List.mem_of_getElem? (i := 9) (by decide +kernel))) rfl, lw_goodI (tb3 (List.mem_of_getElem? (i := 110) (by decide +kernel))) rfl, ⟨by decide, by decide, by decide +kernel⟩⟩
theorem z_X1_lossOf : Cond.instanceMethod yX1_lossOf ∈ lw_good ∧ Cond.selects RX1 yX1_lossOf yX1_lossOf ∈ lw_good ∧ Cond.initialized RX1 ∈ lw_good ∧ Cond.code yX1_lossOf cX1_lossOf 2 (some .int) ∈ lw_good ∧ fx_p m_X1_lossOf 1 := ⟨lw_goodI (tb3 (List.mem_of_getElem? (i := 182) (by decide +kernel))) rfl, lw_goodI (tb3 (List.mem_of_getElem? (i := 183) (by decide +kernel))) rfl, lw_goodI (tb1 (List.mem_of_getElem? (i := 9) (by decide +kernel))) rfl, lw_goodI (tb3 (List.mem_of_getElem? (i := 184) (by decide +kernel))) rfl, ⟨by decide, by decide, by decide +kernel⟩⟩
theorem z_X1_startOf : Cond.instanceMethod yX1_startOf ∈ lw_good ∧ Cond.selects RX1 yX1_startOf yX1_startOf ∈ lw_good ∧ Cond.initialized RX1 ∈ lw_good ∧ Cond.code yX1_startOf cX1_startOf 2 (some .int) ∈ lw_good ∧ fx_p m_X1_startOf 1 := ⟨lw_goodI (tb3 (List.mem_of_getElem? (i := 123) (by decide +kernel))) rfl, lw_goodI (tb3 (List.mem_of_getElem? (i := 124) (by decide +kernel))) rfl, lw_goodI (tb1 (List.mem_of_getElem? (i := 9) (by decide +kernel))) rfl, lw_goodI (tb3 (List.mem_of_getElem? (i := 125) (by decide +kernel))) rfl, ⟨by decide, by decide, by decide +kernel⟩⟩
theorem z_X2_append : Cond.instanceMethod yX2_append ∈ lw_good ∧ Cond.selects RX2 yX2_append yX2_append ∈ lw_good ∧ Cond.initialized RX2 ∈ lw_good ∧ Cond.code yX2_append cX2_append 4 none ∈ lw_good ∧ fx_p m_X2_append 3 := ⟨lw_goodI (tb1 (List.mem_of_getElem? (i := 131) (by decide +kernel))) rfl, lw_goodI (tb1 (List.mem_of_getElem? (i := 132) (by decide +kernel))) rfl, lw_goodI (tb1 (List.mem_of_getElem? (i := 3) (by decide +kernel))) rfl, lw_goodI (tb1 (List.mem_of_getElem? (i := 133) (by decide +kernel))) rfl, ⟨by decide, by decide, by decide +kernel⟩⟩
theorem z_X2_appendBend : Cond.instanceMethod yX2_appendBend ∈ lw_good ∧ Cond.selects RX2 yX2_appendBend yX2_appendBend ∈ lw_good ∧ Cond.initialized RX2 ∈ lw_good ∧ Cond.code yX2_appendBend cX2_appendBend 3 none ∈ lw_good ∧ fx_p m_X2_appendBend 2 := ⟨lw_goodI (tb2 (List.mem_of_getElem? (i := 164) (by decide +kernel))) rfl, lw_goodI (tb2 (List.mem_of_getElem? (i := 165) (by decide +kernel))) rfl, lw_goodI (tb1 (List.mem_of_getElem? (i := 3) (by decide +kernel))) rfl, lw_goodI (tb2 (List.mem_of_getElem? (i := 166) (by decide +kernel))) rfl, ⟨by decide, by decide, by decide +kernel⟩⟩
theorem z_X2_clear : Cond.instanceMethod yX2_clear ∈ lw_good ∧ Cond.selects RX2 yX2_clear yX2_clear ∈ lw_good ∧ Cond.initialized RX2 ∈ lw_good ∧ Cond.code yX2_clear cX2_clear 1 none ∈ lw_good ∧ fx_p m_X2_clear 0 := ⟨lw_goodI (tb2 (List.mem_of_getElem? (i := 146) (by decide +kernel))) rfl, lw_goodI (tb2 (List.mem_of_getElem? (i := 147) (by decide +kernel))) rfl, lw_goodI (tb1 (List.mem_of_getElem? (i := 3) (by decide +kernel))) rfl, lw_goodI (tb2 (List.mem_of_getElem? (i := 148) (by decide +kernel))) rfl, ⟨by decide, by decide, by decide +kernel⟩⟩
theorem z_X2_copyFrom : Cond.instanceMethod yX2_copyFrom ∈ lw_good ∧ Cond.selects RX2 yX2_copyFrom yX2_copyFrom ∈ lw_good ∧ Cond.initialized RX2 ∈ lw_good ∧ Cond.code yX2_copyFrom cX2_copyFrom 2 none ∈ lw_good ∧ fx_p m_X2_copyFrom 1 := ⟨lw_goodI (tb2 (List.mem_of_getElem? (i := 127) (by decide +kernel))) rfl, lw_goodI (tb2 (List.mem_of_getElem? (i := 128) (by decide +kernel))) rfl, lw_goodI (tb1 (List.mem_of_getElem? (i := 3) (by decide +kernel))) rfl, lw_goodI (tb2 (List.mem_of_getElem? (i := 129) (by decide +kernel))) rfl, ⟨by decide, by decide, by decide +kernel⟩⟩
theorem z_X2_dropBend : Cond.instanceMethod yX2_dropBend ∈ lw_good ∧ Cond.selects RX2 yX2_dropBend yX2_dropBend ∈ lw_good ∧ Cond.initialized RX2 ∈ lw_good ∧ Cond.code yX2_dropBend cX2_dropBend 3 none ∈ lw_good ∧ fx_p m_X2_dropBend 1 := ⟨lw_goodI (tb2 (List.mem_of_getElem? (i := 172) (by decide +kernel))) rfl, lw_goodI (tb2 (List.mem_of_getElem? (i := 173) (by decide +kernel))) rfl, lw_goodI (tb1 (List.mem_of_getElem? (i := 3) (by decide +kernel))) rfl, lw_goodI (tb2 (List.mem_of_getElem? (i := 174) (by decide +kernel))) rfl, ⟨by decide, by decide, by decide +kernel⟩⟩
theorem z_X2_placeOfJoint : Cond.instanceMethod yX2_placeOfJoint ∈ lw_good ∧ Cond.selects RX2 yX2_placeOfJoint yX2_placeOfJoint ∈ lw_good ∧ Cond.initialized RX2 ∈ lw_good ∧ Cond.code yX2_placeOfJoint cX2_placeOfJoint 4 (some .int) ∈ lw_good ∧ fx_p m_X2_placeOfJoint 1 := ⟨lw_goodI (tb2 (List.mem_of_getElem? (i := 111) (by decide +kernel))) rfl, lw_goodI (tb2 (List.mem_of_getElem? (i := 112) (by decide +kernel))) rfl, lw_goodI (tb1 (List.mem_of_getElem? (i := 3) (by decide +kernel))) rfl, lw_goodI (tb2 (List.mem_of_getElem? (i := 113) (by decide +kernel))) rfl, ⟨by decide, by decide, by decide +kernel⟩⟩
theorem z_X2_totalLength : Cond.instanceMethod yX2_totalLength ∈ lw_good ∧ Cond.selects RX2 yX2_totalLength yX2_totalLength ∈ lw_good ∧ Cond.initialized RX2 ∈ lw_good ∧ Cond.code yX2_totalLength cX2_totalLength 1 (some .int) ∈ lw_good ∧ fx_p m_X2_totalLength 0 := ⟨lw_goodI (tb2 (List.mem_of_getElem? (i := 107) (by decide +kernel))) rfl, lw_goodI (tb2 (List.mem_of_getElem? (i := 108) (by decide +kernel))) rfl, lw_goodI (tb1 (List.mem_of_getElem? (i := 3) (by decide +kernel))) rfl, lw_goodI (tb2 (List.mem_of_getElem? (i := 109) (by decide +kernel))) rfl, ⟨by decide, by decide, by decide +kernel⟩⟩
theorem z_X3_keep : Cond.instanceMethod yX3_keep ∈ lw_good ∧ Cond.selects RX3 yX3_keep yX3_keep ∈ lw_good ∧ Cond.initialized RX3 ∈ lw_good ∧ Cond.code yX3_keep cX3_keep 2 none ∈ lw_good ∧ fx_p m_X3_keep 1 := ⟨lw_goodI (tb2 (List.mem_of_getElem? (i := 119) (by decide +kernel))) rfl, lw_goodI (tb2 (List.mem_of_getElem? (i := 120) (by decide +kernel))) rfl, lw_goodI (tb1 (List.mem_of_getElem? (i := 5) (by decide +kernel))) rfl, lw_goodI (tb2 (List.mem_of_getElem? (i := 121) (by decide +kernel))) rfl, ⟨by decide, by decide, by decide +kernel⟩⟩
theorem z_X3_restoreLatest : Cond.instanceMethod yX3_restoreLatest ∈ lw_good ∧ Cond.selects RX3 yX3_restoreLatest yX3_restoreLatest ∈ lw_good ∧ Cond.initialized RX3 ∈ lw_good ∧ Cond.code yX3_restoreLatest cX3_restoreLatest 2 none ∈ lw_good ∧ fx_p m_X3_restoreLatest 1 := ⟨lw_goodI (tb2 (List.mem_of_getElem? (i := 192) (by decide +kernel))) rfl, lw_goodI (tb2 (List.mem_of_getElem? (i := 193) (by decide +kernel))) rfl, lw_goodI (tb1 (List.mem_of_getElem? (i := 5) (by decide +kernel))) rfl, lw_goodI (tb2 (List.mem_of_getElem? (i := 194) (by decide +kernel))) rfl, ⟨by decide, by decide, by decide +kernel⟩⟩
theorem z_X4_keep : Cond.instanceMethod yX4_keep ∈ lw_good ∧ Cond.selects RX4 yX4_keep yX4_keep ∈ lw_good ∧ Cond.initialized RX4 ∈ lw_good ∧ Cond.code yX4_keep cX4_keep 3 none ∈ lw_good ∧ fx_p m_X4_keep 2 := ⟨lw_goodI (tb3 (List.mem_of_getElem? (i := 174) (by decide +kernel))) rfl, lw_goodI (tb3 (List.mem_of_getElem? (i := 175) (by decide +kernel))) rfl, lw_goodI (tb1 (List.mem_of_getElem? (i := 7) (by decide +kernel))) rfl, lw_goodI (tb3 (List.mem_of_getElem? (i := 176) (by decide +kernel))) rfl, ⟨by decide, by decide, by decide +kernel⟩⟩
theorem z_X4_pair : Cond.instanceMethod yX4_pair ∈ lw_good ∧ Cond.selects RX4 yX4_pair yX4_pair ∈ lw_good ∧ Cond.initialized RX4 ∈ lw_good ∧ Cond.code yX4_pair cX4_pair 7 none ∈ lw_good ∧ fx_p m_X4_pair 4 := ⟨lw_goodI (tb3 (List.mem_of_getElem? (i := 157) (by decide +kernel))) rfl, lw_goodI (tb3 (List.mem_of_getElem? (i := 158) (by decide +kernel))) rfl, lw_goodI (tb1 (List.mem_of_getElem? (i := 7) (by decide +kernel))) rfl, lw_goodI (tb3 (List.mem_of_getElem? (i := 159) (by decide +kernel))) rfl, ⟨by decide, by decide, by decide +kernel⟩⟩
theorem z_X4_partner : Cond.instanceMethod yX4_partner ∈ lw_good ∧ Cond.selects RX4 yX4_partner yX4_partner ∈ lw_good ∧ Cond.initialized RX4 ∈ lw_good ∧ Cond.code yX4_partner cX4_partner 7 (some .int) ∈ lw_good ∧ fx_p m_X4_partner 4 := ⟨lw_goodI (tb3 (List.mem_of_getElem? (i := 166) (by decide +kernel))) rfl, lw_goodI (tb3 (List.mem_of_getElem? (i := 167) (by decide +kernel))) rfl, lw_goodI (tb1 (List.mem_of_getElem? (i := 7) (by decide +kernel))) rfl, lw_goodI (tb3 (List.mem_of_getElem? (i := 168) (by decide +kernel))) rfl, ⟨by decide, by decide, by decide +kernel⟩⟩
theorem z_X5_copyFrom : Cond.instanceMethod yX5_copyFrom ∈ lw_good ∧ Cond.selects RX5 yX5_copyFrom yX5_copyFrom ∈ lw_good ∧ Cond.initialized RX5 ∈ lw_good ∧ Cond.code yX5_copyFrom cX5_copyFrom 2 none ∈ lw_good ∧ fx_p m_X5_copyFrom 1 := ⟨lw_goodI (tb2 (List.mem_of_getElem? (i := 123) (by decide +kernel))) rfl, lw_goodI (tb2 (List.mem_of_getElem? (i := 124) (by decide +kernel))) rfl, lw_goodI (tb1 (List.mem_of_getElem? (i := 2) (by decide +kernel))) rfl, lw_goodI (tb2 (List.mem_of_getElem? (i := 125) (by decide +kernel))) rfl, ⟨by decide, by decide, by decide +kernel⟩⟩
theorem z_X6_append : Cond.instanceMethod yX6_append ∈ lw_good ∧ Cond.selects RX6 yX6_append yX6_append ∈ lw_good ∧ Cond.initialized RX6 ∈ lw_good ∧ Cond.code yX6_append cX6_append 2 none ∈ lw_good ∧ fx_p m_X6_append 1 := ⟨lw_goodI (tb4 (List.mem_of_getElem? (i := 3) (by decide +kernel))) rfl, lw_goodI (tb4 (List.mem_of_getElem? (i := 4) (by decide +kernel))) rfl, lw_goodI (tb1 (List.mem_of_getElem? (i := 6) (by decide +kernel))) rfl, lw_goodI (tb4 (List.mem_of_getElem? (i := 5) (by decide +kernel))) rfl, ⟨by decide, by decide, by decide +kernel⟩⟩
theorem z_X6_blame : Cond.instanceMethod yX6_blame ∈ lw_good ∧ Cond.selects RX6 yX6_blame yX6_blame ∈ lw_good ∧ Cond.initialized RX6 ∈ lw_good ∧ Cond.code yX6_blame cX6_blame 3 none ∈ lw_good ∧ fx_p m_X6_blame 2 := ⟨lw_goodI (tb4 (List.mem_of_getElem? (i := 36) (by decide +kernel))) rfl, lw_goodI (tb4 (List.mem_of_getElem? (i := 37) (by decide +kernel))) rfl, lw_goodI (tb1 (List.mem_of_getElem? (i := 6) (by decide +kernel))) rfl, lw_goodI (tb4 (List.mem_of_getElem? (i := 38) (by decide +kernel))) rfl, ⟨by decide, by decide, by decide +kernel⟩⟩
theorem z_X6_codeAt : Cond.instanceMethod yX6_codeAt ∈ lw_good ∧ Cond.selects RX6 yX6_codeAt yX6_codeAt ∈ lw_good ∧ Cond.initialized RX6 ∈ lw_good ∧ Cond.code yX6_codeAt cX6_codeAt 2 (some .int) ∈ lw_good ∧ fx_p m_X6_codeAt 1 := ⟨lw_goodI (tb4 (List.mem_of_getElem? (i := 32) (by decide +kernel))) rfl, lw_goodI (tb4 (List.mem_of_getElem? (i := 33) (by decide +kernel))) rfl, lw_goodI (tb1 (List.mem_of_getElem? (i := 6) (by decide +kernel))) rfl, lw_goodI (tb4 (List.mem_of_getElem? (i := 34) (by decide +kernel))) rfl, ⟨by decide, by decide, by decide +kernel⟩⟩
theorem z_X6_isDigit : Cond.instanceMethod yX6_isDigit ∈ lw_good ∧ Cond.selects RX6 yX6_isDigit yX6_isDigit ∈ lw_good ∧ Cond.initialized RX6 ∈ lw_good ∧ Cond.code yX6_isDigit cX6_isDigit 2 (some .boolean) ∈ lw_good ∧ fx_p m_X6_isDigit 1 := ⟨lw_goodI (tb4 (List.mem_of_getElem? (i := 28) (by decide +kernel))) rfl, lw_goodI (tb4 (List.mem_of_getElem? (i := 29) (by decide +kernel))) rfl, lw_goodI (tb1 (List.mem_of_getElem? (i := 6) (by decide +kernel))) rfl, lw_goodI (tb4 (List.mem_of_getElem? (i := 30) (by decide +kernel))) rfl, ⟨by decide, by decide, by decide +kernel⟩⟩
theorem z_X6_readInto : Cond.instanceMethod yX6_readInto ∈ lw_good ∧ Cond.selects RX6 yX6_readInto yX6_readInto ∈ lw_good ∧ Cond.initialized RX6 ∈ lw_good ∧ Cond.code yX6_readInto cX6_readInto 3 (some .boolean) ∈ lw_good ∧ fx_p m_X6_readInto 1 := ⟨lw_goodI (tb4 (List.mem_of_getElem? (i := 15) (by decide +kernel))) rfl, lw_goodI (tb4 (List.mem_of_getElem? (i := 16) (by decide +kernel))) rfl, lw_goodI (tb1 (List.mem_of_getElem? (i := 6) (by decide +kernel))) rfl, lw_goodI (tb4 (List.mem_of_getElem? (i := 17) (by decide +kernel))) rfl, ⟨by decide, by decide, by decide +kernel⟩⟩
theorem z_X6_readItem : Cond.instanceMethod yX6_readItem ∈ lw_good ∧ Cond.selects RX6 yX6_readItem yX6_readItem ∈ lw_good ∧ Cond.initialized RX6 ∈ lw_good ∧ Cond.code yX6_readItem cX6_readItem 6 (some .boolean) ∈ lw_good ∧ fx_p m_X6_readItem 1 := ⟨lw_goodI (tb4 (List.mem_of_getElem? (i := 20) (by decide +kernel))) rfl, lw_goodI (tb4 (List.mem_of_getElem? (i := 21) (by decide +kernel))) rfl, lw_goodI (tb1 (List.mem_of_getElem? (i := 6) (by decide +kernel))) rfl, lw_goodI (tb4 (List.mem_of_getElem? (i := 22) (by decide +kernel))) rfl, ⟨by decide, by decide, by decide +kernel⟩⟩
theorem z_X6_readNumber : Cond.instanceMethod yX6_readNumber ∈ lw_good ∧ Cond.selects RX6 yX6_readNumber yX6_readNumber ∈ lw_good ∧ Cond.initialized RX6 ∈ lw_good ∧ Cond.code yX6_readNumber cX6_readNumber 5 (some .int) ∈ lw_good ∧ fx_p m_X6_readNumber 2 := ⟨lw_goodI (tb4 (List.mem_of_getElem? (i := 24) (by decide +kernel))) rfl, lw_goodI (tb4 (List.mem_of_getElem? (i := 25) (by decide +kernel))) rfl, lw_goodI (tb1 (List.mem_of_getElem? (i := 6) (by decide +kernel))) rfl, lw_goodI (tb4 (List.mem_of_getElem? (i := 26) (by decide +kernel))) rfl, ⟨by decide, by decide, by decide +kernel⟩⟩
theorem z_X6_readSign : Cond.instanceMethod yX6_readSign ∈ lw_good ∧ Cond.selects RX6 yX6_readSign yX6_readSign ∈ lw_good ∧ Cond.initialized RX6 ∈ lw_good ∧ Cond.code yX6_readSign cX6_readSign 2 (some .boolean) ∈ lw_good ∧ fx_p m_X6_readSign 1 := ⟨lw_goodI (tb4 (List.mem_of_getElem? (i := 41) (by decide +kernel))) rfl, lw_goodI (tb4 (List.mem_of_getElem? (i := 42) (by decide +kernel))) rfl, lw_goodI (tb1 (List.mem_of_getElem? (i := 6) (by decide +kernel))) rfl, lw_goodI (tb4 (List.mem_of_getElem? (i := 43) (by decide +kernel))) rfl, ⟨by decide, by decide, by decide +kernel⟩⟩
theorem z_X7_addGhost : Cond.instanceMethod yX7_addGhost ∈ lw_good ∧ Cond.selects RX7 yX7_addGhost yX7_addGhost ∈ lw_good ∧ Cond.initialized RX7 ∈ lw_good ∧ Cond.code yX7_addGhost cX7_addGhost 10 none ∈ lw_good ∧ fx_p m_X7_addGhost 3 := ⟨lw_goodI (tb3 (List.mem_of_getElem? (i := 58) (by decide +kernel))) rfl, lw_goodI (tb3 (List.mem_of_getElem? (i := 59) (by decide +kernel))) rfl, lw_goodI (tb1 (List.mem_of_getElem? (i := 10) (by decide +kernel))) rfl, lw_goodI (tb3 (List.mem_of_getElem? (i := 60) (by decide +kernel))) rfl, ⟨by decide, by decide, by decide +kernel⟩⟩
theorem z_X7_addReflection : Cond.instanceMethod yX7_addReflection ∈ lw_good ∧ Cond.selects RX7 yX7_addReflection yX7_addReflection ∈ lw_good ∧ Cond.initialized RX7 ∈ lw_good ∧ Cond.code yX7_addReflection cX7_addReflection 8 none ∈ lw_good ∧ fx_p m_X7_addReflection 2 := ⟨lw_goodI (tb3 (List.mem_of_getElem? (i := 49) (by decide +kernel))) rfl, lw_goodI (tb3 (List.mem_of_getElem? (i := 50) (by decide +kernel))) rfl, lw_goodI (tb1 (List.mem_of_getElem? (i := 10) (by decide +kernel))) rfl, lw_goodI (tb3 (List.mem_of_getElem? (i := 51) (by decide +kernel))) rfl, ⟨by decide, by decide, by decide +kernel⟩⟩
theorem z_X7_at : Cond.instanceMethod yX7_at ∈ lw_good ∧ Cond.selects RX7 yX7_at yX7_at ∈ lw_good ∧ Cond.initialized RX7 ∈ lw_good ∧ Cond.code yX7_at cX7_at 2 (some .int) ∈ lw_good ∧ fx_p m_X7_at 1 := ⟨lw_goodI (tb3 (List.mem_of_getElem? (i := 63) (by decide +kernel))) rfl, lw_goodI (tb3 (List.mem_of_getElem? (i := 64) (by decide +kernel))) rfl, lw_goodI (tb1 (List.mem_of_getElem? (i := 10) (by decide +kernel))) rfl, lw_goodI (tb3 (List.mem_of_getElem? (i := 65) (by decide +kernel))) rfl, ⟨by decide, by decide, by decide +kernel⟩⟩
theorem z_X7_compute : Cond.instanceMethod yX7_compute ∈ lw_good ∧ Cond.selects RX7 yX7_compute yX7_compute ∈ lw_good ∧ Cond.initialized RX7 ∈ lw_good ∧ Cond.code yX7_compute cX7_compute 5 none ∈ lw_good ∧ fx_p m_X7_compute 2 := ⟨lw_goodI (tb3 (List.mem_of_getElem? (i := 36) (by decide +kernel))) rfl, lw_goodI (tb3 (List.mem_of_getElem? (i := 37) (by decide +kernel))) rfl, lw_goodI (tb1 (List.mem_of_getElem? (i := 10) (by decide +kernel))) rfl, lw_goodI (tb3 (List.mem_of_getElem? (i := 38) (by decide +kernel))) rfl, ⟨by decide, by decide, by decide +kernel⟩⟩
theorem z_X7_levelBefore : Cond.instanceMethod yX7_levelBefore ∈ lw_good ∧ Cond.selects RX7 yX7_levelBefore yX7_levelBefore ∈ lw_good ∧ Cond.initialized RX7 ∈ lw_good ∧ Cond.code yX7_levelBefore cX7_levelBefore 3 (some .int) ∈ lw_good ∧ fx_p m_X7_levelBefore 2 := ⟨lw_goodI (tb3 (List.mem_of_getElem? (i := 53) (by decide +kernel))) rfl, lw_goodI (tb3 (List.mem_of_getElem? (i := 54) (by decide +kernel))) rfl, lw_goodI (tb1 (List.mem_of_getElem? (i := 10) (by decide +kernel))) rfl, lw_goodI (tb3 (List.mem_of_getElem? (i := 55) (by decide +kernel))) rfl, ⟨by decide, by decide, by decide +kernel⟩⟩
theorem z_X7_raiseTo : Cond.instanceMethod yX7_raiseTo ∈ lw_good ∧ Cond.selects RX7 yX7_raiseTo yX7_raiseTo ∈ lw_good ∧ Cond.initialized RX7 ∈ lw_good ∧ Cond.code yX7_raiseTo cX7_raiseTo 3 none ∈ lw_good ∧ fx_p m_X7_raiseTo 2 := ⟨lw_goodI (tb3 (List.mem_of_getElem? (i := 45) (by decide +kernel))) rfl, lw_goodI (tb3 (List.mem_of_getElem? (i := 46) (by decide +kernel))) rfl, lw_goodI (tb1 (List.mem_of_getElem? (i := 10) (by decide +kernel))) rfl, lw_goodI (tb3 (List.mem_of_getElem? (i := 47) (by decide +kernel))) rfl, ⟨by decide, by decide, by decide +kernel⟩⟩
theorem z_X8_addReflector : Cond.instanceMethod yX8_addReflector ∈ lw_good ∧ Cond.selects RX8 yX8_addReflector yX8_addReflector ∈ lw_good ∧ Cond.initialized RX8 ∈ lw_good ∧ Cond.code yX8_addReflector cX8_addReflector 3 none ∈ lw_good ∧ fx_p m_X8_addReflector 2 := ⟨lw_goodI (tb3 (List.mem_of_getElem? (i := 9) (by decide +kernel))) rfl, lw_goodI (tb3 (List.mem_of_getElem? (i := 10) (by decide +kernel))) rfl, lw_goodI (tb1 (List.mem_of_getElem? (i := 8) (by decide +kernel))) rfl, lw_goodI (tb3 (List.mem_of_getElem? (i := 11) (by decide +kernel))) rfl, ⟨by decide, by decide, by decide +kernel⟩⟩
theorem z_X8_distanceOf : Cond.instanceMethod yX8_distanceOf ∈ lw_good ∧ Cond.selects RX8 yX8_distanceOf yX8_distanceOf ∈ lw_good ∧ Cond.initialized RX8 ∈ lw_good ∧ Cond.code yX8_distanceOf cX8_distanceOf 2 (some .int) ∈ lw_good ∧ fx_p m_X8_distanceOf 1 := ⟨lw_goodI (tb2 (List.mem_of_getElem? (i := 229) (by decide +kernel))) rfl, lw_goodI (tb2 (List.mem_of_getElem? (i := 230) (by decide +kernel))) rfl, lw_goodI (tb1 (List.mem_of_getElem? (i := 8) (by decide +kernel))) rfl, lw_goodI (tb2 (List.mem_of_getElem? (i := 231) (by decide +kernel))) rfl, ⟨by decide, by decide, by decide +kernel⟩⟩
theorem z_X8_levelAt : Cond.instanceMethod yX8_levelAt ∈ lw_good ∧ Cond.selects RX8 yX8_levelAt yX8_levelAt ∈ lw_good ∧ Cond.initialized RX8 ∈ lw_good ∧ Cond.code yX8_levelAt cX8_levelAt 2 (some .int) ∈ lw_good ∧ fx_p m_X8_levelAt 1 := ⟨lw_goodI (tb3 (List.mem_of_getElem? (i := 41) (by decide +kernel))) rfl, lw_goodI (tb3 (List.mem_of_getElem? (i := 42) (by decide +kernel))) rfl, lw_goodI (tb1 (List.mem_of_getElem? (i := 8) (by decide +kernel))) rfl, lw_goodI (tb3 (List.mem_of_getElem? (i := 43) (by decide +kernel))) rfl, ⟨by decide, by decide, by decide +kernel⟩⟩
theorem z_X8_look : Cond.instanceMethod yX8_look ∈ lw_good ∧ Cond.selects RX8 yX8_look yX8_look ∈ lw_good ∧ Cond.initialized RX8 ∈ lw_good ∧ Cond.code yX8_look cX8_look 4 none ∈ lw_good ∧ fx_p m_X8_look 2 := ⟨lw_goodI (tb2 (List.mem_of_getElem? (i := 224) (by decide +kernel))) rfl, lw_goodI (tb2 (List.mem_of_getElem? (i := 225) (by decide +kernel))) rfl, lw_goodI (tb1 (List.mem_of_getElem? (i := 8) (by decide +kernel))) rfl, lw_goodI (tb2 (List.mem_of_getElem? (i := 226) (by decide +kernel))) rfl, ⟨by decide, by decide, by decide +kernel⟩⟩
theorem z_X8_lookAtBends : Cond.instanceMethod yX8_lookAtBends ∈ lw_good ∧ Cond.selects RX8 yX8_lookAtBends yX8_lookAtBends ∈ lw_good ∧ Cond.initialized RX8 ∈ lw_good ∧ Cond.code yX8_lookAtBends cX8_lookAtBends 4 none ∈ lw_good ∧ fx_p m_X8_lookAtBends 1 := ⟨lw_goodI (tb3 (List.mem_of_getElem? (i := 0) (by decide +kernel))) rfl, lw_goodI (tb3 (List.mem_of_getElem? (i := 1) (by decide +kernel))) rfl, lw_goodI (tb1 (List.mem_of_getElem? (i := 8) (by decide +kernel))) rfl, lw_goodI (tb3 (List.mem_of_getElem? (i := 2) (by decide +kernel))) rfl, ⟨by decide, by decide, by decide +kernel⟩⟩
theorem z_X8_lookAtJoints : Cond.instanceMethod yX8_lookAtJoints ∈ lw_good ∧ Cond.selects RX8 yX8_lookAtJoints yX8_lookAtJoints ∈ lw_good ∧ Cond.initialized RX8 ∈ lw_good ∧ Cond.code yX8_lookAtJoints cX8_lookAtJoints 6 none ∈ lw_good ∧ fx_p m_X8_lookAtJoints 1 := ⟨lw_goodI (tb3 (List.mem_of_getElem? (i := 4) (by decide +kernel))) rfl, lw_goodI (tb3 (List.mem_of_getElem? (i := 5) (by decide +kernel))) rfl, lw_goodI (tb1 (List.mem_of_getElem? (i := 8) (by decide +kernel))) rfl, lw_goodI (tb3 (List.mem_of_getElem? (i := 6) (by decide +kernel))) rfl, ⟨by decide, by decide, by decide +kernel⟩⟩
theorem z_X8_lookAtUnits : Cond.instanceMethod yX8_lookAtUnits ∈ lw_good ∧ Cond.selects RX8 yX8_lookAtUnits yX8_lookAtUnits ∈ lw_good ∧ Cond.initialized RX8 ∈ lw_good ∧ Cond.code yX8_lookAtUnits cX8_lookAtUnits 6 none ∈ lw_good ∧ fx_p m_X8_lookAtUnits 1 := ⟨lw_goodI (tb2 (List.mem_of_getElem? (i := 236) (by decide +kernel))) rfl, lw_goodI (tb2 (List.mem_of_getElem? (i := 237) (by decide +kernel))) rfl, lw_goodI (tb1 (List.mem_of_getElem? (i := 8) (by decide +kernel))) rfl, lw_goodI (tb2 (List.mem_of_getElem? (i := 238) (by decide +kernel))) rfl, ⟨by decide, by decide, by decide +kernel⟩⟩
theorem z_X8_lossUpTo : Cond.instanceMethod yX8_lossUpTo ∈ lw_good ∧ Cond.selects RX8 yX8_lossUpTo yX8_lossUpTo ∈ lw_good ∧ Cond.initialized RX8 ∈ lw_good ∧ Cond.code yX8_lossUpTo cX8_lossUpTo 2 (some .int) ∈ lw_good ∧ fx_p m_X8_lossUpTo 1 := ⟨lw_goodI (tb3 (List.mem_of_getElem? (i := 13) (by decide +kernel))) rfl, lw_goodI (tb3 (List.mem_of_getElem? (i := 14) (by decide +kernel))) rfl, lw_goodI (tb1 (List.mem_of_getElem? (i := 8) (by decide +kernel))) rfl, lw_goodI (tb3 (List.mem_of_getElem? (i := 15) (by decide +kernel))) rfl, ⟨by decide, by decide, by decide +kernel⟩⟩
theorem z_X9_copyRow : Cond.static yX9_copyRow ∈ lw_good ∧ Cond.initialized RX9 ∈ lw_good ∧ Cond.code yX9_copyRow cX9_copyRow 2 none ∈ lw_good ∧ fx_p m_X9_copyRow 2 := ⟨lw_goodI (tb2 (List.mem_of_getElem? (i := 131) (by decide +kernel))) rfl, lw_goodI (tb1 (List.mem_of_getElem? (i := 1) (by decide +kernel))) rfl, lw_goodI (tb2 (List.mem_of_getElem? (i := 132) (by decide +kernel))) rfl, ⟨by decide, by decide, by decide +kernel⟩⟩
theorem z_X9_eventsOf : Cond.instanceMethod yX9_eventsOf ∈ lw_good ∧ Cond.selects RX9 yX9_eventsOf yX9_eventsOf ∈ lw_good ∧ Cond.initialized RX9 ∈ lw_good ∧ Cond.code yX9_eventsOf cX9_eventsOf 4 (some (.object "FibreBench$EventList")) ∈ lw_good ∧ fx_p m_X9_eventsOf 2 := ⟨lw_goodI (tb3 (List.mem_of_getElem? (i := 94) (by decide +kernel))) rfl, lw_goodI (tb0 (List.mem_of_getElem? (i := 4) (by decide +kernel))) rfl, lw_goodI (tb1 (List.mem_of_getElem? (i := 1) (by decide +kernel))) rfl, lw_goodI (tb3 (List.mem_of_getElem? (i := 95) (by decide +kernel))) rfl, ⟨by decide, by decide, by decide +kernel⟩⟩
theorem z_X9_isDistance : Cond.static yX9_isDistance ∈ lw_good ∧ Cond.initialized RX9 ∈ lw_good ∧ Cond.code yX9_isDistance cX9_isDistance 1 (some .boolean) ∈ lw_good ∧ fx_p m_X9_isDistance 1 := ⟨lw_goodI (tb3 (List.mem_of_getElem? (i := 24) (by decide +kernel))) rfl, lw_goodI (tb1 (List.mem_of_getElem? (i := 1) (by decide +kernel))) rfl, lw_goodI (tb3 (List.mem_of_getElem? (i := 25) (by decide +kernel))) rfl, ⟨by decide, by decide, by decide +kernel⟩⟩
theorem z_X9_isSection : Cond.static yX9_isSection ∈ lw_good ∧ Cond.initialized RX9 ∈ lw_good ∧ Cond.code yX9_isSection cX9_isSection 3 (some .boolean) ∈ lw_good ∧ fx_p m_X9_isSection 3 := ⟨lw_goodI (tb2 (List.mem_of_getElem? (i := 100) (by decide +kernel))) rfl, lw_goodI (tb1 (List.mem_of_getElem? (i := 1) (by decide +kernel))) rfl, lw_goodI (tb2 (List.mem_of_getElem? (i := 101) (by decide +kernel))) rfl, ⟨by decide, by decide, by decide +kernel⟩⟩
theorem z_X9_isSide : Cond.static yX9_isSide ∈ lw_good ∧ Cond.initialized RX9 ∈ lw_good ∧ Cond.code yX9_isSide cX9_isSide 1 (some .boolean) ∈ lw_good ∧ fx_p m_X9_isSide 1 := ⟨lw_goodI (tb2 (List.mem_of_getElem? (i := 217) (by decide +kernel))) rfl, lw_goodI (tb1 (List.mem_of_getElem? (i := 1) (by decide +kernel))) rfl, lw_goodI (tb2 (List.mem_of_getElem? (i := 218) (by decide +kernel))) rfl, ⟨by decide, by decide, by decide +kernel⟩⟩
theorem z_X9_isWidth : Cond.static yX9_isWidth ∈ lw_good ∧ Cond.initialized RX9 ∈ lw_good ∧ Cond.code yX9_isWidth cX9_isWidth 1 (some .boolean) ∈ lw_good ∧ fx_p m_X9_isWidth 1 := ⟨lw_goodI (tb3 (List.mem_of_getElem? (i := 21) (by decide +kernel))) rfl, lw_goodI (tb1 (List.mem_of_getElem? (i := 1) (by decide +kernel))) rfl, lw_goodI (tb3 (List.mem_of_getElem? (i := 22) (by decide +kernel))) rfl, ⟨by decide, by decide, by decide +kernel⟩⟩
theorem z_X9_isWithin : Cond.static yX9_isWithin ∈ lw_good ∧ Cond.initialized RX9 ∈ lw_good ∧ Cond.code yX9_isWithin cX9_isWithin 3 (some .boolean) ∈ lw_good ∧ fx_p m_X9_isWithin 3 := ⟨lw_goodI (tb2 (List.mem_of_getElem? (i := 103) (by decide +kernel))) rfl, lw_goodI (tb1 (List.mem_of_getElem? (i := 1) (by decide +kernel))) rfl, lw_goodI (tb2 (List.mem_of_getElem? (i := 104) (by decide +kernel))) rfl, ⟨by decide, by decide, by decide +kernel⟩⟩
theorem z_X9_joinSides : Cond.instanceMethod yX9_joinSides ∈ lw_good ∧ Cond.selects RX9 yX9_joinSides yX9_joinSides ∈ lw_good ∧ Cond.initialized RX9 ∈ lw_good ∧ Cond.code yX9_joinSides cX9_joinSides 3 none ∈ lw_good ∧ fx_p m_X9_joinSides 2 := ⟨lw_goodI (tb3 (List.mem_of_getElem? (i := 154) (by decide +kernel))) rfl, lw_goodI (tb0 (List.mem_of_getElem? (i := 5) (by decide +kernel))) rfl, lw_goodI (tb1 (List.mem_of_getElem? (i := 1) (by decide +kernel))) rfl, lw_goodI (tb3 (List.mem_of_getElem? (i := 155) (by decide +kernel))) rfl, ⟨by decide, by decide, by decide +kernel⟩⟩
theorem z_X9_recordChange : Cond.instanceMethod yX9_recordChange ∈ lw_good ∧ Cond.selects RX9 yX9_recordChange yX9_recordChange ∈ lw_good ∧ Cond.initialized RX9 ∈ lw_good ∧ Cond.code yX9_recordChange cX9_recordChange 1 none ∈ lw_good ∧ fx_p m_X9_recordChange 0 := ⟨lw_goodI (tb2 (List.mem_of_getElem? (i := 116) (by decide +kernel))) rfl, lw_goodI (tb0 (List.mem_of_getElem? (i := 0) (by decide +kernel))) rfl, lw_goodI (tb1 (List.mem_of_getElem? (i := 1) (by decide +kernel))) rfl, lw_goodI (tb2 (List.mem_of_getElem? (i := 117) (by decide +kernel))) rfl, ⟨by decide, by decide, by decide +kernel⟩⟩
theorem z_X9_routeOfEnd : Cond.instanceMethod yX9_routeOfEnd ∈ lw_good ∧ Cond.selects RX9 yX9_routeOfEnd yX9_routeOfEnd ∈ lw_good ∧ Cond.initialized RX9 ∈ lw_good ∧ Cond.code yX9_routeOfEnd cX9_routeOfEnd 4 (some .int) ∈ lw_good ∧ fx_p m_X9_routeOfEnd 2 := ⟨lw_goodI (tb3 (List.mem_of_getElem? (i := 236) (by decide +kernel))) rfl, lw_goodI (tb0 (List.mem_of_getElem? (i := 6) (by decide +kernel))) rfl, lw_goodI (tb1 (List.mem_of_getElem? (i := 1) (by decide +kernel))) rfl, lw_goodI (tb3 (List.mem_of_getElem? (i := 237) (by decide +kernel))) rfl, ⟨by decide, by decide, by decide +kernel⟩⟩
theorem z_X9_slotOf : Cond.static yX9_slotOf ∈ lw_good ∧ Cond.initialized RX9 ∈ lw_good ∧ Cond.code yX9_slotOf cX9_slotOf 4 (some .int) ∈ lw_good ∧ fx_p m_X9_slotOf 2 := ⟨lw_goodI (tb3 (List.mem_of_getElem? (i := 31) (by decide +kernel))) rfl, lw_goodI (tb1 (List.mem_of_getElem? (i := 1) (by decide +kernel))) rfl, lw_goodI (tb3 (List.mem_of_getElem? (i := 32) (by decide +kernel))) rfl, ⟨by decide, by decide, by decide +kernel⟩⟩
theorem z_X9_stitchedAt : Cond.instanceMethod yX9_stitchedAt ∈ lw_good ∧ Cond.selects RX9 yX9_stitchedAt yX9_stitchedAt ∈ lw_good ∧ Cond.initialized RX9 ∈ lw_good ∧ Cond.code yX9_stitchedAt cX9_stitchedAt 7 (some .int) ∈ lw_good ∧ fx_p m_X9_stitchedAt 2 := ⟨lw_goodI (tb3 (List.mem_of_getElem? (i := 81) (by decide +kernel))) rfl, lw_goodI (tb0 (List.mem_of_getElem? (i := 3) (by decide +kernel))) rfl, lw_goodI (tb1 (List.mem_of_getElem? (i := 1) (by decide +kernel))) rfl, lw_goodI (tb3 (List.mem_of_getElem? (i := 82) (by decide +kernel))) rfl, ⟨by decide, by decide, by decide +kernel⟩⟩
theorem z_X9_traceOf : Cond.instanceMethod yX9_traceOf ∈ lw_good ∧ Cond.selects RX9 yX9_traceOf yX9_traceOf ∈ lw_good ∧ Cond.initialized RX9 ∈ lw_good ∧ Cond.code yX9_traceOf cX9_traceOf 4 (some (.object "FibreBench$Trace")) ∈ lw_good ∧ fx_p m_X9_traceOf 2 := ⟨lw_goodI (tb3 (List.mem_of_getElem? (i := 28) (by decide +kernel))) rfl, lw_goodI (tb0 (List.mem_of_getElem? (i := 2) (by decide +kernel))) rfl, lw_goodI (tb1 (List.mem_of_getElem? (i := 1) (by decide +kernel))) rfl, lw_goodI (tb3 (List.mem_of_getElem? (i := 29) (by decide +kernel))) rfl, ⟨by decide, by decide, by decide +kernel⟩⟩
theorem z_X9_viewOf : Cond.instanceMethod yX9_viewOf ∈ lw_good ∧ Cond.selects RX9 yX9_viewOf yX9_viewOf ∈ lw_good ∧ Cond.initialized RX9 ∈ lw_good ∧ Cond.code yX9_viewOf cX9_viewOf 3 (some (.object "FibreBench$View")) ∈ lw_good ∧ fx_p m_X9_viewOf 1 := ⟨lw_goodI (tb2 (List.mem_of_getElem? (i := 221) (by decide +kernel))) rfl, lw_goodI (tb0 (List.mem_of_getElem? (i := 1) (by decide +kernel))) rfl, lw_goodI (tb1 (List.mem_of_getElem? (i := 1) (by decide +kernel))) rfl, lw_goodI (tb2 (List.mem_of_getElem? (i := 222) (by decide +kernel))) rfl, ⟨by decide, by decide, by decide +kernel⟩⟩
theorem c_RX0_25 : CalN RX0 25 m_X9_copyRow 2 := ⟨fun _ h => h.1, z_X9_copyRow.1, z_X9_copyRow.2.1, z_X9_copyRow.2.2.1, z_X9_copyRow.2.2.2⟩
theorem c_RX0_29 : CalV RX0 29 m_X0_runAfter 1 0 := ⟨lw_goodI (tb3 (List.mem_of_getElem? (i := 209) (by decide +kernel))) rfl, z_X0_runAfter.1, z_X0_runAfter.2.1, z_X0_runAfter.2.2.1, z_X0_runAfter.2.2.2.1, z_X0_runAfter.2.2.2.2, by decide, _, _, rfl⟩
theorem c_RX1_41 : CalS RX1 41 m_X1_isMarked 4 := ⟨lw_goodI (tb3 (List.mem_of_getElem? (i := 100) (by decide +kernel))) rfl, z_X1_isMarked.1, z_X1_isMarked.2.1, z_X1_isMarked.2.2.1, z_X1_isMarked.2.2.2⟩
theorem c_RX1_45 : CalV RX1 45 m_X1_keep 4 1 := ⟨lw_goodI (tb3 (List.mem_of_getElem? (i := 107) (by decide +kernel))) rfl, z_X1_keep.1, z_X1_keep.2.1, z_X1_keep.2.2.1, z_X1_keep.2.2.2.1, z_X1_keep.2.2.2.2, by decide, _, _, rfl⟩
theorem c_RX1_49 : CalV RX1 49 m_X7_at 1 7 := ⟨lw_goodI (tb3 (List.mem_of_getElem? (i := 106) (by decide +kernel))) rfl, z_X7_at.1, z_X7_at.2.1, z_X7_at.2.2.1, z_X7_at.2.2.2.1, z_X7_at.2.2.2.2, by decide, _, _, rfl⟩
theorem c_RX1_55 : CalS RX1 55 m_X1_deviation 3 := ⟨lw_goodI (tb3 (List.mem_of_getElem? (i := 103) (by decide +kernel))) rfl, z_X1_deviation.1, z_X1_deviation.2.1, z_X1_deviation.2.2.1, z_X1_deviation.2.2.2⟩
theorem c_RX1_59 : CalS RX1 59 m_J9_max_7cf53 2 := ⟨lw_goodI (tb3 (List.mem_of_getElem? (i := 111) (by decide +kernel))) rfl, z_J9_max_7cf53.1, z_J9_max_7cf53.2.1, z_J9_max_7cf53.2.2.1, z_J9_max_7cf53.2.2.2⟩
theorem c_RX1_65 : CalV RX1 65 m_X1_startOf 1 1 := ⟨lw_goodI (tb3 (List.mem_of_getElem? (i := 122) (by decide +kernel))) rfl, z_X1_startOf.1, z_X1_startOf.2.1, z_X1_startOf.2.2.1, z_X1_startOf.2.2.2.1, z_X1_startOf.2.2.2.2, by decide, _, _, rfl⟩
theorem c_RX1_68 : CalV RX1 68 m_X1_bouncesFrom 1 1 := ⟨lw_goodI (tb3 (List.mem_of_getElem? (i := 126) (by decide +kernel))) rfl, z_X1_bouncesFrom.1, z_X1_bouncesFrom.2.1, z_X1_bouncesFrom.2.2.1, z_X1_bouncesFrom.2.2.2.1, z_X1_bouncesFrom.2.2.2.2, by decide, _, _, rfl⟩
theorem c_RX1_73 : CalV RX1 73 m_X1_ghostMirror 1 1 := ⟨lw_goodI (tb3 (List.mem_of_getElem? (i := 135) (by decide +kernel))) rfl, z_X1_ghostMirror.1, z_X1_ghostMirror.2.1, z_X1_ghostMirror.2.2.1, z_X1_ghostMirror.2.2.2.1, z_X1_ghostMirror.2.2.2.2, by decide, _, _, rfl⟩
theorem c_RX10_57 : CalV RX10 57 m_X10_renew 3 10 := ⟨lw_goodI (tb4 (List.mem_of_getElem? (i := 57) (by decide +kernel))) rfl, z_X10_renew.1, z_X10_renew.2.1, z_X10_renew.2.2.1, z_X10_renew.2.2.2.1, z_X10_renew.2.2.2.2, by decide, _, _, rfl⟩
theorem c_RX10_61 : CalV RX10 61 m_X10_clearFibre 0 10 := ⟨lw_goodI (tb4 (List.mem_of_getElem? (i := 61) (by decide +kernel))) rfl, z_X10_clearFibre.1, z_X10_clearFibre.2.1, z_X10_clearFibre.2.2.1, z_X10_clearFibre.2.2.2.1, z_X10_clearFibre.2.2.2.2, by decide, _, _, rfl⟩
theorem c_RX10_64 : CalV RX10 64 m_X10_append 3 10 := ⟨lw_goodI (tb4 (List.mem_of_getElem? (i := 65) (by decide +kernel))) rfl, z_X10_append.1, z_X10_append.2.1, z_X10_append.2.2.1, z_X10_append.2.2.2.1, z_X10_append.2.2.2.2, by decide, _, _, rfl⟩
theorem c_RX10_67 : CalV RX10 67 m_X10_placeOf 1 10 := ⟨lw_goodI (tb4 (List.mem_of_getElem? (i := 164) (by decide +kernel))) rfl, z_X10_placeOf.1, z_X10_placeOf.2.1, z_X10_placeOf.2.2.1, z_X10_placeOf.2.2.2.1, z_X10_placeOf.2.2.2.2, by decide, _, _, rfl⟩
theorem c_RX10_74 : CalS RX10 74 m_X10_isIn 3 := ⟨lw_goodI (tb4 (List.mem_of_getElem? (i := 152) (by decide +kernel))) rfl, z_X10_isIn.1, z_X10_isIn.2.1, z_X10_isIn.2.2.1, z_X10_isIn.2.2.2⟩
theorem c_RX10_78 : CalS RX10 78 m_X10_isSection 3 := ⟨lw_goodI (tb4 (List.mem_of_getElem? (i := 149) (by decide +kernel))) rfl, z_X10_isSection.1, z_X10_isSection.2.1, z_X10_isSection.2.2.1, z_X10_isSection.2.2.2⟩
theorem c_RX10_82 : CalV RX10 82 m_X10_keep 0 10 := ⟨lw_goodI (tb4 (List.mem_of_getElem? (i := 156) (by decide +kernel))) rfl, z_X10_keep.1, z_X10_keep.2.1, z_X10_keep.2.2.1, z_X10_keep.2.2.2.1, z_X10_keep.2.2.2.2, by decide, _, _, rfl⟩
theorem c_RX10_85 : CalV RX10 85 m_X10_whole 0 10 := ⟨lw_goodI (tb4 (List.mem_of_getElem? (i := 160) (by decide +kernel))) rfl, z_X10_whole.1, z_X10_whole.2.1, z_X10_whole.2.2.1, z_X10_whole.2.2.2.1, z_X10_whole.2.2.2.2, by decide, _, _, rfl⟩
theorem c_RX10_90 : CalV RX10 90 m_X10_isJoint 1 10 := ⟨lw_goodI (tb4 (List.mem_of_getElem? (i := 177) (by decide +kernel))) rfl, z_X10_isJoint.1, z_X10_isJoint.2.1, z_X10_isJoint.2.2.1, z_X10_isJoint.2.2.2.1, z_X10_isJoint.2.2.2.2, by decide, _, _, rfl⟩
theorem c_RX10_95 : CalV RX10 95 m_X10_isBend 1 10 := ⟨lw_goodI (tb4 (List.mem_of_getElem? (i := 190) (by decide +kernel))) rfl, z_X10_isBend.1, z_X10_isBend.2.1, z_X10_isBend.2.2.1, z_X10_isBend.2.2.2.1, z_X10_isBend.2.2.2.2, by decide, _, _, rfl⟩
theorem c_RX10_102 : CalV RX10 102 m_X10_sectionOf 2 10 := ⟨lw_goodI (tb4 (List.mem_of_getElem? (i := 234) (by decide +kernel))) rfl, z_X10_sectionOf.1, z_X10_sectionOf.2.1, z_X10_sectionOf.2.2.1, z_X10_sectionOf.2.2.2.1, z_X10_sectionOf.2.2.2.2, by decide, _, _, rfl⟩
theorem c_RX10_106 : CalV RX10 106 m_X10_far 2 10 := ⟨lw_goodI (tb4 (List.mem_of_getElem? (i := 238) (by decide +kernel))) rfl, z_X10_far.1, z_X10_far.2.1, z_X10_far.2.2.1, z_X10_far.2.2.2.1, z_X10_far.2.2.2.2, by decide, _, _, rfl⟩
theorem c_RX10_109 : CalS RX10 109 m_X10_isSide 1 := ⟨lw_goodI (tb4 (List.mem_of_getElem? (i := 227) (by decide +kernel))) rfl, z_X10_isSide.1, z_X10_isSide.2.1, z_X10_isSide.2.2.1, z_X10_isSide.2.2.2⟩
theorem c_RX10_112 : CalV RX10 112 m_X10_layLosses 1 10 := ⟨lw_goodI (tb4 (List.mem_of_getElem? (i := 230) (by decide +kernel))) rfl, z_X10_layLosses.1, z_X10_layLosses.2.1, z_X10_layLosses.2.2.1, z_X10_layLosses.2.2.2.1, z_X10_layLosses.2.2.2.2, by decide, _, _, rfl⟩
theorem c_RX10_116 : CalV RX10 116 m_X10_scattered 2 10 := ⟨lw_goodI (tb5 (List.mem_of_getElem? (i := 21) (by decide +kernel))) rfl, z_X10_scattered.1, z_X10_scattered.2.1, z_X10_scattered.2.2.1, z_X10_scattered.2.2.2.1, z_X10_scattered.2.2.2.2, by decide, _, _, rfl⟩
theorem c_RX10_122 : CalV RX10 122 m_X10_reflect 2 10 := ⟨lw_goodI (tb5 (List.mem_of_getElem? (i := 17) (by decide +kernel))) rfl, z_X10_reflect.1, z_X10_reflect.2.1, z_X10_reflect.2.2.1, z_X10_reflect.2.2.2.1, z_X10_reflect.2.2.2.2, by decide, _, _, rfl⟩
theorem c_RX10_126 : CalV RX10 126 m_X10_before 2 10 := ⟨lw_goodI (tb5 (List.mem_of_getElem? (i := 33) (by decide +kernel))) rfl, z_X10_before.1, z_X10_before.2.1, z_X10_before.2.2.1, z_X10_before.2.2.2.1, z_X10_before.2.2.2.2, by decide, _, _, rfl⟩
theorem c_RX10_129 : CalV RX10 129 m_X10_raise 2 10 := ⟨lw_goodI (tb5 (List.mem_of_getElem? (i := 25) (by decide +kernel))) rfl, z_X10_raise.1, z_X10_raise.2.1, z_X10_raise.2.2.1, z_X10_raise.2.2.2.1, z_X10_raise.2.2.2.2, by decide, _, _, rfl⟩
theorem c_RX10_135 : CalV RX10 135 m_X10_layReflectors 2 10 := ⟨lw_goodI (tb5 (List.mem_of_getElem? (i := 13) (by decide +kernel))) rfl, z_X10_layReflectors.1, z_X10_layReflectors.2.1, z_X10_layReflectors.2.2.1, z_X10_layReflectors.2.2.2.1, z_X10_layReflectors.2.2.2.2, by decide, _, _, rfl⟩
theorem c_RX10_138 : CalV RX10 138 m_X10_addReflector 3 10 := ⟨lw_goodI (tb5 (List.mem_of_getElem? (i := 29) (by decide +kernel))) rfl, z_X10_addReflector.1, z_X10_addReflector.2.1, z_X10_addReflector.2.2.1, z_X10_addReflector.2.2.2.1, z_X10_addReflector.2.2.2.2, by decide, _, _, rfl⟩
theorem c_RX10_141 : CalV RX10 141 m_X10_addGhost 3 10 := ⟨lw_goodI (tb5 (List.mem_of_getElem? (i := 37) (by decide +kernel))) rfl, z_X10_addGhost.1, z_X10_addGhost.2.1, z_X10_addGhost.2.2.1, z_X10_addGhost.2.2.2.1, z_X10_addGhost.2.2.2.2, by decide, _, _, rfl⟩
theorem c_RX10_144 : CalS RX10 144 m_X10_isTrace 2 := ⟨lw_goodI (tb5 (List.mem_of_getElem? (i := 6) (by decide +kernel))) rfl, z_X10_isTrace.1, z_X10_isTrace.2.1, z_X10_isTrace.2.2.1, z_X10_isTrace.2.2.2⟩
theorem c_RX10_148 : CalV RX10 148 m_X10_layTrace 2 10 := ⟨lw_goodI (tb5 (List.mem_of_getElem? (i := 9) (by decide +kernel))) rfl, z_X10_layTrace.1, z_X10_layTrace.2.1, z_X10_layTrace.2.2.1, z_X10_layTrace.2.2.2.1, z_X10_layTrace.2.2.2.2, by decide, _, _, rfl⟩
theorem c_RX10_152 : CalV RX10 152 m_X10_stitch 2 10 := ⟨lw_goodI (tb5 (List.mem_of_getElem? (i := 58) (by decide +kernel))) rfl, z_X10_stitch.1, z_X10_stitch.2.1, z_X10_stitch.2.2.1, z_X10_stitch.2.2.2.1, z_X10_stitch.2.2.2.2, by decide, _, _, rfl⟩
theorem c_RX10_155 : CalV RX10 155 m_X10_layStitches 1 10 := ⟨lw_goodI (tb5 (List.mem_of_getElem? (i := 54) (by decide +kernel))) rfl, z_X10_layStitches.1, z_X10_layStitches.2.1, z_X10_layStitches.2.2.1, z_X10_layStitches.2.2.2.1, z_X10_layStitches.2.2.2.2, by decide, _, _, rfl⟩
theorem c_RX10_158 : CalV RX10 158 m_X10_deviation 1 10 := ⟨lw_goodI (tb5 (List.mem_of_getElem? (i := 82) (by decide +kernel))) rfl, z_X10_deviation.1, z_X10_deviation.2.1, z_X10_deviation.2.2.1, z_X10_deviation.2.2.2.1, z_X10_deviation.2.2.2.2, by decide, _, _, rfl⟩
theorem c_RX10_164 : CalV RX10 164 m_X10_of 2 10 := ⟨lw_goodI (tb5 (List.mem_of_getElem? (i := 94) (by decide +kernel))) rfl, z_X10_of.1, z_X10_of.2.1, z_X10_of.2.2.1, z_X10_of.2.2.2.1, z_X10_of.2.2.2.2, by decide, _, _, rfl⟩
theorem c_RX10_167 : CalV RX10 167 m_X10_isMarked 1 10 := ⟨lw_goodI (tb5 (List.mem_of_getElem? (i := 78) (by decide +kernel))) rfl, z_X10_isMarked.1, z_X10_isMarked.2.1, z_X10_isMarked.2.2.1, z_X10_isMarked.2.2.2.1, z_X10_isMarked.2.2.2.2, by decide, _, _, rfl⟩
theorem c_RX10_170 : CalV RX10 170 m_X10_addEvent 2 10 := ⟨lw_goodI (tb5 (List.mem_of_getElem? (i := 86) (by decide +kernel))) rfl, z_X10_addEvent.1, z_X10_addEvent.2.1, z_X10_addEvent.2.2.1, z_X10_addEvent.2.2.2.1, z_X10_addEvent.2.2.2.2, by decide, _, _, rfl⟩
theorem c_RX10_173 : CalV RX10 173 m_X10_name 2 10 := ⟨lw_goodI (tb5 (List.mem_of_getElem? (i := 90) (by decide +kernel))) rfl, z_X10_name.1, z_X10_name.2.1, z_X10_name.2.2.1, z_X10_name.2.2.2.1, z_X10_name.2.2.2.2, by decide, _, _, rfl⟩
theorem c_RX10_176 : CalV RX10 176 m_X10_addEvents 2 10 := ⟨lw_goodI (tb5 (List.mem_of_getElem? (i := 74) (by decide +kernel))) rfl, z_X10_addEvents.1, z_X10_addEvents.2.1, z_X10_addEvents.2.2.1, z_X10_addEvents.2.2.2.1, z_X10_addEvents.2.2.2.2, by decide, _, _, rfl⟩
theorem c_RX10_179 : CalV RX10 179 m_X10_layEvents 2 10 := ⟨lw_goodI (tb5 (List.mem_of_getElem? (i := 70) (by decide +kernel))) rfl, z_X10_layEvents.1, z_X10_layEvents.2.1, z_X10_layEvents.2.2.1, z_X10_layEvents.2.2.2.1, z_X10_layEvents.2.2.2.2, by decide, _, _, rfl⟩
theorem c_RX10_182 : CalV RX10 182 m_X10_firstEnd 2 10 := ⟨lw_goodI (tb5 (List.mem_of_getElem? (i := 110) (by decide +kernel))) rfl, z_X10_firstEnd.1, z_X10_firstEnd.2.1, z_X10_firstEnd.2.2.1, z_X10_firstEnd.2.2.2.1, z_X10_firstEnd.2.2.2.2, by decide, _, _, rfl⟩
theorem c_RX10_188 : CalV RX10 188 m_X10_layJoins 1 10 := ⟨lw_goodI (tb5 (List.mem_of_getElem? (i := 118) (by decide +kernel))) rfl, z_X10_layJoins.1, z_X10_layJoins.2.1, z_X10_layJoins.2.2.1, z_X10_layJoins.2.2.2.1, z_X10_layJoins.2.2.2.2, by decide, _, _, rfl⟩
theorem c_RX10_191 : CalV RX10 191 m_X10_reach 1 10 := ⟨lw_goodI (tb5 (List.mem_of_getElem? (i := 142) (by decide +kernel))) rfl, z_X10_reach.1, z_X10_reach.2.1, z_X10_reach.2.2.1, z_X10_reach.2.2.2.1, z_X10_reach.2.2.2.2, by decide, _, _, rfl⟩
theorem c_RX10_194 : CalV RX10 194 m_X10_onRoute 1 10 := ⟨lw_goodI (tb5 (List.mem_of_getElem? (i := 150) (by decide +kernel))) rfl, z_X10_onRoute.1, z_X10_onRoute.2.1, z_X10_onRoute.2.2.1, z_X10_onRoute.2.2.2.1, z_X10_onRoute.2.2.2.2, by decide, _, _, rfl⟩
theorem c_RX10_200 : CalV RX10 200 m_X10_isWrong 0 10 := ⟨lw_goodI (tb5 (List.mem_of_getElem? (i := 178) (by decide +kernel))) rfl, z_X10_isWrong.1, z_X10_isWrong.2.1, z_X10_isWrong.2.2.1, z_X10_isWrong.2.2.2.1, z_X10_isWrong.2.2.2.2, by decide, _, _, rfl⟩
theorem c_RX10_210 : CalV RX10 210 m_X10_isDigit 0 10 := ⟨lw_goodI (tb5 (List.mem_of_getElem? (i := 186) (by decide +kernel))) rfl, z_X10_isDigit.1, z_X10_isDigit.2.1, z_X10_isDigit.2.2.1, z_X10_isDigit.2.2.2.1, z_X10_isDigit.2.2.2.2, by decide, _, _, rfl⟩
theorem c_RX10_213 : CalV RX10 213 m_X10_fails 2 10 := ⟨lw_goodI (tb5 (List.mem_of_getElem? (i := 190) (by decide +kernel))) rfl, z_X10_fails.1, z_X10_fails.2.1, z_X10_fails.2.2.1, z_X10_fails.2.2.2.1, z_X10_fails.2.2.2.2, by decide, _, _, rfl⟩
theorem c_RX10_219 : CalV RX10 219 m_X10_readNumber 2 10 := ⟨lw_goodI (tb5 (List.mem_of_getElem? (i := 194) (by decide +kernel))) rfl, z_X10_readNumber.1, z_X10_readNumber.2.1, z_X10_readNumber.2.2.1, z_X10_readNumber.2.2.2.1, z_X10_readNumber.2.2.2.2, by decide, _, _, rfl⟩
theorem c_RX10_222 : CalV RX10 222 m_X10_want 1 10 := ⟨lw_goodI (tb5 (List.mem_of_getElem? (i := 198) (by decide +kernel))) rfl, z_X10_want.1, z_X10_want.2.1, z_X10_want.2.2.1, z_X10_want.2.2.2.1, z_X10_want.2.2.2.2, by decide, _, _, rfl⟩
theorem c_RX10_225 : CalV RX10 225 m_X10_readItem 1 10 := ⟨lw_goodI (tb5 (List.mem_of_getElem? (i := 182) (by decide +kernel))) rfl, z_X10_readItem.1, z_X10_readItem.2.1, z_X10_readItem.2.2.1, z_X10_readItem.2.2.2.1, z_X10_readItem.2.2.2.2, by decide, _, _, rfl⟩
theorem c_RX10_228 : CalV RX10 228 m_X10_readAll 0 10 := ⟨lw_goodI (tb5 (List.mem_of_getElem? (i := 174) (by decide +kernel))) rfl, z_X10_readAll.1, z_X10_readAll.2.1, z_X10_readAll.2.2.1, z_X10_readAll.2.2.2.1, z_X10_readAll.2.2.2.2, by decide, _, _, rfl⟩
theorem c_RX2_46 : CalN RX2 46 m_X9_copyRow 2 := ⟨fun _ h => h.2.1, z_X9_copyRow.1, z_X9_copyRow.2.1, z_X9_copyRow.2.2.1, z_X9_copyRow.2.2.2⟩
theorem c_RX2_50 : CalV RX2 50 m_X2_placeOfJoint 1 2 := ⟨lw_goodI (tb2 (List.mem_of_getElem? (i := 110) (by decide +kernel))) rfl, z_X2_placeOfJoint.1, z_X2_placeOfJoint.2.1, z_X2_placeOfJoint.2.2.1, z_X2_placeOfJoint.2.2.2.1, z_X2_placeOfJoint.2.2.2.2, by decide, _, _, rfl⟩
theorem c_RX3_25 : CalV RX3 25 m_X5_copyFrom 1 5 := ⟨lw_goodI (tb2 (List.mem_of_getElem? (i := 122) (by decide +kernel))) rfl, z_X5_copyFrom.1, z_X5_copyFrom.2.1, z_X5_copyFrom.2.2.1, z_X5_copyFrom.2.2.2.1, z_X5_copyFrom.2.2.2.2, by decide, _, _, rfl⟩
theorem c_RX4_29 : CalV RX4 29 m_X1_isInside 1 1 := ⟨lw_goodI (tb3 (List.mem_of_getElem? (i := 160) (by decide +kernel))) rfl, z_X1_isInside.1, z_X1_isInside.2.1, z_X1_isInside.2.2.1, z_X1_isInside.2.2.2.1, z_X1_isInside.2.2.2.2, by decide, _, _, rfl⟩
theorem c_RX4_33 : CalV RX4 33 m_X1_startOf 1 1 := ⟨lw_goodI (tb3 (List.mem_of_getElem? (i := 164) (by decide +kernel))) rfl, z_X1_startOf.1, z_X1_startOf.2.1, z_X1_startOf.2.2.1, z_X1_startOf.2.2.2.1, z_X1_startOf.2.2.2.2, by decide, _, _, rfl⟩
theorem c_RX4_37 : CalV RX4 37 m_X4_partner 4 4 := ⟨lw_goodI (tb3 (List.mem_of_getElem? (i := 165) (by decide +kernel))) rfl, z_X4_partner.1, z_X4_partner.2.1, z_X4_partner.2.2.1, z_X4_partner.2.2.2.1, z_X4_partner.2.2.2.2, by decide, _, _, rfl⟩
theorem c_RX4_42 : CalV RX4 42 m_X4_keep 2 4 := ⟨lw_goodI (tb3 (List.mem_of_getElem? (i := 173) (by decide +kernel))) rfl, z_X4_keep.1, z_X4_keep.2.1, z_X4_keep.2.2.1, z_X4_keep.2.2.2.1, z_X4_keep.2.2.2.2, by decide, _, _, rfl⟩
theorem c_RX4_46 : CalS RX4 46 m_J9_abs_0f7a4 1 := ⟨lw_goodI (tb3 (List.mem_of_getElem? (i := 169) (by decide +kernel))) rfl, z_J9_abs_0f7a4.1, z_J9_abs_0f7a4.2.1, z_J9_abs_0f7a4.2.2.1, z_J9_abs_0f7a4.2.2.2⟩
theorem c_RX5_32 : CalV RX5 32 m_X2_copyFrom 1 2 := ⟨lw_goodI (tb2 (List.mem_of_getElem? (i := 126) (by decide +kernel))) rfl, z_X2_copyFrom.1, z_X2_copyFrom.2.1, z_X2_copyFrom.2.2.1, z_X2_copyFrom.2.2.2.1, z_X2_copyFrom.2.2.2.2, by decide, _, _, rfl⟩
theorem c_RX5_36 : CalV RX5 36 m_X0_copyFrom 1 0 := ⟨lw_goodI (tb2 (List.mem_of_getElem? (i := 139) (by decide +kernel))) rfl, z_X0_copyFrom.1, z_X0_copyFrom.2.1, z_X0_copyFrom.2.2.1, z_X0_copyFrom.2.2.2.1, z_X0_copyFrom.2.2.2.2, by decide, _, _, rfl⟩
theorem c_RX5_39 : CalN RX5 39 m_X9_copyRow 2 := ⟨fun _ h => h.2.2, z_X9_copyRow.1, z_X9_copyRow.2.1, z_X9_copyRow.2.2.1, z_X9_copyRow.2.2.2⟩
theorem c_RX6_28 : CalV RX6 28 m_X2_clear 0 2 := ⟨lw_goodI (tb4 (List.mem_of_getElem? (i := 18) (by decide +kernel))) rfl, z_X2_clear.1, z_X2_clear.2.1, z_X2_clear.2.2.1, z_X2_clear.2.2.2.1, z_X2_clear.2.2.2.2, by decide, _, _, rfl⟩
theorem c_RX6_33 : CalV RX6 33 m_X6_readItem 1 6 := ⟨lw_goodI (tb4 (List.mem_of_getElem? (i := 19) (by decide +kernel))) rfl, z_X6_readItem.1, z_X6_readItem.2.1, z_X6_readItem.2.2.1, z_X6_readItem.2.2.2.1, z_X6_readItem.2.2.2.2, by decide, _, _, rfl⟩
theorem c_RX6_37 : CalV RX6 37 m_X6_isDigit 1 6 := ⟨lw_goodI (tb4 (List.mem_of_getElem? (i := 27) (by decide +kernel))) rfl, z_X6_isDigit.1, z_X6_isDigit.2.1, z_X6_isDigit.2.2.1, z_X6_isDigit.2.2.2.1, z_X6_isDigit.2.2.2.2, by decide, _, _, rfl⟩
theorem c_RX6_41 : CalV RX6 41 m_X6_blame 2 6 := ⟨lw_goodI (tb4 (List.mem_of_getElem? (i := 35) (by decide +kernel))) rfl, z_X6_blame.1, z_X6_blame.2.1, z_X6_blame.2.2.1, z_X6_blame.2.2.2.1, z_X6_blame.2.2.2.2, by decide, _, _, rfl⟩
theorem c_RX6_45 : CalV RX6 45 m_X6_readNumber 2 6 := ⟨lw_goodI (tb4 (List.mem_of_getElem? (i := 23) (by decide +kernel))) rfl, z_X6_readNumber.1, z_X6_readNumber.2.1, z_X6_readNumber.2.2.1, z_X6_readNumber.2.2.2.1, z_X6_readNumber.2.2.2.2, by decide, _, _, rfl⟩
theorem c_RX6_49 : CalV RX6 49 m_X2_totalLength 0 2 := ⟨lw_goodI (tb4 (List.mem_of_getElem? (i := 39) (by decide +kernel))) rfl, z_X2_totalLength.1, z_X2_totalLength.2.1, z_X2_totalLength.2.2.1, z_X2_totalLength.2.2.2.1, z_X2_totalLength.2.2.2.2, by decide, _, _, rfl⟩
theorem c_RX6_53 : CalV RX6 53 m_X6_readSign 1 6 := ⟨lw_goodI (tb4 (List.mem_of_getElem? (i := 40) (by decide +kernel))) rfl, z_X6_readSign.1, z_X6_readSign.2.1, z_X6_readSign.2.2.1, z_X6_readSign.2.2.2.1, z_X6_readSign.2.2.2.2, by decide, _, _, rfl⟩
theorem c_RX6_57 : CalV RX6 57 m_X2_append 3 2 := ⟨lw_goodI (tb4 (List.mem_of_getElem? (i := 44) (by decide +kernel))) rfl, z_X2_append.1, z_X2_append.2.1, z_X2_append.2.2.1, z_X2_append.2.2.2.1, z_X2_append.2.2.2.2, by decide, _, _, rfl⟩
theorem c_RX6_61 : CalV RX6 61 m_X6_codeAt 1 6 := ⟨lw_goodI (tb4 (List.mem_of_getElem? (i := 31) (by decide +kernel))) rfl, z_X6_codeAt.1, z_X6_codeAt.2.1, z_X6_codeAt.2.2.1, z_X6_codeAt.2.2.2.1, z_X6_codeAt.2.2.2.2, by decide, _, _, rfl⟩
theorem c_RX7_22 : CalS RX7 22 m_J7_fill_53178 2 := ⟨lw_goodI (tb3 (List.mem_of_getElem? (i := 39) (by decide +kernel))) rfl, z_J7_fill_53178.1, z_J7_fill_53178.2.1, z_J7_fill_53178.2.2.1, z_J7_fill_53178.2.2.2⟩
theorem c_RX7_33 : CalV RX7 33 m_X8_levelAt 1 8 := ⟨lw_goodI (tb3 (List.mem_of_getElem? (i := 40) (by decide +kernel))) rfl, z_X8_levelAt.1, z_X8_levelAt.2.1, z_X8_levelAt.2.2.1, z_X8_levelAt.2.2.2.1, z_X8_levelAt.2.2.2.2, by decide, _, _, rfl⟩
theorem c_RX7_37 : CalV RX7 37 m_X7_raiseTo 2 7 := ⟨lw_goodI (tb3 (List.mem_of_getElem? (i := 44) (by decide +kernel))) rfl, z_X7_raiseTo.1, z_X7_raiseTo.2.1, z_X7_raiseTo.2.2.1, z_X7_raiseTo.2.2.2.1, z_X7_raiseTo.2.2.2.2, by decide, _, _, rfl⟩
theorem c_RX7_44 : CalV RX7 44 m_X7_addReflection 2 7 := ⟨lw_goodI (tb3 (List.mem_of_getElem? (i := 48) (by decide +kernel))) rfl, z_X7_addReflection.1, z_X7_addReflection.2.1, z_X7_addReflection.2.2.1, z_X7_addReflection.2.2.2.1, z_X7_addReflection.2.2.2.2, by decide, _, _, rfl⟩
theorem c_RX7_48 : CalV RX7 48 m_X7_addGhost 3 7 := ⟨lw_goodI (tb3 (List.mem_of_getElem? (i := 57) (by decide +kernel))) rfl, z_X7_addGhost.1, z_X7_addGhost.2.1, z_X7_addGhost.2.2.1, z_X7_addGhost.2.2.2.1, z_X7_addGhost.2.2.2.2, by decide, _, _, rfl⟩
theorem c_RX7_55 : CalV RX7 55 m_X7_levelBefore 2 7 := ⟨lw_goodI (tb3 (List.mem_of_getElem? (i := 52) (by decide +kernel))) rfl, z_X7_levelBefore.1, z_X7_levelBefore.2.1, z_X7_levelBefore.2.2.1, z_X7_levelBefore.2.2.2.1, z_X7_levelBefore.2.2.2.2, by decide, _, _, rfl⟩
theorem c_RX7_59 : CalS RX7 59 m_J9_min_7cf53 2 := ⟨lw_goodI (tb3 (List.mem_of_getElem? (i := 56) (by decide +kernel))) rfl, z_J9_min_7cf53.1, z_J9_min_7cf53.2.1, z_J9_min_7cf53.2.2.1, z_J9_min_7cf53.2.2.2⟩
theorem c_RX7_68 : CalV RX7 68 m_X8_lossUpTo 1 8 := ⟨lw_goodI (tb3 (List.mem_of_getElem? (i := 61) (by decide +kernel))) rfl, z_X8_lossUpTo.1, z_X8_lossUpTo.2.1, z_X8_lossUpTo.2.2.1, z_X8_lossUpTo.2.2.2.1, z_X8_lossUpTo.2.2.2.2, by decide, _, _, rfl⟩
theorem c_RX8_40 : CalV RX8 40 m_X2_totalLength 0 2 := ⟨lw_goodI (tb2 (List.mem_of_getElem? (i := 227) (by decide +kernel))) rfl, z_X2_totalLength.1, z_X2_totalLength.2.1, z_X2_totalLength.2.2.1, z_X2_totalLength.2.2.2.1, z_X2_totalLength.2.2.2.2, by decide, _, _, rfl⟩
theorem c_RX8_49 : CalV RX8 49 m_X8_distanceOf 1 8 := ⟨lw_goodI (tb2 (List.mem_of_getElem? (i := 228) (by decide +kernel))) rfl, z_X8_distanceOf.1, z_X8_distanceOf.2.1, z_X8_distanceOf.2.2.1, z_X8_distanceOf.2.2.2.1, z_X8_distanceOf.2.2.2.2, by decide, _, _, rfl⟩
theorem c_RX8_53 : CalS RX8 53 m_J7_fill_53178 2 := ⟨lw_goodI (tb2 (List.mem_of_getElem? (i := 232) (by decide +kernel))) rfl, z_J7_fill_53178.1, z_J7_fill_53178.2.1, z_J7_fill_53178.2.2.1, z_J7_fill_53178.2.2.2⟩
theorem c_RX8_59 : CalV RX8 59 m_X8_lookAtUnits 1 8 := ⟨lw_goodI (tb2 (List.mem_of_getElem? (i := 235) (by decide +kernel))) rfl, z_X8_lookAtUnits.1, z_X8_lookAtUnits.2.1, z_X8_lookAtUnits.2.2.1, z_X8_lookAtUnits.2.2.2.1, z_X8_lookAtUnits.2.2.2.2, by decide, _, _, rfl⟩
theorem c_RX8_63 : CalV RX8 63 m_X8_lookAtBends 1 8 := ⟨lw_goodI (tb2 (List.mem_of_getElem? (i := 239) (by decide +kernel))) rfl, z_X8_lookAtBends.1, z_X8_lookAtBends.2.1, z_X8_lookAtBends.2.2.1, z_X8_lookAtBends.2.2.2.1, z_X8_lookAtBends.2.2.2.2, by decide, _, _, rfl⟩
theorem c_RX8_66 : CalV RX8 66 m_X8_lookAtJoints 1 8 := ⟨lw_goodI (tb3 (List.mem_of_getElem? (i := 3) (by decide +kernel))) rfl, z_X8_lookAtJoints.1, z_X8_lookAtJoints.2.1, z_X8_lookAtJoints.2.2.1, z_X8_lookAtJoints.2.2.2.1, z_X8_lookAtJoints.2.2.2.2, by decide, _, _, rfl⟩
theorem c_RX8_72 : CalV RX8 72 m_X8_addReflector 2 8 := ⟨lw_goodI (tb3 (List.mem_of_getElem? (i := 8) (by decide +kernel))) rfl, z_X8_addReflector.1, z_X8_addReflector.2.1, z_X8_addReflector.2.2.1, z_X8_addReflector.2.2.2.1, z_X8_addReflector.2.2.2.2, by decide, _, _, rfl⟩
theorem c_RX8_97 : CalV RX8 97 m_X2_placeOfJoint 1 2 := ⟨lw_goodI (tb3 (List.mem_of_getElem? (i := 7) (by decide +kernel))) rfl, z_X2_placeOfJoint.1, z_X2_placeOfJoint.2.1, z_X2_placeOfJoint.2.2.1, z_X2_placeOfJoint.2.2.2.1, z_X2_placeOfJoint.2.2.2.2, by decide, _, _, rfl⟩
theorem c_RX9_20 : CalV RX9 20 m_X2_append 3 2 := ⟨lw_goodI (tb1 (List.mem_of_getElem? (i := 130) (by decide +kernel))) rfl, z_X2_append.1, z_X2_append.2.1, z_X2_append.2.2.1, z_X2_append.2.2.2.1, z_X2_append.2.2.2.2, by decide, _, _, rfl⟩
theorem c_RX9_89 : CalS RX9 89 m_X9_isSection 3 := ⟨lw_goodI (tb2 (List.mem_of_getElem? (i := 99) (by decide +kernel))) rfl, z_X9_isSection.1, z_X9_isSection.2.1, z_X9_isSection.2.2.1, z_X9_isSection.2.2.2⟩
theorem c_RX9_94 : CalV RX9 94 m_X2_totalLength 0 2 := ⟨lw_goodI (tb2 (List.mem_of_getElem? (i := 106) (by decide +kernel))) rfl, z_X2_totalLength.1, z_X2_totalLength.2.1, z_X2_totalLength.2.2.1, z_X2_totalLength.2.2.2.1, z_X2_totalLength.2.2.2.2, by decide, _, _, rfl⟩
theorem c_RX9_98 : CalV RX9 98 m_X9_recordChange 0 9 := ⟨lw_goodI (tb2 (List.mem_of_getElem? (i := 114) (by decide +kernel))) rfl, z_X9_recordChange.1, z_X9_recordChange.2.1, z_X9_recordChange.2.2.1, z_X9_recordChange.2.2.2.1, z_X9_recordChange.2.2.2.2, by decide, _, _, rfl⟩
theorem c_RX9_101 : CalV RX9 101 m_X2_clear 0 2 := ⟨lw_goodI (tb2 (List.mem_of_getElem? (i := 145) (by decide +kernel))) rfl, z_X2_clear.1, z_X2_clear.2.1, z_X2_clear.2.2.1, z_X2_clear.2.2.2.1, z_X2_clear.2.2.2.2, by decide, _, _, rfl⟩
theorem c_RX9_108 : CalS RX9 108 m_X9_isWithin 3 := ⟨lw_goodI (tb2 (List.mem_of_getElem? (i := 102) (by decide +kernel))) rfl, z_X9_isWithin.1, z_X9_isWithin.2.1, z_X9_isWithin.2.2.1, z_X9_isWithin.2.2.2⟩
theorem c_RX9_121 : CalV RX9 121 m_X2_appendBend 2 2 := ⟨lw_goodI (tb2 (List.mem_of_getElem? (i := 163) (by decide +kernel))) rfl, z_X2_appendBend.1, z_X2_appendBend.2.1, z_X2_appendBend.2.2.1, z_X2_appendBend.2.2.2.1, z_X2_appendBend.2.2.2.2, by decide, _, _, rfl⟩
theorem c_RX9_128 : CalV RX9 128 m_X2_dropBend 1 2 := ⟨lw_goodI (tb2 (List.mem_of_getElem? (i := 171) (by decide +kernel))) rfl, z_X2_dropBend.1, z_X2_dropBend.2.1, z_X2_dropBend.2.2.1, z_X2_dropBend.2.2.2.1, z_X2_dropBend.2.2.2.2, by decide, _, _, rfl⟩
theorem c_RX9_148 : CalV RX9 148 m_X3_restoreLatest 1 3 := ⟨lw_goodI (tb2 (List.mem_of_getElem? (i := 191) (by decide +kernel))) rfl, z_X3_restoreLatest.1, z_X3_restoreLatest.2.1, z_X3_restoreLatest.2.2.1, z_X3_restoreLatest.2.2.2.1, z_X3_restoreLatest.2.2.2.2, by decide, _, _, rfl⟩
theorem c_RX9_165 : CalV RX9 165 m_X2_placeOfJoint 1 2 := ⟨lw_goodI (tb2 (List.mem_of_getElem? (i := 203) (by decide +kernel))) rfl, z_X2_placeOfJoint.1, z_X2_placeOfJoint.2.1, z_X2_placeOfJoint.2.2.1, z_X2_placeOfJoint.2.2.2.1, z_X2_placeOfJoint.2.2.2.2, by decide, _, _, rfl⟩
theorem c_RX9_172 : CalS RX9 172 m_X9_isSide 1 := ⟨lw_goodI (tb2 (List.mem_of_getElem? (i := 216) (by decide +kernel))) rfl, z_X9_isSide.1, z_X9_isSide.2.1, z_X9_isSide.2.2.1, z_X9_isSide.2.2.2⟩
theorem c_RX9_176 : CalV RX9 176 m_X9_viewOf 1 9 := ⟨lw_goodI (tb2 (List.mem_of_getElem? (i := 219) (by decide +kernel))) rfl, z_X9_viewOf.1, z_X9_viewOf.2.1, z_X9_viewOf.2.2.1, z_X9_viewOf.2.2.2.1, z_X9_viewOf.2.2.2.2, by decide, _, _, rfl⟩
theorem c_RX9_180 : CalV RX9 180 m_X8_lossUpTo 1 8 := ⟨lw_goodI (tb3 (List.mem_of_getElem? (i := 12) (by decide +kernel))) rfl, z_X8_lossUpTo.1, z_X8_lossUpTo.2.1, z_X8_lossUpTo.2.2.1, z_X8_lossUpTo.2.2.2.1, z_X8_lossUpTo.2.2.2.2, by decide, _, _, rfl⟩
theorem c_RX9_183 : CalS RX9 183 m_X9_isWidth 1 := ⟨lw_goodI (tb3 (List.mem_of_getElem? (i := 20) (by decide +kernel))) rfl, z_X9_isWidth.1, z_X9_isWidth.2.1, z_X9_isWidth.2.2.1, z_X9_isWidth.2.2.2⟩
theorem c_RX9_186 : CalS RX9 186 m_X9_isDistance 1 := ⟨lw_goodI (tb3 (List.mem_of_getElem? (i := 23) (by decide +kernel))) rfl, z_X9_isDistance.1, z_X9_isDistance.2.1, z_X9_isDistance.2.2.1, z_X9_isDistance.2.2.2⟩
theorem c_RX9_189 : CalV RX9 189 m_X9_traceOf 2 9 := ⟨lw_goodI (tb3 (List.mem_of_getElem? (i := 26) (by decide +kernel))) rfl, z_X9_traceOf.1, z_X9_traceOf.2.1, z_X9_traceOf.2.2.1, z_X9_traceOf.2.2.2.1, z_X9_traceOf.2.2.2.2, by decide, _, _, rfl⟩
theorem c_RX9_193 : CalV RX9 193 m_X7_at 1 7 := ⟨lw_goodI (tb3 (List.mem_of_getElem? (i := 62) (by decide +kernel))) rfl, z_X7_at.1, z_X7_at.2.1, z_X7_at.2.2.1, z_X7_at.2.2.2.1, z_X7_at.2.2.2.2, by decide, _, _, rfl⟩
theorem c_RX9_197 : CalV RX9 197 m_X9_stitchedAt 2 9 := ⟨lw_goodI (tb3 (List.mem_of_getElem? (i := 79) (by decide +kernel))) rfl, z_X9_stitchedAt.1, z_X9_stitchedAt.2.1, z_X9_stitchedAt.2.2.1, z_X9_stitchedAt.2.2.2.1, z_X9_stitchedAt.2.2.2.2, by decide, _, _, rfl⟩
theorem c_RX9_202 : CalV RX9 202 m_X9_eventsOf 2 9 := ⟨lw_goodI (tb3 (List.mem_of_getElem? (i := 92) (by decide +kernel))) rfl, z_X9_eventsOf.1, z_X9_eventsOf.2.1, z_X9_eventsOf.2.2.1, z_X9_eventsOf.2.2.2.1, z_X9_eventsOf.2.2.2.2, by decide, _, _, rfl⟩
theorem c_RX9_222 : CalV RX9 222 m_X1_ghostMirror 1 1 := ⟨lw_goodI (tb3 (List.mem_of_getElem? (i := 118) (by decide +kernel))) rfl, z_X1_ghostMirror.1, z_X1_ghostMirror.2.1, z_X1_ghostMirror.2.2.1, z_X1_ghostMirror.2.2.2.1, z_X1_ghostMirror.2.2.2.2, by decide, _, _, rfl⟩
theorem c_RX9_225 : CalV RX9 225 m_X1_ghostOrigin 1 1 := ⟨lw_goodI (tb3 (List.mem_of_getElem? (i := 131) (by decide +kernel))) rfl, z_X1_ghostOrigin.1, z_X1_ghostOrigin.2.1, z_X1_ghostOrigin.2.2.1, z_X1_ghostOrigin.2.2.2.1, z_X1_ghostOrigin.2.2.2.2, by decide, _, _, rfl⟩
theorem c_RX9_228 : CalV RX9 228 m_X1_firstEnd 0 1 := ⟨lw_goodI (tb3 (List.mem_of_getElem? (i := 144) (by decide +kernel))) rfl, z_X1_firstEnd.1, z_X1_firstEnd.2.1, z_X1_firstEnd.2.2.1, z_X1_firstEnd.2.2.2.1, z_X1_firstEnd.2.2.2.2, by decide, _, _, rfl⟩
theorem c_RX9_231 : CalV RX9 231 m_X9_joinSides 2 9 := ⟨lw_goodI (tb3 (List.mem_of_getElem? (i := 152) (by decide +kernel))) rfl, z_X9_joinSides.1, z_X9_joinSides.2.1, z_X9_joinSides.2.2.1, z_X9_joinSides.2.2.2.1, z_X9_joinSides.2.2.2.2, by decide, _, _, rfl⟩
theorem c_RX9_242 : CalV RX9 242 m_X1_lossOf 1 1 := ⟨lw_goodI (tb3 (List.mem_of_getElem? (i := 181) (by decide +kernel))) rfl, z_X1_lossOf.1, z_X1_lossOf.2.1, z_X1_lossOf.2.2.1, z_X1_lossOf.2.2.2.1, z_X1_lossOf.2.2.2.2, by decide, _, _, rfl⟩
theorem c_RX9_248 : CalV RX9 248 m_X0_append 2 0 := ⟨lw_goodI (tb3 (List.mem_of_getElem? (i := 189) (by decide +kernel))) rfl, z_X0_append.1, z_X0_append.2.1, z_X0_append.2.2.1, z_X0_append.2.2.2.1, z_X0_append.2.2.2.2, by decide, _, _, rfl⟩
theorem c_RX9_253 : CalV RX9 253 m_X0_reachOf 1 0 := ⟨lw_goodI (tb3 (List.mem_of_getElem? (i := 205) (by decide +kernel))) rfl, z_X0_reachOf.1, z_X0_reachOf.2.1, z_X0_reachOf.2.2.1, z_X0_reachOf.2.2.2.1, z_X0_reachOf.2.2.2.2, by decide, _, _, rfl⟩
theorem c_RX9_256 : CalV RX9 256 m_X0_routeOf 1 0 := ⟨lw_goodI (tb3 (List.mem_of_getElem? (i := 217) (by decide +kernel))) rfl, z_X0_routeOf.1, z_X0_routeOf.2.1, z_X0_routeOf.2.2.1, z_X0_routeOf.2.2.2.1, z_X0_routeOf.2.2.2.2, by decide, _, _, rfl⟩
theorem c_RX9_259 : CalV RX9 259 m_X0_lastReached 1 0 := ⟨lw_goodI (tb3 (List.mem_of_getElem? (i := 226) (by decide +kernel))) rfl, z_X0_lastReached.1, z_X0_lastReached.2.1, z_X0_lastReached.2.2.1, z_X0_lastReached.2.2.2.1, z_X0_lastReached.2.2.2.2, by decide, _, _, rfl⟩
theorem c_RX9_262 : CalV RX9 262 m_X9_routeOfEnd 2 9 := ⟨lw_goodI (tb3 (List.mem_of_getElem? (i := 234) (by decide +kernel))) rfl, z_X9_routeOfEnd.1, z_X9_routeOfEnd.2.1, z_X9_routeOfEnd.2.2.1, z_X9_routeOfEnd.2.2.2.1, z_X9_routeOfEnd.2.2.2.2, by decide, _, _, rfl⟩
theorem c_RX9_265 : CalV RX9 265 m_X6_append 1 6 := ⟨lw_goodI (tb4 (List.mem_of_getElem? (i := 2) (by decide +kernel))) rfl, z_X6_append.1, z_X6_append.2.1, z_X6_append.2.2.1, z_X6_append.2.2.2.1, z_X6_append.2.2.2.2, by decide, _, _, rfl⟩
theorem c_RX9_267 : CalV RX9 267 m_X6_readInto 1 6 := ⟨lw_goodI (tb4 (List.mem_of_getElem? (i := 14) (by decide +kernel))) rfl, z_X6_readInto.1, z_X6_readInto.2.1, z_X6_readInto.2.2.1, z_X6_readInto.2.2.2.1, z_X6_readInto.2.2.2.2, by decide, _, _, rfl⟩
theorem c_RX9_271 : CalV RX9 271 m_X2_copyFrom 1 2 := ⟨lw_goodI (tb4 (List.mem_of_getElem? (i := 45) (by decide +kernel))) rfl, z_X2_copyFrom.1, z_X2_copyFrom.2.1, z_X2_copyFrom.2.2.1, z_X2_copyFrom.2.2.2.1, z_X2_copyFrom.2.2.2.2, by decide, _, _, rfl⟩
theorem c_RX9_281 : CalS RX9 281 m_J9_min_7cf53 2 := ⟨lw_goodI (tb2 (List.mem_of_getElem? (i := 133) (by decide +kernel))) rfl, z_J9_min_7cf53.1, z_J9_min_7cf53.2.1, z_J9_min_7cf53.2.2.1, z_J9_min_7cf53.2.2.2⟩
theorem c_RX9_292 : CalV RX9 292 m_X3_keep 1 3 := ⟨lw_goodI (tb2 (List.mem_of_getElem? (i := 118) (by decide +kernel))) rfl, z_X3_keep.1, z_X3_keep.2.1, z_X3_keep.2.2.1, z_X3_keep.2.2.2.1, z_X3_keep.2.2.2.2, by decide, _, _, rfl⟩
theorem c_RX9_298 : CalV RX9 298 m_X8_look 2 8 := ⟨lw_goodI (tb2 (List.mem_of_getElem? (i := 223) (by decide +kernel))) rfl, z_X8_look.1, z_X8_look.2.1, z_X8_look.2.2.1, z_X8_look.2.2.2.1, z_X8_look.2.2.2.2, by decide, _, _, rfl⟩
theorem c_RX9_302 : CalS RX9 302 m_X9_slotOf 2 := ⟨lw_goodI (tb3 (List.mem_of_getElem? (i := 30) (by decide +kernel))) rfl, z_X9_slotOf.1, z_X9_slotOf.2.1, z_X9_slotOf.2.2.1, z_X9_slotOf.2.2.2⟩
theorem c_RX9_309 : CalV RX9 309 m_X7_compute 2 7 := ⟨lw_goodI (tb3 (List.mem_of_getElem? (i := 35) (by decide +kernel))) rfl, z_X7_compute.1, z_X7_compute.2.1, z_X7_compute.2.2.1, z_X7_compute.2.2.2.1, z_X7_compute.2.2.2.2, by decide, _, _, rfl⟩
theorem c_RX9_318 : CalV RX9 318 m_X1_find 3 1 := ⟨lw_goodI (tb3 (List.mem_of_getElem? (i := 96) (by decide +kernel))) rfl, z_X1_find.1, z_X1_find.2.1, z_X1_find.2.2.1, z_X1_find.2.2.2.1, z_X1_find.2.2.2.2, by decide, _, _, rfl⟩
theorem c_RX9_322 : CalV RX9 322 m_X4_pair 4 4 := ⟨lw_goodI (tb3 (List.mem_of_getElem? (i := 156) (by decide +kernel))) rfl, z_X4_pair.1, z_X4_pair.2.1, z_X4_pair.2.2.1, z_X4_pair.2.2.2.1, z_X4_pair.2.2.2.2, by decide, _, _, rfl⟩
end
section
theorem dX9_isWithin_0 : decode cX9_isWithin 0 = .ok (.iload_n 0, 1) := by decide +kernel
theorem dX9_isWithin_1 : decode cX9_isWithin 1 = .ok (.iload_n 1, 1) := by decide +kernel
theorem dX9_isWithin_2 : decode cX9_isWithin 2 = .ok (.if_icmp .lt 12, 3) := by decide +kernel
theorem dX9_isWithin_5 : decode cX9_isWithin 5 = .ok (.iload_n 0, 1) := by decide +kernel
theorem dX9_isWithin_6 : decode cX9_isWithin 6 = .ok (.iload_n 2, 1) := by decide +kernel
theorem dX9_isWithin_7 : decode cX9_isWithin 7 = .ok (.if_icmp .gt 7, 3) := by decide +kernel
theorem dX9_isWithin_10 : decode cX9_isWithin 10 = .ok (.iconst 1, 1) := by decide +kernel
theorem dX9_isWithin_11 : decode cX9_isWithin 11 = .ok (.goto 4, 3) := by decide +kernel
theorem dX9_isWithin_14 : decode cX9_isWithin 14 = .ok (.iconst 0, 1) := by decide +kernel
theorem dX9_isWithin_15 : decode cX9_isWithin 15 = .ok (.ireturn, 1) := by decide +kernel
set_option maxRecDepth 100000 in
theorem b_X9_isWithin_0 {E : fxE} (hW : fx_Wt E) (x0 : Int) (x1 : Int) (x2 : Int) (M : fxM) (Q : Option fxV → fxM → Prop)  (h : (-2147483648 ≤ x0 ∧ x0 < 2147483648) ∧ (-2147483648 ≤ x1 ∧ x1 < 2147483648) ∧ ((x0 < x1 → Q (some (.inl 0)) M) ∧ (¬ x0 < x1 → (-2147483648 ≤ x2 ∧ x2 < 2147483648) ∧ ((x2 < x0 → Q (some (.inl 0)) M) ∧ (¬ x2 < x0 → Q (some (.inl 1)) M))))) : fx_At E m_X9_isWithin 0 [some (.inl x0), some (.inl x1), some (.inl x2)] [] M Q := by
  refine x_iload_n (pc := 0) dX9_isWithin_0 rfl rfl ?_
  refine x_iload_n (pc := 1) dX9_isWithin_1 rfl rfl ?_
  obtain ⟨g1, h⟩ := h
  obtain ⟨g2, h⟩ := h
  refine x_clt (pc := 2) 14 dX9_isWithin_2 (by decide) ⟨g1, g2⟩ (fun hc => ?_) (fun hc => ?_)
  · replace h := h.1 hc
    refine x_iconst (pc := 14) dX9_isWithin_14 ?_
    exact x_iret (pc := 15) dX9_isWithin_15 (Or.inr ⟨rfl, by decide⟩) h
  · replace h := h.2 hc
    refine x_iload_n (pc := 5) dX9_isWithin_5 rfl rfl ?_
    refine x_iload_n (pc := 6) dX9_isWithin_6 rfl rfl ?_
    obtain ⟨g3, h⟩ := h
    refine x_cgt (pc := 7) 14 dX9_isWithin_7 (by decide) ⟨g1, g3⟩ (fun hc => ?_) (fun hc => ?_)
    · replace h := h.1 hc
      refine x_iconst (pc := 14) dX9_isWithin_14 ?_
      exact x_iret (pc := 15) dX9_isWithin_15 (Or.inr ⟨rfl, by decide⟩) h
    · replace h := h.2 hc
      refine x_iconst (pc := 10) dX9_isWithin_10 ?_
      refine x_goto (pc := 11) 15 dX9_isWithin_11 (by decide) ?_
      exact x_iret (pc := 15) dX9_isWithin_15 (Or.inr ⟨rfl, by decide⟩) h
theorem dX10_isIn_0 : decode cX10_isIn 0 = .ok (.iload_n 0, 1) := by decide +kernel
theorem dX10_isIn_1 : decode cX10_isIn 1 = .ok (.iload_n 1, 1) := by decide +kernel
theorem dX10_isIn_2 : decode cX10_isIn 2 = .ok (.if_icmp .lt 12, 3) := by decide +kernel
theorem dX10_isIn_5 : decode cX10_isIn 5 = .ok (.iload_n 0, 1) := by decide +kernel
theorem dX10_isIn_6 : decode cX10_isIn 6 = .ok (.iload_n 2, 1) := by decide +kernel
theorem dX10_isIn_7 : decode cX10_isIn 7 = .ok (.if_icmp .gt 7, 3) := by decide +kernel
theorem dX10_isIn_10 : decode cX10_isIn 10 = .ok (.iconst 1, 1) := by decide +kernel
theorem dX10_isIn_11 : decode cX10_isIn 11 = .ok (.goto 4, 3) := by decide +kernel
theorem dX10_isIn_14 : decode cX10_isIn 14 = .ok (.iconst 0, 1) := by decide +kernel
theorem dX10_isIn_15 : decode cX10_isIn 15 = .ok (.ireturn, 1) := by decide +kernel
set_option maxRecDepth 100000 in
theorem b_X10_isIn_0 {E : fxE} (hW : fx_Wt E) (x0 : Int) (x1 : Int) (x2 : Int) (M : fxM) (Q : Option fxV → fxM → Prop)  (h : (-2147483648 ≤ x0 ∧ x0 < 2147483648) ∧ (-2147483648 ≤ x1 ∧ x1 < 2147483648) ∧ ((x0 < x1 → Q (some (.inl 0)) M) ∧ (¬ x0 < x1 → (-2147483648 ≤ x2 ∧ x2 < 2147483648) ∧ ((x2 < x0 → Q (some (.inl 0)) M) ∧ (¬ x2 < x0 → Q (some (.inl 1)) M))))) : fx_At E m_X10_isIn 0 [some (.inl x0), some (.inl x1), some (.inl x2)] [] M Q := by
  refine x_iload_n (pc := 0) dX10_isIn_0 rfl rfl ?_
  refine x_iload_n (pc := 1) dX10_isIn_1 rfl rfl ?_
  obtain ⟨g1, h⟩ := h
  obtain ⟨g2, h⟩ := h
  refine x_clt (pc := 2) 14 dX10_isIn_2 (by decide) ⟨g1, g2⟩ (fun hc => ?_) (fun hc => ?_)
  · replace h := h.1 hc
    refine x_iconst (pc := 14) dX10_isIn_14 ?_
    exact x_iret (pc := 15) dX10_isIn_15 (Or.inr ⟨rfl, by decide⟩) h
  · replace h := h.2 hc
    refine x_iload_n (pc := 5) dX10_isIn_5 rfl rfl ?_
    refine x_iload_n (pc := 6) dX10_isIn_6 rfl rfl ?_
    obtain ⟨g3, h⟩ := h
    refine x_cgt (pc := 7) 14 dX10_isIn_7 (by decide) ⟨g1, g3⟩ (fun hc => ?_) (fun hc => ?_)
    · replace h := h.1 hc
      refine x_iconst (pc := 14) dX10_isIn_14 ?_
      exact x_iret (pc := 15) dX10_isIn_15 (Or.inr ⟨rfl, by decide⟩) h
    · replace h := h.2 hc
      refine x_iconst (pc := 10) dX10_isIn_10 ?_
      refine x_goto (pc := 11) 15 dX10_isIn_11 (by decide) ?_
      exact x_iret (pc := 15) dX10_isIn_15 (Or.inr ⟨rfl, by decide⟩) h
theorem dJ7_fill_53178_0 : decode cJ7_fill_53178 0 = .ok (.iconst 0, 1) := by decide +kernel
theorem dJ7_fill_53178_1 : decode cJ7_fill_53178 1 = .ok (.istore_n 2, 1) := by decide +kernel
theorem dJ7_fill_53178_2 : decode cJ7_fill_53178 2 = .ok (.aload_n 0, 1) := by decide +kernel
theorem dJ7_fill_53178_3 : decode cJ7_fill_53178 3 = .ok (.arraylength, 1) := by decide +kernel
theorem dJ7_fill_53178_4 : decode cJ7_fill_53178 4 = .ok (.istore_n 3, 1) := by decide +kernel
theorem dJ7_fill_53178_5 : decode cJ7_fill_53178 5 = .ok (.iload_n 2, 1) := by decide +kernel
theorem dJ7_fill_53178_6 : decode cJ7_fill_53178 6 = .ok (.iload_n 3, 1) := by decide +kernel
theorem dJ7_fill_53178_7 : decode cJ7_fill_53178 7 = .ok (.if_icmp .ge 13, 3) := by decide +kernel
theorem dJ7_fill_53178_10 : decode cJ7_fill_53178 10 = .ok (.aload_n 0, 1) := by decide +kernel
theorem dJ7_fill_53178_11 : decode cJ7_fill_53178 11 = .ok (.iload_n 2, 1) := by decide +kernel
theorem dJ7_fill_53178_12 : decode cJ7_fill_53178 12 = .ok (.iload_n 1, 1) := by decide +kernel
theorem dJ7_fill_53178_13 : decode cJ7_fill_53178 13 = .ok (.iastore, 1) := by decide +kernel
theorem dJ7_fill_53178_14 : decode cJ7_fill_53178 14 = .ok (.iinc 2 1, 3) := by decide +kernel
theorem dJ7_fill_53178_17 : decode cJ7_fill_53178 17 = .ok (.goto (-12), 3) := by decide +kernel
theorem dJ7_fill_53178_20 : decode cJ7_fill_53178 20 = .ok (.return_, 1) := by decide +kernel
set_option maxRecDepth 100000 in
theorem b_J7_fill_53178_0 {E : fxE} (hW : fx_Wt E) (a0 : Nat) (x1 : Int) (M : fxM) (Q : Option fxV → fxM → Prop) (hk0 : kd E a0 = 11) (h : fx_At E m_J7_fill_53178 5 [some (.inr a0), some (.inl x1), some (.inl 0), some (.inl (ln E a0 : Int))] [] M Q) : fx_At E m_J7_fill_53178 0 [some (.inr a0), some (.inl x1), none, none] [] M Q := by
  refine x_iconst (pc := 0) dJ7_fill_53178_0 ?_
  refine x_istore_n (pc := 1) (lv' := [some (.inr a0), some (.inl x1), some (.inl 0), none]) dJ7_fill_53178_1 rfl (by decide) rfl ?_
  refine x_aload_n (pc := 2) dJ7_fill_53178_2 rfl rfl ?_
  refine x_alen (pc := 3) dJ7_fill_53178_3 hk0 (by decide) (by decide) rfl ?_
  refine x_istore_n (pc := 4) (lv' := [some (.inr a0), some (.inl x1), some (.inl 0), some (.inl (ln E a0 : Int))]) dJ7_fill_53178_4 rfl (by decide) rfl ?_
  exact h
set_option maxRecDepth 100000 in
theorem b_J7_fill_53178_5 {E : fxE} (hW : fx_Wt E) (a0 : Nat) (x1 : Int) (x2 : Int) (x3 : Int) (M : fxM) (Q : Option fxV → fxM → Prop) (hk0 : kd E a0 = 11) (h : (-2147483648 ≤ x2 ∧ x2 < 2147483648) ∧ (-2147483648 ≤ x3 ∧ x3 < 2147483648) ∧ ((x3 ≤ x2 → Q none M) ∧ (¬ x3 ≤ x2 → (0 ≤ x2 ∧ x2 < (ln E a0 : Int)) ∧ ∀ M4 : fxM, M4 = mset M a0 (x2.toNat) x1 → fx_At E m_J7_fill_53178 5 [some (.inr a0), some (.inl x1), some (.inl (x2 + 1)), some (.inl x3)] [] M4 Q))) : fx_At E m_J7_fill_53178 5 [some (.inr a0), some (.inl x1), some (.inl x2), some (.inl x3)] [] M Q := by
  refine x_iload_n (pc := 5) dJ7_fill_53178_5 rfl rfl ?_
  refine x_iload_n (pc := 6) dJ7_fill_53178_6 rfl rfl ?_
  obtain ⟨g1, h⟩ := h
  obtain ⟨g2, h⟩ := h
  refine x_cge (pc := 7) 20 dJ7_fill_53178_7 (by decide) ⟨g1, g2⟩ (fun hc => ?_) (fun hc => ?_)
  · replace h := h.1 hc
    exact x_vret (pc := 20) dJ7_fill_53178_20 rfl h
  · replace h := h.2 hc
    refine x_aload_n (pc := 10) dJ7_fill_53178_10 rfl rfl ?_
    refine x_iload_n (pc := 11) dJ7_fill_53178_11 rfl rfl ?_
    refine x_iload_n (pc := 12) dJ7_fill_53178_12 rfl rfl ?_
    obtain ⟨g3, h⟩ := h
    refine x_iast (pc := 13) dJ7_fill_53178_13 hk0 rfl g3 (fun M4 hM4 => ?_)
    replace h := h M4 hM4
    refine x_iinc (pc := 14) (lv' := [some (.inr a0), some (.inl x1), some (.inl (x2 + 1)), some (.inl x3)]) dJ7_fill_53178_14 rfl (by decide) rfl ?_
    refine x_goto (pc := 17) 5 dJ7_fill_53178_17 (by decide) ?_
    exact h
end
section
/-! contracts of the leaves -/
theorem ct_isWithin {E : fxE} {M : fxM} (hW : fx_Wt E) {v lo hi : Int} (h1 : inR v) (h2 : inR lo) (h3 : inR hi) : CtB E m_X9_isWithin [.inl v, .inl lo, .inl hi] M (lo ≤ v ∧ v ≤ hi) := by
  refine x_ct (by decide) (Nat.le_of_ble_eq_true rfl) (b_X9_isWithin_0 hW v lo hi M _ ⟨h1, h2, ?_, ?_⟩)
  · intro h
    exact ⟨rfl, Or.inr ⟨by omega, rfl⟩⟩
  · intro h
    refine ⟨h3, ?_, ?_⟩
    · intro h'
      exact ⟨rfl, Or.inr ⟨by omega, rfl⟩⟩
    · intro h'
      exact ⟨rfl, Or.inl ⟨by omega, rfl⟩⟩
theorem ct_isIn {E : fxE} {M : fxM} (hW : fx_Wt E) {v lo hi : Int} (h1 : inR v) (h2 : inR lo) (h3 : inR hi) : CtB E m_X10_isIn [.inl v, .inl lo, .inl hi] M (lo ≤ v ∧ v ≤ hi) := by
  refine x_ct (by decide) (Nat.le_of_ble_eq_true rfl) (b_X10_isIn_0 hW v lo hi M _ ⟨h1, h2, ?_, ?_⟩)
  · intro h
    exact ⟨rfl, Or.inr ⟨by omega, rfl⟩⟩
  · intro h
    refine ⟨h3, ?_, ?_⟩
    · intro h'
      exact ⟨rfl, Or.inr ⟨by omega, rfl⟩⟩
    · intro h'
      exact ⟨rfl, Or.inl ⟨by omega, rfl⟩⟩
/-! Math's own: by the kit's rows -/
theorem kw_max : Cond.code Lib.Math.max.name Lib.Math.max.code 2 (some .int) ∈ lw_good := lw_goodI (by decide +kernel) rfl
theorem kw_min : Cond.code Lib.Math.min.name Lib.Math.min.code 2 (some .int) ∈ lw_good := lw_goodI (by decide +kernel) rfl
theorem kw_abs : Cond.code Lib.Math.abs.name Lib.Math.abs.code 1 (some .int) ∈ lw_good := lw_goodI (by decide +kernel) rfl
section
variable {E : fxE} {y : fxY} {pc : Nat} {lv : List (Option fxV)} {stk : List fxV} {M : fxM} {Q : Option fxV → fxM → Prop}
theorem x_mmax {i : Nat} {a b : Int} (hd : decode (mC y) pc = .ok (.invokestatic i, 3)) (hc : CalS (mN y).cls i m_J9_max_7cf53 2) (hf : 1 ≤ mF y ∧ stk.length + 13 ≤ mO y) (hr : inR a ∧ inR b) (kk : fx_At E y (pc + 3) lv (.inl (max a b) :: stk) M Q) : fx_At E y pc lv (.inl b :: .inl a :: stk) M Q := by
  intro hO p l e s m args below meth c C0 H locs ls hS hl hP
  obtain ⟨hx, hbc, hml, _, hlk, hown, hts, hK, hst, hns⟩ := id C0
  have h := kk hO p l e s m args below meth c C0 H locs ls hS hl hP
  refine va_mmax (x := i3 a) (y := i3 b) hx hbc (hml.trans hl.1.symm) hown (fx_w hts hc.1) (fx_w hts hc.2.1) (fx_w hts hc.2.2.1) (fx_w hts kw_max) hf.1 (by rw [fx_cat]; exact hf.2) (Nat.zero_le _) (Nat.zero_le _) hd ?_
  by_cases g : a < b
  · rw [if_pos ((i3_lt hr.1 hr.2).mpr g)]
    rw [show max a b = b by omega] at h
    exact h
  · rw [if_neg (fun z => g ((i3_lt hr.1 hr.2).mp z))]
    rw [show max a b = a by omega] at h
    exact h
theorem x_mmin {i : Nat} {a b : Int} (hd : decode (mC y) pc = .ok (.invokestatic i, 3)) (hc : CalS (mN y).cls i m_J9_min_7cf53 2) (hf : 1 ≤ mF y ∧ stk.length + 13 ≤ mO y) (hr : inR a ∧ inR b) (kk : fx_At E y (pc + 3) lv (.inl (min a b) :: stk) M Q) : fx_At E y pc lv (.inl b :: .inl a :: stk) M Q := by
  intro hO p l e s m args below meth c C0 H locs ls hS hl hP
  obtain ⟨hx, hbc, hml, _, hlk, hown, hts, hK, hst, hns⟩ := id C0
  have h := kk hO p l e s m args below meth c C0 H locs ls hS hl hP
  refine va_mmin (x := i3 a) (y := i3 b) hx hbc (hml.trans hl.1.symm) hown (fx_w hts hc.1) (fx_w hts hc.2.1) (fx_w hts hc.2.2.1) (fx_w hts kw_min) hf.1 (by rw [fx_cat]; exact hf.2) (Nat.zero_le _) (Nat.zero_le _) hd ?_
  by_cases g : b < a
  · rw [if_pos ((i3_lt hr.2 hr.1).mpr g)]
    rw [show min a b = b by omega] at h
    exact h
  · rw [if_neg (fun z => g ((i3_lt hr.2 hr.1).mp z))]
    rw [show min a b = a by omega] at h
    exact h
theorem x_mabs {i : Nat} {a : Int} (hd : decode (mC y) pc = .ok (.invokestatic i, 3)) (hc : CalS (mN y).cls i m_J9_abs_0f7a4 1) (hf : 1 ≤ mF y ∧ stk.length + 13 ≤ mO y) (hr : inR a) (kk : fx_At E y (pc + 3) lv (.inl (if 0 ≤ a then a else -a) :: stk) M Q) : fx_At E y pc lv (.inl a :: stk) M Q := by
  intro hO p l e s m args below meth c C0 H locs ls hS hl hP
  obtain ⟨hx, hbc, hml, _, hlk, hown, hts, hK, hst, hns⟩ := id C0
  have h := kk hO p l e s m args below meth c C0 H locs ls hS hl hP
  refine va_mabs (x := i3 a) hx hbc (hml.trans hl.1.symm) hown (fx_w hts hc.1) (fx_w hts hc.2.1) (fx_w hts hc.2.2.1) (fx_w hts kw_abs) hf.1 (by rw [fx_cat]; exact hf.2) (Nat.zero_le _) (Nat.zero_le _) hd ?_
  by_cases g : 0 ≤ a
  · rw [if_pos (show (0 : Int32) ≤ i3 a from (i3_le inR_0 hr).mpr g)]
    rw [if_pos g] at h
    exact h
  · rw [if_neg (show ¬ (0 : Int32) ≤ i3 a from fun z => g ((i3_le inR_0 hr).mp z))]
    rw [if_neg g] at h
    rw [show (0 : Int32) - i3 a = i3 (-a) by rw [← i3_0, ← i3_sub, Int.zero_sub]]
    exact h
end
end
section
theorem dX9_isSide_0 : decode cX9_isSide 0 = .ok (.iload_n 0, 1) := by decide +kernel
theorem dX9_isSide_1 : decode cX9_isSide 1 = .ok (.iconst 0, 1) := by decide +kernel
theorem dX9_isSide_2 : decode cX9_isSide 2 = .ok (.iconst 1, 1) := by decide +kernel
theorem dX9_isSide_3 : decode cX9_isSide 3 = .ok (.invokestatic 108, 3) := by decide +kernel
theorem dX9_isSide_6 : decode cX9_isSide 6 = .ok (.ireturn, 1) := by decide +kernel
set_option maxRecDepth 100000 in
theorem b_X9_isSide_0 {E : fxE} (hW : fx_Wt E) (x0 : Int) (M : fxM) (Q : Option fxV → fxM → Prop)  (h : (-2147483648 ≤ x0 ∧ x0 < 2147483648) ∧ (((0 : Int) ≤ x0 ∧ x0 ≤ (1 : Int) → Q (some (.inl 1)) M) ∧ (¬ ((0 : Int) ≤ x0 ∧ x0 ≤ (1 : Int)) → Q (some (.inl 0)) M))) : fx_At E m_X9_isSide 0 [some (.inl x0)] [] M Q := by
  refine x_iload_n (pc := 0) dX9_isSide_0 rfl rfl ?_
  refine x_iconst (pc := 1) dX9_isSide_1 ?_
  refine x_iconst (pc := 2) dX9_isSide_2 ?_
  obtain ⟨g1, h⟩ := h
  refine x_callS (pc := 3) (z := m_X9_isWithin) (as := [.inl x0, .inl 0, .inl 1]) (rest := []) dX9_isSide_3 c_RX9_108 (by decide) rfl (Nat.le_of_ble_eq_true rfl) (ct_isWithin hW g1 ⟨by decide, by decide⟩ ⟨by decide, by decide⟩) (fun r M9 hr => ?_)
  obtain ⟨hM9, hr⟩ := hr
  rw [hM9]
  clear hM9
  obtain ⟨hc, rfl⟩ | ⟨hc, rfl⟩ := hr
  · replace h := h.1 hc
    show fx_At E m_X9_isSide 6 [some (.inl x0)] [.inl 1] _ Q
    exact x_iret (pc := 6) dX9_isSide_6 (Or.inr ⟨rfl, by decide⟩) h
  · replace h := h.2 hc
    show fx_At E m_X9_isSide 6 [some (.inl x0)] [.inl 0] _ Q
    exact x_iret (pc := 6) dX9_isSide_6 (Or.inr ⟨rfl, by decide⟩) h
theorem dX9_isWidth_0 : decode cX9_isWidth 0 = .ok (.iload_n 0, 1) := by decide +kernel
theorem dX9_isWidth_1 : decode cX9_isWidth 1 = .ok (.iconst 1, 1) := by decide +kernel
theorem dX9_isWidth_2 : decode cX9_isWidth 2 = .ok (.bipush 9, 2) := by decide +kernel
theorem dX9_isWidth_4 : decode cX9_isWidth 4 = .ok (.invokestatic 108, 3) := by decide +kernel
theorem dX9_isWidth_7 : decode cX9_isWidth 7 = .ok (.ireturn, 1) := by decide +kernel
set_option maxRecDepth 100000 in
theorem b_X9_isWidth_0 {E : fxE} (hW : fx_Wt E) (x0 : Int) (M : fxM) (Q : Option fxV → fxM → Prop)  (h : (-2147483648 ≤ x0 ∧ x0 < 2147483648) ∧ (((1 : Int) ≤ x0 ∧ x0 ≤ (9 : Int) → Q (some (.inl 1)) M) ∧ (¬ ((1 : Int) ≤ x0 ∧ x0 ≤ (9 : Int)) → Q (some (.inl 0)) M))) : fx_At E m_X9_isWidth 0 [some (.inl x0)] [] M Q := by
  refine x_iload_n (pc := 0) dX9_isWidth_0 rfl rfl ?_
  refine x_iconst (pc := 1) dX9_isWidth_1 ?_
  refine x_bipush (pc := 2) dX9_isWidth_2 (by decide +kernel) ?_
  obtain ⟨g1, h⟩ := h
  refine x_callS (pc := 4) (z := m_X9_isWithin) (as := [.inl x0, .inl 1, .inl 9]) (rest := []) dX9_isWidth_4 c_RX9_108 (by decide) rfl (Nat.le_of_ble_eq_true rfl) (ct_isWithin hW g1 ⟨by decide, by decide⟩ ⟨by decide, by decide⟩) (fun r M9 hr => ?_)
  obtain ⟨hM9, hr⟩ := hr
  rw [hM9]
  clear hM9
  obtain ⟨hc, rfl⟩ | ⟨hc, rfl⟩ := hr
  · replace h := h.1 hc
    show fx_At E m_X9_isWidth 7 [some (.inl x0)] [.inl 1] _ Q
    exact x_iret (pc := 7) dX9_isWidth_7 (Or.inr ⟨rfl, by decide⟩) h
  · replace h := h.2 hc
    show fx_At E m_X9_isWidth 7 [some (.inl x0)] [.inl 0] _ Q
    exact x_iret (pc := 7) dX9_isWidth_7 (Or.inr ⟨rfl, by decide⟩) h
theorem dX9_isDistance_0 : decode cX9_isDistance 0 = .ok (.iload_n 0, 1) := by decide +kernel
theorem dX9_isDistance_1 : decode cX9_isDistance 1 = .ok (.iconst 0, 1) := by decide +kernel
theorem dX9_isDistance_2 : decode cX9_isDistance 2 = .ok (.sipush 400, 3) := by decide +kernel
theorem dX9_isDistance_5 : decode cX9_isDistance 5 = .ok (.invokestatic 108, 3) := by decide +kernel
theorem dX9_isDistance_8 : decode cX9_isDistance 8 = .ok (.ireturn, 1) := by decide +kernel
set_option maxRecDepth 100000 in
theorem b_X9_isDistance_0 {E : fxE} (hW : fx_Wt E) (x0 : Int) (M : fxM) (Q : Option fxV → fxM → Prop)  (h : (-2147483648 ≤ x0 ∧ x0 < 2147483648) ∧ (((0 : Int) ≤ x0 ∧ x0 ≤ (400 : Int) → Q (some (.inl 1)) M) ∧ (¬ ((0 : Int) ≤ x0 ∧ x0 ≤ (400 : Int)) → Q (some (.inl 0)) M))) : fx_At E m_X9_isDistance 0 [some (.inl x0)] [] M Q := by
  refine x_iload_n (pc := 0) dX9_isDistance_0 rfl rfl ?_
  refine x_iconst (pc := 1) dX9_isDistance_1 ?_
  refine x_sipush (pc := 2) dX9_isDistance_2 (by decide +kernel) ?_
  obtain ⟨g1, h⟩ := h
  refine x_callS (pc := 5) (z := m_X9_isWithin) (as := [.inl x0, .inl 0, .inl 400]) (rest := []) dX9_isDistance_5 c_RX9_108 (by decide) rfl (Nat.le_of_ble_eq_true rfl) (ct_isWithin hW g1 ⟨by decide, by decide⟩ ⟨by decide, by decide⟩) (fun r M9 hr => ?_)
  obtain ⟨hM9, hr⟩ := hr
  rw [hM9]
  clear hM9
  obtain ⟨hc, rfl⟩ | ⟨hc, rfl⟩ := hr
  · replace h := h.1 hc
    show fx_At E m_X9_isDistance 8 [some (.inl x0)] [.inl 1] _ Q
    exact x_iret (pc := 8) dX9_isDistance_8 (Or.inr ⟨rfl, by decide⟩) h
  · replace h := h.2 hc
    show fx_At E m_X9_isDistance 8 [some (.inl x0)] [.inl 0] _ Q
    exact x_iret (pc := 8) dX9_isDistance_8 (Or.inr ⟨rfl, by decide⟩) h
theorem dX9_isSection_0 : decode cX9_isSection 0 = .ok (.iload_n 0, 1) := by decide +kernel
theorem dX9_isSection_1 : decode cX9_isSection 1 = .ok (.iconst 1, 1) := by decide +kernel
theorem dX9_isSection_2 : decode cX9_isSection 2 = .ok (.bipush 100, 2) := by decide +kernel
theorem dX9_isSection_4 : decode cX9_isSection 4 = .ok (.invokestatic 108, 3) := by decide +kernel
theorem dX9_isSection_7 : decode cX9_isSection 7 = .ok (.ifCond .eq 28, 3) := by decide +kernel
theorem dX9_isSection_10 : decode cX9_isSection 10 = .ok (.iload_n 1, 1) := by decide +kernel
theorem dX9_isSection_11 : decode cX9_isSection 11 = .ok (.iconst 1, 1) := by decide +kernel
theorem dX9_isSection_12 : decode cX9_isSection 12 = .ok (.bipush 60, 2) := by decide +kernel
theorem dX9_isSection_14 : decode cX9_isSection 14 = .ok (.invokestatic 108, 3) := by decide +kernel
theorem dX9_isSection_17 : decode cX9_isSection 17 = .ok (.ifCond .eq 18, 3) := by decide +kernel
theorem dX9_isSection_20 : decode cX9_isSection 20 = .ok (.iload_n 2, 1) := by decide +kernel
theorem dX9_isSection_21 : decode cX9_isSection 21 = .ok (.iconst 0, 1) := by decide +kernel
theorem dX9_isSection_22 : decode cX9_isSection 22 = .ok (.sipush 2000, 3) := by decide +kernel
theorem dX9_isSection_25 : decode cX9_isSection 25 = .ok (.invokestatic 108, 3) := by decide +kernel
theorem dX9_isSection_28 : decode cX9_isSection 28 = .ok (.ifCond .eq 7, 3) := by decide +kernel
theorem dX9_isSection_31 : decode cX9_isSection 31 = .ok (.iconst 1, 1) := by decide +kernel
theorem dX9_isSection_32 : decode cX9_isSection 32 = .ok (.goto 4, 3) := by decide +kernel
theorem dX9_isSection_35 : decode cX9_isSection 35 = .ok (.iconst 0, 1) := by decide +kernel
theorem dX9_isSection_36 : decode cX9_isSection 36 = .ok (.ireturn, 1) := by decide +kernel
set_option maxRecDepth 100000 in
theorem b_X9_isSection_0 {E : fxE} (hW : fx_Wt E) (x0 : Int) (x1 : Int) (x2 : Int) (M : fxM) (Q : Option fxV → fxM → Prop)  (h : (-2147483648 ≤ x0 ∧ x0 < 2147483648) ∧ (((1 : Int) ≤ x0 ∧ x0 ≤ (100 : Int) → (-2147483648 ≤ x1 ∧ x1 < 2147483648) ∧ (((1 : Int) ≤ x1 ∧ x1 ≤ (60 : Int) → (-2147483648 ≤ x2 ∧ x2 < 2147483648) ∧ (((0 : Int) ≤ x2 ∧ x2 ≤ (2000 : Int) → Q (some (.inl 1)) M) ∧ (¬ ((0 : Int) ≤ x2 ∧ x2 ≤ (2000 : Int)) → Q (some (.inl 0)) M))) ∧ (¬ ((1 : Int) ≤ x1 ∧ x1 ≤ (60 : Int)) → Q (some (.inl 0)) M))) ∧ (¬ ((1 : Int) ≤ x0 ∧ x0 ≤ (100 : Int)) → Q (some (.inl 0)) M))) : fx_At E m_X9_isSection 0 [some (.inl x0), some (.inl x1), some (.inl x2)] [] M Q := by
  refine x_iload_n (pc := 0) dX9_isSection_0 rfl rfl ?_
  refine x_iconst (pc := 1) dX9_isSection_1 ?_
  refine x_bipush (pc := 2) dX9_isSection_2 (by decide +kernel) ?_
  obtain ⟨g1, h⟩ := h
  refine x_callS (pc := 4) (z := m_X9_isWithin) (as := [.inl x0, .inl 1, .inl 100]) (rest := []) dX9_isSection_4 c_RX9_108 (by decide) rfl (Nat.le_of_ble_eq_true rfl) (ct_isWithin hW g1 ⟨by decide, by decide⟩ ⟨by decide, by decide⟩) (fun r M9 hr => ?_)
  obtain ⟨hM9, hr⟩ := hr
  rw [hM9]
  clear hM9
  obtain ⟨hc, rfl⟩ | ⟨hc, rfl⟩ := hr
  · replace h := h.1 hc
    show fx_At E m_X9_isSection 7 [some (.inl x0), some (.inl x1), some (.inl x2)] [.inl 1] _ Q
    refine x_zeq (pc := 7) 35 dX9_isSection_7 (by decide) ⟨by decide, by decide⟩ (fun hx => absurd hx (by decide)) (fun _ => ?_)
    refine x_iload_n (pc := 10) dX9_isSection_10 rfl rfl ?_
    refine x_iconst (pc := 11) dX9_isSection_11 ?_
    refine x_bipush (pc := 12) dX9_isSection_12 (by decide +kernel) ?_
    obtain ⟨g3, h⟩ := h
    refine x_callS (pc := 14) (z := m_X9_isWithin) (as := [.inl x1, .inl 1, .inl 60]) (rest := []) dX9_isSection_14 c_RX9_108 (by decide) rfl (Nat.le_of_ble_eq_true rfl) (ct_isWithin hW g3 ⟨by decide, by decide⟩ ⟨by decide, by decide⟩) (fun r M9 hr => ?_)
    obtain ⟨hM9, hr⟩ := hr
    rw [hM9]
    clear hM9
    obtain ⟨hc, rfl⟩ | ⟨hc, rfl⟩ := hr
    · replace h := h.1 hc
      show fx_At E m_X9_isSection 17 [some (.inl x0), some (.inl x1), some (.inl x2)] [.inl 1] _ Q
      refine x_zeq (pc := 17) 35 dX9_isSection_17 (by decide) ⟨by decide, by decide⟩ (fun hx => absurd hx (by decide)) (fun _ => ?_)
      refine x_iload_n (pc := 20) dX9_isSection_20 rfl rfl ?_
      refine x_iconst (pc := 21) dX9_isSection_21 ?_
      refine x_sipush (pc := 22) dX9_isSection_22 (by decide +kernel) ?_
      obtain ⟨g5, h⟩ := h
      refine x_callS (pc := 25) (z := m_X9_isWithin) (as := [.inl x2, .inl 0, .inl 2000]) (rest := []) dX9_isSection_25 c_RX9_108 (by decide) rfl (Nat.le_of_ble_eq_true rfl) (ct_isWithin hW g5 ⟨by decide, by decide⟩ ⟨by decide, by decide⟩) (fun r M9 hr => ?_)
      obtain ⟨hM9, hr⟩ := hr
      rw [hM9]
      clear hM9
      obtain ⟨hc, rfl⟩ | ⟨hc, rfl⟩ := hr
      · replace h := h.1 hc
        show fx_At E m_X9_isSection 28 [some (.inl x0), some (.inl x1), some (.inl x2)] [.inl 1] _ Q
        refine x_zeq (pc := 28) 35 dX9_isSection_28 (by decide) ⟨by decide, by decide⟩ (fun hx => absurd hx (by decide)) (fun _ => ?_)
        refine x_iconst (pc := 31) dX9_isSection_31 ?_
        refine x_goto (pc := 32) 36 dX9_isSection_32 (by decide) ?_
        exact x_iret (pc := 36) dX9_isSection_36 (Or.inr ⟨rfl, by decide⟩) h
      · replace h := h.2 hc
        show fx_At E m_X9_isSection 28 [some (.inl x0), some (.inl x1), some (.inl x2)] [.inl 0] _ Q
        refine x_zeq (pc := 28) 35 dX9_isSection_28 (by decide) ⟨by decide, by decide⟩ (fun _ => ?_) (fun hx => absurd hx (by decide))
        refine x_iconst (pc := 35) dX9_isSection_35 ?_
        exact x_iret (pc := 36) dX9_isSection_36 (Or.inr ⟨rfl, by decide⟩) h
    · replace h := h.2 hc
      show fx_At E m_X9_isSection 17 [some (.inl x0), some (.inl x1), some (.inl x2)] [.inl 0] _ Q
      refine x_zeq (pc := 17) 35 dX9_isSection_17 (by decide) ⟨by decide, by decide⟩ (fun _ => ?_) (fun hx => absurd hx (by decide))
      refine x_iconst (pc := 35) dX9_isSection_35 ?_
      exact x_iret (pc := 36) dX9_isSection_36 (Or.inr ⟨rfl, by decide⟩) h
  · replace h := h.2 hc
    show fx_At E m_X9_isSection 7 [some (.inl x0), some (.inl x1), some (.inl x2)] [.inl 0] _ Q
    refine x_zeq (pc := 7) 35 dX9_isSection_7 (by decide) ⟨by decide, by decide⟩ (fun _ => ?_) (fun hx => absurd hx (by decide))
    refine x_iconst (pc := 35) dX9_isSection_35 ?_
    exact x_iret (pc := 36) dX9_isSection_36 (Or.inr ⟨rfl, by decide⟩) h
theorem dX10_isSection_0 : decode cX10_isSection 0 = .ok (.iload_n 0, 1) := by decide +kernel
theorem dX10_isSection_1 : decode cX10_isSection 1 = .ok (.iconst 1, 1) := by decide +kernel
theorem dX10_isSection_2 : decode cX10_isSection 2 = .ok (.bipush 100, 2) := by decide +kernel
theorem dX10_isSection_4 : decode cX10_isSection 4 = .ok (.invokestatic 74, 3) := by decide +kernel
theorem dX10_isSection_7 : decode cX10_isSection 7 = .ok (.ifCond .eq 28, 3) := by decide +kernel
theorem dX10_isSection_10 : decode cX10_isSection 10 = .ok (.iload_n 1, 1) := by decide +kernel
theorem dX10_isSection_11 : decode cX10_isSection 11 = .ok (.iconst 1, 1) := by decide +kernel
theorem dX10_isSection_12 : decode cX10_isSection 12 = .ok (.bipush 60, 2) := by decide +kernel
theorem dX10_isSection_14 : decode cX10_isSection 14 = .ok (.invokestatic 74, 3) := by decide +kernel
theorem dX10_isSection_17 : decode cX10_isSection 17 = .ok (.ifCond .eq 18, 3) := by decide +kernel
theorem dX10_isSection_20 : decode cX10_isSection 20 = .ok (.iload_n 2, 1) := by decide +kernel
theorem dX10_isSection_21 : decode cX10_isSection 21 = .ok (.iconst 0, 1) := by decide +kernel
theorem dX10_isSection_22 : decode cX10_isSection 22 = .ok (.sipush 2000, 3) := by decide +kernel
theorem dX10_isSection_25 : decode cX10_isSection 25 = .ok (.invokestatic 74, 3) := by decide +kernel
theorem dX10_isSection_28 : decode cX10_isSection 28 = .ok (.ifCond .eq 7, 3) := by decide +kernel
theorem dX10_isSection_31 : decode cX10_isSection 31 = .ok (.iconst 1, 1) := by decide +kernel
theorem dX10_isSection_32 : decode cX10_isSection 32 = .ok (.goto 4, 3) := by decide +kernel
theorem dX10_isSection_35 : decode cX10_isSection 35 = .ok (.iconst 0, 1) := by decide +kernel
theorem dX10_isSection_36 : decode cX10_isSection 36 = .ok (.ireturn, 1) := by decide +kernel
set_option maxRecDepth 100000 in
theorem b_X10_isSection_0 {E : fxE} (hW : fx_Wt E) (x0 : Int) (x1 : Int) (x2 : Int) (M : fxM) (Q : Option fxV → fxM → Prop)  (h : (-2147483648 ≤ x0 ∧ x0 < 2147483648) ∧ (((1 : Int) ≤ x0 ∧ x0 ≤ (100 : Int) → (-2147483648 ≤ x1 ∧ x1 < 2147483648) ∧ (((1 : Int) ≤ x1 ∧ x1 ≤ (60 : Int) → (-2147483648 ≤ x2 ∧ x2 < 2147483648) ∧ (((0 : Int) ≤ x2 ∧ x2 ≤ (2000 : Int) → Q (some (.inl 1)) M) ∧ (¬ ((0 : Int) ≤ x2 ∧ x2 ≤ (2000 : Int)) → Q (some (.inl 0)) M))) ∧ (¬ ((1 : Int) ≤ x1 ∧ x1 ≤ (60 : Int)) → Q (some (.inl 0)) M))) ∧ (¬ ((1 : Int) ≤ x0 ∧ x0 ≤ (100 : Int)) → Q (some (.inl 0)) M))) : fx_At E m_X10_isSection 0 [some (.inl x0), some (.inl x1), some (.inl x2)] [] M Q := by
  refine x_iload_n (pc := 0) dX10_isSection_0 rfl rfl ?_
  refine x_iconst (pc := 1) dX10_isSection_1 ?_
  refine x_bipush (pc := 2) dX10_isSection_2 (by decide +kernel) ?_
  obtain ⟨g1, h⟩ := h
  refine x_callS (pc := 4) (z := m_X10_isIn) (as := [.inl x0, .inl 1, .inl 100]) (rest := []) dX10_isSection_4 c_RX10_74 (by decide) rfl (Nat.le_of_ble_eq_true rfl) (ct_isIn hW g1 ⟨by decide, by decide⟩ ⟨by decide, by decide⟩) (fun r M9 hr => ?_)
  obtain ⟨hM9, hr⟩ := hr
  rw [hM9]
  clear hM9
  obtain ⟨hc, rfl⟩ | ⟨hc, rfl⟩ := hr
  · replace h := h.1 hc
    show fx_At E m_X10_isSection 7 [some (.inl x0), some (.inl x1), some (.inl x2)] [.inl 1] _ Q
    refine x_zeq (pc := 7) 35 dX10_isSection_7 (by decide) ⟨by decide, by decide⟩ (fun hx => absurd hx (by decide)) (fun _ => ?_)
    refine x_iload_n (pc := 10) dX10_isSection_10 rfl rfl ?_
    refine x_iconst (pc := 11) dX10_isSection_11 ?_
    refine x_bipush (pc := 12) dX10_isSection_12 (by decide +kernel) ?_
    obtain ⟨g3, h⟩ := h
    refine x_callS (pc := 14) (z := m_X10_isIn) (as := [.inl x1, .inl 1, .inl 60]) (rest := []) dX10_isSection_14 c_RX10_74 (by decide) rfl (Nat.le_of_ble_eq_true rfl) (ct_isIn hW g3 ⟨by decide, by decide⟩ ⟨by decide, by decide⟩) (fun r M9 hr => ?_)
    obtain ⟨hM9, hr⟩ := hr
    rw [hM9]
    clear hM9
    obtain ⟨hc, rfl⟩ | ⟨hc, rfl⟩ := hr
    · replace h := h.1 hc
      show fx_At E m_X10_isSection 17 [some (.inl x0), some (.inl x1), some (.inl x2)] [.inl 1] _ Q
      refine x_zeq (pc := 17) 35 dX10_isSection_17 (by decide) ⟨by decide, by decide⟩ (fun hx => absurd hx (by decide)) (fun _ => ?_)
      refine x_iload_n (pc := 20) dX10_isSection_20 rfl rfl ?_
      refine x_iconst (pc := 21) dX10_isSection_21 ?_
      refine x_sipush (pc := 22) dX10_isSection_22 (by decide +kernel) ?_
      obtain ⟨g5, h⟩ := h
      refine x_callS (pc := 25) (z := m_X10_isIn) (as := [.inl x2, .inl 0, .inl 2000]) (rest := []) dX10_isSection_25 c_RX10_74 (by decide) rfl (Nat.le_of_ble_eq_true rfl) (ct_isIn hW g5 ⟨by decide, by decide⟩ ⟨by decide, by decide⟩) (fun r M9 hr => ?_)
      obtain ⟨hM9, hr⟩ := hr
      rw [hM9]
      clear hM9
      obtain ⟨hc, rfl⟩ | ⟨hc, rfl⟩ := hr
      · replace h := h.1 hc
        show fx_At E m_X10_isSection 28 [some (.inl x0), some (.inl x1), some (.inl x2)] [.inl 1] _ Q
        refine x_zeq (pc := 28) 35 dX10_isSection_28 (by decide) ⟨by decide, by decide⟩ (fun hx => absurd hx (by decide)) (fun _ => ?_)
        refine x_iconst (pc := 31) dX10_isSection_31 ?_
        refine x_goto (pc := 32) 36 dX10_isSection_32 (by decide) ?_
        exact x_iret (pc := 36) dX10_isSection_36 (Or.inr ⟨rfl, by decide⟩) h
      · replace h := h.2 hc
        show fx_At E m_X10_isSection 28 [some (.inl x0), some (.inl x1), some (.inl x2)] [.inl 0] _ Q
        refine x_zeq (pc := 28) 35 dX10_isSection_28 (by decide) ⟨by decide, by decide⟩ (fun _ => ?_) (fun hx => absurd hx (by decide))
        refine x_iconst (pc := 35) dX10_isSection_35 ?_
        exact x_iret (pc := 36) dX10_isSection_36 (Or.inr ⟨rfl, by decide⟩) h
    · replace h := h.2 hc
      show fx_At E m_X10_isSection 17 [some (.inl x0), some (.inl x1), some (.inl x2)] [.inl 0] _ Q
      refine x_zeq (pc := 17) 35 dX10_isSection_17 (by decide) ⟨by decide, by decide⟩ (fun _ => ?_) (fun hx => absurd hx (by decide))
      refine x_iconst (pc := 35) dX10_isSection_35 ?_
      exact x_iret (pc := 36) dX10_isSection_36 (Or.inr ⟨rfl, by decide⟩) h
  · replace h := h.2 hc
    show fx_At E m_X10_isSection 7 [some (.inl x0), some (.inl x1), some (.inl x2)] [.inl 0] _ Q
    refine x_zeq (pc := 7) 35 dX10_isSection_7 (by decide) ⟨by decide, by decide⟩ (fun _ => ?_) (fun hx => absurd hx (by decide))
    refine x_iconst (pc := 35) dX10_isSection_35 ?_
    exact x_iret (pc := 36) dX10_isSection_36 (Or.inr ⟨rfl, by decide⟩) h
theorem dX10_isSide_0 : decode cX10_isSide 0 = .ok (.iload_n 0, 1) := by decide +kernel
theorem dX10_isSide_1 : decode cX10_isSide 1 = .ok (.iconst 0, 1) := by decide +kernel
theorem dX10_isSide_2 : decode cX10_isSide 2 = .ok (.iconst 1, 1) := by decide +kernel
theorem dX10_isSide_3 : decode cX10_isSide 3 = .ok (.invokestatic 74, 3) := by decide +kernel
theorem dX10_isSide_6 : decode cX10_isSide 6 = .ok (.ireturn, 1) := by decide +kernel
set_option maxRecDepth 100000 in
theorem b_X10_isSide_0 {E : fxE} (hW : fx_Wt E) (x0 : Int) (M : fxM) (Q : Option fxV → fxM → Prop)  (h : (-2147483648 ≤ x0 ∧ x0 < 2147483648) ∧ (((0 : Int) ≤ x0 ∧ x0 ≤ (1 : Int) → Q (some (.inl 1)) M) ∧ (¬ ((0 : Int) ≤ x0 ∧ x0 ≤ (1 : Int)) → Q (some (.inl 0)) M))) : fx_At E m_X10_isSide 0 [some (.inl x0)] [] M Q := by
  refine x_iload_n (pc := 0) dX10_isSide_0 rfl rfl ?_
  refine x_iconst (pc := 1) dX10_isSide_1 ?_
  refine x_iconst (pc := 2) dX10_isSide_2 ?_
  obtain ⟨g1, h⟩ := h
  refine x_callS (pc := 3) (z := m_X10_isIn) (as := [.inl x0, .inl 0, .inl 1]) (rest := []) dX10_isSide_3 c_RX10_74 (by decide) rfl (Nat.le_of_ble_eq_true rfl) (ct_isIn hW g1 ⟨by decide, by decide⟩ ⟨by decide, by decide⟩) (fun r M9 hr => ?_)
  obtain ⟨hM9, hr⟩ := hr
  rw [hM9]
  clear hM9
  obtain ⟨hc, rfl⟩ | ⟨hc, rfl⟩ := hr
  · replace h := h.1 hc
    show fx_At E m_X10_isSide 6 [some (.inl x0)] [.inl 1] _ Q
    exact x_iret (pc := 6) dX10_isSide_6 (Or.inr ⟨rfl, by decide⟩) h
  · replace h := h.2 hc
    show fx_At E m_X10_isSide 6 [some (.inl x0)] [.inl 0] _ Q
    exact x_iret (pc := 6) dX10_isSide_6 (Or.inr ⟨rfl, by decide⟩) h
theorem dX10_isJoint_0 : decode cX10_isJoint 0 = .ok (.iload_n 1, 1) := by decide +kernel
theorem dX10_isJoint_1 : decode cX10_isJoint 1 = .ok (.iconst 0, 1) := by decide +kernel
theorem dX10_isJoint_2 : decode cX10_isJoint 2 = .ok (.aload_n 0, 1) := by decide +kernel
theorem dX10_isJoint_3 : decode cX10_isJoint 3 = .ok (.getfield 7, 3) := by decide +kernel
theorem dX10_isJoint_6 : decode cX10_isJoint 6 = .ok (.iconst 0, 1) := by decide +kernel
theorem dX10_isJoint_7 : decode cX10_isJoint 7 = .ok (.iaload, 1) := by decide +kernel
theorem dX10_isJoint_8 : decode cX10_isJoint 8 = .ok (.invokestatic 74, 3) := by decide +kernel
theorem dX10_isJoint_11 : decode cX10_isJoint 11 = .ok (.ireturn, 1) := by decide +kernel
set_option maxRecDepth 100000 in
theorem b_X10_isJoint_0 {E : fxE} (hW : fx_Wt E) (a0 : Nat) (x1 : Int) (M : fxM) (Q : Option fxV → fxM → Prop) (hk0 : kd E a0 = 10) (h : (-2147483648 ≤ x1 ∧ x1 < 2147483648) ∧ (-2147483648 ≤ (M (rf E a0 0) 0) ∧ (M (rf E a0 0) 0) < 2147483648) ∧ (((0 : Int) ≤ x1 ∧ x1 ≤ (M (rf E a0 0) 0) → Q (some (.inl 1)) M) ∧ (¬ ((0 : Int) ≤ x1 ∧ x1 ≤ (M (rf E a0 0) 0)) → Q (some (.inl 0)) M))) : fx_At E m_X10_isJoint 0 [some (.inr a0), some (.inl x1)] [] M Q := by
  refine x_iload_n (pc := 0) dX10_isJoint_0 rfl rfl ?_
  refine x_iconst (pc := 1) dX10_isJoint_1 ?_
  refine x_aload_n (pc := 2) dX10_isJoint_2 rfl rfl ?_
  refine x_getr (pc := 3) dX10_isJoint_3 f_RX10_7 hk0 ?_
  refine x_iconst (pc := 6) dX10_isJoint_6 ?_
  refine x_iald (pc := 7) dX10_isJoint_7 (wk_10_0 hW hk0) (wl_10_0 hW hk0) ⟨by decide, by decide⟩ ?_
  obtain ⟨g1, h⟩ := h
  obtain ⟨g2, h⟩ := h
  refine x_callS (pc := 8) (z := m_X10_isIn) (as := [.inl x1, .inl 0, .inl (M (rf E a0 0) 0)]) (rest := []) dX10_isJoint_8 c_RX10_74 (by decide) rfl (Nat.le_of_ble_eq_true rfl) (ct_isIn hW g1 ⟨by decide, by decide⟩ g2) (fun r M9 hr => ?_)
  obtain ⟨hM9, hr⟩ := hr
  rw [hM9]
  clear hM9
  obtain ⟨hc, rfl⟩ | ⟨hc, rfl⟩ := hr
  · replace h := h.1 hc
    show fx_At E m_X10_isJoint 11 [some (.inr a0), some (.inl x1)] [.inl 1] _ Q
    exact x_iret (pc := 11) dX10_isJoint_11 (Or.inr ⟨rfl, by decide⟩) h
  · replace h := h.2 hc
    show fx_At E m_X10_isJoint 11 [some (.inr a0), some (.inl x1)] [.inl 0] _ Q
    exact x_iret (pc := 11) dX10_isJoint_11 (Or.inr ⟨rfl, by decide⟩) h
theorem dX10_isBend_0 : decode cX10_isBend 0 = .ok (.iload_n 1, 1) := by decide +kernel
theorem dX10_isBend_1 : decode cX10_isBend 1 = .ok (.iconst 0, 1) := by decide +kernel
theorem dX10_isBend_2 : decode cX10_isBend 2 = .ok (.aload_n 0, 1) := by decide +kernel
theorem dX10_isBend_3 : decode cX10_isBend 3 = .ok (.getfield 7, 3) := by decide +kernel
theorem dX10_isBend_6 : decode cX10_isBend 6 = .ok (.bipush 43, 2) := by decide +kernel
theorem dX10_isBend_8 : decode cX10_isBend 8 = .ok (.iaload, 1) := by decide +kernel
theorem dX10_isBend_9 : decode cX10_isBend 9 = .ok (.iconst 1, 1) := by decide +kernel
theorem dX10_isBend_10 : decode cX10_isBend 10 = .ok (.isub, 1) := by decide +kernel
theorem dX10_isBend_11 : decode cX10_isBend 11 = .ok (.invokestatic 74, 3) := by decide +kernel
theorem dX10_isBend_14 : decode cX10_isBend 14 = .ok (.ireturn, 1) := by decide +kernel
set_option maxRecDepth 100000 in
theorem b_X10_isBend_0 {E : fxE} (hW : fx_Wt E) (a0 : Nat) (x1 : Int) (M : fxM) (Q : Option fxV → fxM → Prop) (hk0 : kd E a0 = 10) (h : (-2147483648 ≤ x1 ∧ x1 < 2147483648) ∧ (-2147483648 ≤ ((M (rf E a0 0) 43) - 1) ∧ ((M (rf E a0 0) 43) - 1) < 2147483648) ∧ (((0 : Int) ≤ x1 ∧ x1 ≤ ((M (rf E a0 0) 43) - 1) → Q (some (.inl 1)) M) ∧ (¬ ((0 : Int) ≤ x1 ∧ x1 ≤ ((M (rf E a0 0) 43) - 1)) → Q (some (.inl 0)) M))) : fx_At E m_X10_isBend 0 [some (.inr a0), some (.inl x1)] [] M Q := by
  refine x_iload_n (pc := 0) dX10_isBend_0 rfl rfl ?_
  refine x_iconst (pc := 1) dX10_isBend_1 ?_
  refine x_aload_n (pc := 2) dX10_isBend_2 rfl rfl ?_
  refine x_getr (pc := 3) dX10_isBend_3 f_RX10_7 hk0 ?_
  refine x_bipush (pc := 6) dX10_isBend_6 (by decide +kernel) ?_
  refine x_iald (pc := 8) dX10_isBend_8 (wk_10_0 hW hk0) (wl_10_0 hW hk0) ⟨by decide, by decide⟩ ?_
  refine x_iconst (pc := 9) dX10_isBend_9 ?_
  refine x_isub (pc := 10) dX10_isBend_10 ?_
  obtain ⟨g1, h⟩ := h
  obtain ⟨g2, h⟩ := h
  refine x_callS (pc := 11) (z := m_X10_isIn) (as := [.inl x1, .inl 0, .inl ((M (rf E a0 0) 43) - 1)]) (rest := []) dX10_isBend_11 c_RX10_74 (by decide) rfl (Nat.le_of_ble_eq_true rfl) (ct_isIn hW g1 ⟨by decide, by decide⟩ g2) (fun r M9 hr => ?_)
  obtain ⟨hM9, hr⟩ := hr
  rw [hM9]
  clear hM9
  obtain ⟨hc, rfl⟩ | ⟨hc, rfl⟩ := hr
  · replace h := h.1 hc
    show fx_At E m_X10_isBend 14 [some (.inr a0), some (.inl x1)] [.inl 1] _ Q
    exact x_iret (pc := 14) dX10_isBend_14 (Or.inr ⟨rfl, by decide⟩) h
  · replace h := h.2 hc
    show fx_At E m_X10_isBend 14 [some (.inr a0), some (.inl x1)] [.inl 0] _ Q
    exact x_iret (pc := 14) dX10_isBend_14 (Or.inr ⟨rfl, by decide⟩) h
theorem dX7_at_0 : decode cX7_at 0 = .ok (.iload_n 1, 1) := by decide +kernel
theorem dX7_at_1 : decode cX7_at 1 = .ok (.ifCond .lt 21, 3) := by decide +kernel
theorem dX7_at_4 : decode cX7_at 4 = .ok (.iload_n 1, 1) := by decide +kernel
theorem dX7_at_5 : decode cX7_at 5 = .ok (.aload_n 0, 1) := by decide +kernel
theorem dX7_at_6 : decode cX7_at 6 = .ok (.getfield 9, 3) := by decide +kernel
theorem dX7_at_9 : decode cX7_at 9 = .ok (.arraylength, 1) := by decide +kernel
theorem dX7_at_10 : decode cX7_at 10 = .ok (.if_icmp .ge 12, 3) := by decide +kernel
theorem dX7_at_13 : decode cX7_at 13 = .ok (.aload_n 0, 1) := by decide +kernel
theorem dX7_at_14 : decode cX7_at 14 = .ok (.getfield 9, 3) := by decide +kernel
theorem dX7_at_17 : decode cX7_at 17 = .ok (.iload_n 1, 1) := by decide +kernel
theorem dX7_at_18 : decode cX7_at 18 = .ok (.iaload, 1) := by decide +kernel
theorem dX7_at_19 : decode cX7_at 19 = .ok (.goto 6, 3) := by decide +kernel
theorem dX7_at_22 : decode cX7_at 22 = .ok (.sipush 5000, 3) := by decide +kernel
theorem dX7_at_25 : decode cX7_at 25 = .ok (.ireturn, 1) := by decide +kernel
set_option maxRecDepth 100000 in
theorem b_X7_at_0 {E : fxE} (hW : fx_Wt E) (a0 : Nat) (x1 : Int) (M : fxM) (Q : Option fxV → fxM → Prop) (hk0 : kd E a0 = 7) (h : (-2147483648 ≤ x1 ∧ x1 < 2147483648) ∧ ((x1 < (0 : Int) → Q (some (.inl 5000)) M) ∧ (¬ x1 < (0 : Int) → (((401 : Int) ≤ x1 → Q (some (.inl 5000)) M) ∧ (¬ (401 : Int) ≤ x1 → (0 ≤ x1 ∧ x1 < 401) ∧ Q (some (.inl (M (rf E a0 0) (x1.toNat)))) M))))) : fx_At E m_X7_at 0 [some (.inr a0), some (.inl x1)] [] M Q := by
  refine x_iload_n (pc := 0) dX7_at_0 rfl rfl ?_
  obtain ⟨g1, h⟩ := h
  refine x_zlt (pc := 1) 22 dX7_at_1 (by decide) g1 (fun hc => ?_) (fun hc => ?_)
  · replace h := h.1 hc
    refine x_sipush (pc := 22) dX7_at_22 (by decide +kernel) ?_
    exact x_iret (pc := 25) dX7_at_25 (Or.inl rfl) h
  · replace h := h.2 hc
    refine x_iload_n (pc := 4) dX7_at_4 rfl rfl ?_
    refine x_aload_n (pc := 5) dX7_at_5 rfl rfl ?_
    refine x_getr (pc := 6) dX7_at_6 f_RX7_9 hk0 ?_
    refine x_alen (pc := 9) dX7_at_9 (wk_7_0 hW hk0) (by decide) (by decide) (wl_7_0 hW hk0) ?_
    refine x_cge (pc := 10) 22 dX7_at_10 (by decide) ⟨g1, ⟨by decide, by decide⟩⟩ (fun hc => ?_) (fun hc => ?_)
    · replace h := h.1 hc
      refine x_sipush (pc := 22) dX7_at_22 (by decide +kernel) ?_
      exact x_iret (pc := 25) dX7_at_25 (Or.inl rfl) h
    · replace h := h.2 hc
      refine x_aload_n (pc := 13) dX7_at_13 rfl rfl ?_
      refine x_getr (pc := 14) dX7_at_14 f_RX7_9 hk0 ?_
      refine x_iload_n (pc := 17) dX7_at_17 rfl rfl ?_
      obtain ⟨g2, h⟩ := h
      refine x_iald (pc := 18) dX7_at_18 (wk_7_0 hW hk0) (wl_7_0 hW hk0) g2 ?_
      refine x_goto (pc := 19) 25 dX7_at_19 (by decide) ?_
      exact x_iret (pc := 25) dX7_at_25 (Or.inl rfl) h
theorem dX8_levelAt_0 : decode cX8_levelAt 0 = .ok (.iload_n 1, 1) := by decide +kernel
theorem dX8_levelAt_1 : decode cX8_levelAt 1 = .ok (.ifCond .lt 21, 3) := by decide +kernel
theorem dX8_levelAt_4 : decode cX8_levelAt 4 = .ok (.iload_n 1, 1) := by decide +kernel
theorem dX8_levelAt_5 : decode cX8_levelAt 5 = .ok (.aload_n 0, 1) := by decide +kernel
theorem dX8_levelAt_6 : decode cX8_levelAt 6 = .ok (.getfield 15, 3) := by decide +kernel
theorem dX8_levelAt_9 : decode cX8_levelAt 9 = .ok (.arraylength, 1) := by decide +kernel
theorem dX8_levelAt_10 : decode cX8_levelAt 10 = .ok (.if_icmp .ge 12, 3) := by decide +kernel
theorem dX8_levelAt_13 : decode cX8_levelAt 13 = .ok (.aload_n 0, 1) := by decide +kernel
theorem dX8_levelAt_14 : decode cX8_levelAt 14 = .ok (.getfield 15, 3) := by decide +kernel
theorem dX8_levelAt_17 : decode cX8_levelAt 17 = .ok (.iload_n 1, 1) := by decide +kernel
theorem dX8_levelAt_18 : decode cX8_levelAt 18 = .ok (.iaload, 1) := by decide +kernel
theorem dX8_levelAt_19 : decode cX8_levelAt 19 = .ok (.goto 4, 3) := by decide +kernel
theorem dX8_levelAt_22 : decode cX8_levelAt 22 = .ok (.iconst 0, 1) := by decide +kernel
theorem dX8_levelAt_23 : decode cX8_levelAt 23 = .ok (.ireturn, 1) := by decide +kernel
set_option maxRecDepth 100000 in
theorem b_X8_levelAt_0 {E : fxE} (hW : fx_Wt E) (a0 : Nat) (x1 : Int) (M : fxM) (Q : Option fxV → fxM → Prop) (hk0 : kd E a0 = 8) (h : (-2147483648 ≤ x1 ∧ x1 < 2147483648) ∧ ((x1 < (0 : Int) → Q (some (.inl 0)) M) ∧ (¬ x1 < (0 : Int) → (((300 : Int) ≤ x1 → Q (some (.inl 0)) M) ∧ (¬ (300 : Int) ≤ x1 → (0 ≤ x1 ∧ x1 < 300) ∧ Q (some (.inl (M (rf E a0 1) (x1.toNat)))) M))))) : fx_At E m_X8_levelAt 0 [some (.inr a0), some (.inl x1)] [] M Q := by
  refine x_iload_n (pc := 0) dX8_levelAt_0 rfl rfl ?_
  obtain ⟨g1, h⟩ := h
  refine x_zlt (pc := 1) 22 dX8_levelAt_1 (by decide) g1 (fun hc => ?_) (fun hc => ?_)
  · replace h := h.1 hc
    refine x_iconst (pc := 22) dX8_levelAt_22 ?_
    exact x_iret (pc := 23) dX8_levelAt_23 (Or.inl rfl) h
  · replace h := h.2 hc
    refine x_iload_n (pc := 4) dX8_levelAt_4 rfl rfl ?_
    refine x_aload_n (pc := 5) dX8_levelAt_5 rfl rfl ?_
    refine x_getr (pc := 6) dX8_levelAt_6 f_RX8_15 hk0 ?_
    refine x_alen (pc := 9) dX8_levelAt_9 (wk_8_1 hW hk0) (by decide) (by decide) (wl_8_1 hW hk0) ?_
    refine x_cge (pc := 10) 22 dX8_levelAt_10 (by decide) ⟨g1, ⟨by decide, by decide⟩⟩ (fun hc => ?_) (fun hc => ?_)
    · replace h := h.1 hc
      refine x_iconst (pc := 22) dX8_levelAt_22 ?_
      exact x_iret (pc := 23) dX8_levelAt_23 (Or.inl rfl) h
    · replace h := h.2 hc
      refine x_aload_n (pc := 13) dX8_levelAt_13 rfl rfl ?_
      refine x_getr (pc := 14) dX8_levelAt_14 f_RX8_15 hk0 ?_
      refine x_iload_n (pc := 17) dX8_levelAt_17 rfl rfl ?_
      obtain ⟨g2, h⟩ := h
      refine x_iald (pc := 18) dX8_levelAt_18 (wk_8_1 hW hk0) (wl_8_1 hW hk0) g2 ?_
      refine x_goto (pc := 19) 23 dX8_levelAt_19 (by decide) ?_
      exact x_iret (pc := 23) dX8_levelAt_23 (Or.inl rfl) h
theorem dX8_lossUpTo_0 : decode cX8_lossUpTo 0 = .ok (.iload_n 1, 1) := by decide +kernel
theorem dX8_lossUpTo_1 : decode cX8_lossUpTo 1 = .ok (.ifCond .lt 21, 3) := by decide +kernel
theorem dX8_lossUpTo_4 : decode cX8_lossUpTo 4 = .ok (.iload_n 1, 1) := by decide +kernel
theorem dX8_lossUpTo_5 : decode cX8_lossUpTo 5 = .ok (.aload_n 0, 1) := by decide +kernel
theorem dX8_lossUpTo_6 : decode cX8_lossUpTo 6 = .ok (.getfield 9, 3) := by decide +kernel
theorem dX8_lossUpTo_9 : decode cX8_lossUpTo 9 = .ok (.arraylength, 1) := by decide +kernel
theorem dX8_lossUpTo_10 : decode cX8_lossUpTo 10 = .ok (.if_icmp .ge 12, 3) := by decide +kernel
theorem dX8_lossUpTo_13 : decode cX8_lossUpTo 13 = .ok (.aload_n 0, 1) := by decide +kernel
theorem dX8_lossUpTo_14 : decode cX8_lossUpTo 14 = .ok (.getfield 9, 3) := by decide +kernel
theorem dX8_lossUpTo_17 : decode cX8_lossUpTo 17 = .ok (.iload_n 1, 1) := by decide +kernel
theorem dX8_lossUpTo_18 : decode cX8_lossUpTo 18 = .ok (.iaload, 1) := by decide +kernel
theorem dX8_lossUpTo_19 : decode cX8_lossUpTo 19 = .ok (.goto 4, 3) := by decide +kernel
theorem dX8_lossUpTo_22 : decode cX8_lossUpTo 22 = .ok (.iconst 0, 1) := by decide +kernel
theorem dX8_lossUpTo_23 : decode cX8_lossUpTo 23 = .ok (.ireturn, 1) := by decide +kernel
set_option maxRecDepth 100000 in
theorem b_X8_lossUpTo_0 {E : fxE} (hW : fx_Wt E) (a0 : Nat) (x1 : Int) (M : fxM) (Q : Option fxV → fxM → Prop) (hk0 : kd E a0 = 8) (h : (-2147483648 ≤ x1 ∧ x1 < 2147483648) ∧ ((x1 < (0 : Int) → Q (some (.inl 0)) M) ∧ (¬ x1 < (0 : Int) → (((301 : Int) ≤ x1 → Q (some (.inl 0)) M) ∧ (¬ (301 : Int) ≤ x1 → (0 ≤ x1 ∧ x1 < 301) ∧ Q (some (.inl (M (rf E a0 0) (x1.toNat)))) M))))) : fx_At E m_X8_lossUpTo 0 [some (.inr a0), some (.inl x1)] [] M Q := by
  refine x_iload_n (pc := 0) dX8_lossUpTo_0 rfl rfl ?_
  obtain ⟨g1, h⟩ := h
  refine x_zlt (pc := 1) 22 dX8_lossUpTo_1 (by decide) g1 (fun hc => ?_) (fun hc => ?_)
  · replace h := h.1 hc
    refine x_iconst (pc := 22) dX8_lossUpTo_22 ?_
    exact x_iret (pc := 23) dX8_lossUpTo_23 (Or.inl rfl) h
  · replace h := h.2 hc
    refine x_iload_n (pc := 4) dX8_lossUpTo_4 rfl rfl ?_
    refine x_aload_n (pc := 5) dX8_lossUpTo_5 rfl rfl ?_
    refine x_getr (pc := 6) dX8_lossUpTo_6 f_RX8_9 hk0 ?_
    refine x_alen (pc := 9) dX8_lossUpTo_9 (wk_8_0 hW hk0) (by decide) (by decide) (wl_8_0 hW hk0) ?_
    refine x_cge (pc := 10) 22 dX8_lossUpTo_10 (by decide) ⟨g1, ⟨by decide, by decide⟩⟩ (fun hc => ?_) (fun hc => ?_)
    · replace h := h.1 hc
      refine x_iconst (pc := 22) dX8_lossUpTo_22 ?_
      exact x_iret (pc := 23) dX8_lossUpTo_23 (Or.inl rfl) h
    · replace h := h.2 hc
      refine x_aload_n (pc := 13) dX8_lossUpTo_13 rfl rfl ?_
      refine x_getr (pc := 14) dX8_lossUpTo_14 f_RX8_9 hk0 ?_
      refine x_iload_n (pc := 17) dX8_lossUpTo_17 rfl rfl ?_
      obtain ⟨g2, h⟩ := h
      refine x_iald (pc := 18) dX8_lossUpTo_18 (wk_8_0 hW hk0) (wl_8_0 hW hk0) g2 ?_
      refine x_goto (pc := 19) 23 dX8_lossUpTo_19 (by decide) ?_
      exact x_iret (pc := 23) dX8_lossUpTo_23 (Or.inl rfl) h
theorem dX1_startOf_0 : decode cX1_startOf 0 = .ok (.iload_n 1, 1) := by decide +kernel
theorem dX1_startOf_1 : decode cX1_startOf 1 = .ok (.ifCond .lt 20, 3) := by decide +kernel
theorem dX1_startOf_4 : decode cX1_startOf 4 = .ok (.iload_n 1, 1) := by decide +kernel
theorem dX1_startOf_5 : decode cX1_startOf 5 = .ok (.aload_n 0, 1) := by decide +kernel
theorem dX1_startOf_6 : decode cX1_startOf 6 = .ok (.getfield 31, 3) := by decide +kernel
theorem dX1_startOf_9 : decode cX1_startOf 9 = .ok (.if_icmp .ge 12, 3) := by decide +kernel
theorem dX1_startOf_12 : decode cX1_startOf 12 = .ok (.aload_n 0, 1) := by decide +kernel
theorem dX1_startOf_13 : decode cX1_startOf 13 = .ok (.getfield 9, 3) := by decide +kernel
theorem dX1_startOf_16 : decode cX1_startOf 16 = .ok (.iload_n 1, 1) := by decide +kernel
theorem dX1_startOf_17 : decode cX1_startOf 17 = .ok (.iaload, 1) := by decide +kernel
theorem dX1_startOf_18 : decode cX1_startOf 18 = .ok (.goto 4, 3) := by decide +kernel
theorem dX1_startOf_21 : decode cX1_startOf 21 = .ok (.iconst 0, 1) := by decide +kernel
theorem dX1_startOf_22 : decode cX1_startOf 22 = .ok (.ireturn, 1) := by decide +kernel
set_option maxRecDepth 100000 in
theorem b_X1_startOf_0 {E : fxE} (hW : fx_Wt E) (a0 : Nat) (x1 : Int) (M : fxM) (Q : Option fxV → fxM → Prop) (hk0 : kd E a0 = 1) (h : (-2147483648 ≤ x1 ∧ x1 < 2147483648) ∧ ((x1 < (0 : Int) → Q (some (.inl 0)) M) ∧ (¬ x1 < (0 : Int) → (-2147483648 ≤ (M a0 6) ∧ (M a0 6) < 2147483648) ∧ (((M a0 6) ≤ x1 → Q (some (.inl 0)) M) ∧ (¬ (M a0 6) ≤ x1 → (0 ≤ x1 ∧ x1 < 200) ∧ Q (some (.inl (M (rf E a0 0) (x1.toNat)))) M))))) : fx_At E m_X1_startOf 0 [some (.inr a0), some (.inl x1)] [] M Q := by
  refine x_iload_n (pc := 0) dX1_startOf_0 rfl rfl ?_
  obtain ⟨g1, h⟩ := h
  refine x_zlt (pc := 1) 21 dX1_startOf_1 (by decide) g1 (fun hc => ?_) (fun hc => ?_)
  · replace h := h.1 hc
    refine x_iconst (pc := 21) dX1_startOf_21 ?_
    exact x_iret (pc := 22) dX1_startOf_22 (Or.inl rfl) h
  · replace h := h.2 hc
    refine x_iload_n (pc := 4) dX1_startOf_4 rfl rfl ?_
    refine x_aload_n (pc := 5) dX1_startOf_5 rfl rfl ?_
    refine x_geti (pc := 6) dX1_startOf_6 f_RX1_31 hk0 ?_
    obtain ⟨g2, h⟩ := h
    refine x_cge (pc := 9) 21 dX1_startOf_9 (by decide) ⟨g1, g2⟩ (fun hc => ?_) (fun hc => ?_)
    · replace h := h.1 hc
      refine x_iconst (pc := 21) dX1_startOf_21 ?_
      exact x_iret (pc := 22) dX1_startOf_22 (Or.inl rfl) h
    · replace h := h.2 hc
      refine x_aload_n (pc := 12) dX1_startOf_12 rfl rfl ?_
      refine x_getr (pc := 13) dX1_startOf_13 f_RX1_9 hk0 ?_
      refine x_iload_n (pc := 16) dX1_startOf_16 rfl rfl ?_
      obtain ⟨g3, h⟩ := h
      refine x_iald (pc := 17) dX1_startOf_17 (wk_1_0 hW hk0) (wl_1_0 hW hk0) g3 ?_
      refine x_goto (pc := 18) 22 dX1_startOf_18 (by decide) ?_
      exact x_iret (pc := 22) dX1_startOf_22 (Or.inl rfl) h
theorem dX1_lossOf_0 : decode cX1_lossOf 0 = .ok (.iload_n 1, 1) := by decide +kernel
theorem dX1_lossOf_1 : decode cX1_lossOf 1 = .ok (.ifCond .lt 20, 3) := by decide +kernel
theorem dX1_lossOf_4 : decode cX1_lossOf 4 = .ok (.iload_n 1, 1) := by decide +kernel
theorem dX1_lossOf_5 : decode cX1_lossOf 5 = .ok (.aload_n 0, 1) := by decide +kernel
theorem dX1_lossOf_6 : decode cX1_lossOf 6 = .ok (.getfield 31, 3) := by decide +kernel
theorem dX1_lossOf_9 : decode cX1_lossOf 9 = .ok (.if_icmp .ge 12, 3) := by decide +kernel
theorem dX1_lossOf_12 : decode cX1_lossOf 12 = .ok (.aload_n 0, 1) := by decide +kernel
theorem dX1_lossOf_13 : decode cX1_lossOf 13 = .ok (.getfield 21, 3) := by decide +kernel
theorem dX1_lossOf_16 : decode cX1_lossOf 16 = .ok (.iload_n 1, 1) := by decide +kernel
theorem dX1_lossOf_17 : decode cX1_lossOf 17 = .ok (.iaload, 1) := by decide +kernel
theorem dX1_lossOf_18 : decode cX1_lossOf 18 = .ok (.goto 4, 3) := by decide +kernel
theorem dX1_lossOf_21 : decode cX1_lossOf 21 = .ok (.iconst 0, 1) := by decide +kernel
theorem dX1_lossOf_22 : decode cX1_lossOf 22 = .ok (.ireturn, 1) := by decide +kernel
set_option maxRecDepth 100000 in
theorem b_X1_lossOf_0 {E : fxE} (hW : fx_Wt E) (a0 : Nat) (x1 : Int) (M : fxM) (Q : Option fxV → fxM → Prop) (hk0 : kd E a0 = 1) (h : (-2147483648 ≤ x1 ∧ x1 < 2147483648) ∧ ((x1 < (0 : Int) → Q (some (.inl 0)) M) ∧ (¬ x1 < (0 : Int) → (-2147483648 ≤ (M a0 6) ∧ (M a0 6) < 2147483648) ∧ (((M a0 6) ≤ x1 → Q (some (.inl 0)) M) ∧ (¬ (M a0 6) ≤ x1 → (0 ≤ x1 ∧ x1 < 200) ∧ Q (some (.inl (M (rf E a0 3) (x1.toNat)))) M))))) : fx_At E m_X1_lossOf 0 [some (.inr a0), some (.inl x1)] [] M Q := by
  refine x_iload_n (pc := 0) dX1_lossOf_0 rfl rfl ?_
  obtain ⟨g1, h⟩ := h
  refine x_zlt (pc := 1) 21 dX1_lossOf_1 (by decide) g1 (fun hc => ?_) (fun hc => ?_)
  · replace h := h.1 hc
    refine x_iconst (pc := 21) dX1_lossOf_21 ?_
    exact x_iret (pc := 22) dX1_lossOf_22 (Or.inl rfl) h
  · replace h := h.2 hc
    refine x_iload_n (pc := 4) dX1_lossOf_4 rfl rfl ?_
    refine x_aload_n (pc := 5) dX1_lossOf_5 rfl rfl ?_
    refine x_geti (pc := 6) dX1_lossOf_6 f_RX1_31 hk0 ?_
    obtain ⟨g2, h⟩ := h
    refine x_cge (pc := 9) 21 dX1_lossOf_9 (by decide) ⟨g1, g2⟩ (fun hc => ?_) (fun hc => ?_)
    · replace h := h.1 hc
      refine x_iconst (pc := 21) dX1_lossOf_21 ?_
      exact x_iret (pc := 22) dX1_lossOf_22 (Or.inl rfl) h
    · replace h := h.2 hc
      refine x_aload_n (pc := 12) dX1_lossOf_12 rfl rfl ?_
      refine x_getr (pc := 13) dX1_lossOf_13 f_RX1_21 hk0 ?_
      refine x_iload_n (pc := 16) dX1_lossOf_16 rfl rfl ?_
      obtain ⟨g3, h⟩ := h
      refine x_iald (pc := 17) dX1_lossOf_17 (wk_1_3 hW hk0) (wl_1_3 hW hk0) g3 ?_
      refine x_goto (pc := 18) 22 dX1_lossOf_18 (by decide) ?_
      exact x_iret (pc := 22) dX1_lossOf_22 (Or.inl rfl) h
theorem dX10_of_0 : decode cX10_of 0 = .ok (.aload_n 0, 1) := by decide +kernel
theorem dX10_of_1 : decode cX10_of 1 = .ok (.getfield 45, 3) := by decide +kernel
theorem dX10_of_4 : decode cX10_of 4 = .ok (.bipush 7, 2) := by decide +kernel
theorem dX10_of_6 : decode cX10_of 6 = .ok (.iload_n 1, 1) := by decide +kernel
theorem dX10_of_7 : decode cX10_of 7 = .ok (.imul, 1) := by decide +kernel
theorem dX10_of_8 : decode cX10_of 8 = .ok (.iload_n 2, 1) := by decide +kernel
theorem dX10_of_9 : decode cX10_of 9 = .ok (.iadd, 1) := by decide +kernel
theorem dX10_of_10 : decode cX10_of 10 = .ok (.iaload, 1) := by decide +kernel
theorem dX10_of_11 : decode cX10_of 11 = .ok (.ireturn, 1) := by decide +kernel
set_option maxRecDepth 100000 in
theorem b_X10_of_0 {E : fxE} (hW : fx_Wt E) (a0 : Nat) (x1 : Int) (x2 : Int) (M : fxM) (Q : Option fxV → fxM → Prop) (hk0 : kd E a0 = 10) (h : (0 ≤ ((7 * x1) + x2) ∧ ((7 * x1) + x2) < 2814) ∧ Q (some (.inl (M (rf E a0 15) (((7 * x1) + x2).toNat)))) M) : fx_At E m_X10_of 0 [some (.inr a0), some (.inl x1), some (.inl x2)] [] M Q := by
  refine x_aload_n (pc := 0) dX10_of_0 rfl rfl ?_
  refine x_getr (pc := 1) dX10_of_1 f_RX10_45 hk0 ?_
  refine x_bipush (pc := 4) dX10_of_4 (by decide +kernel) ?_
  refine x_iload_n (pc := 6) dX10_of_6 rfl rfl ?_
  refine x_imul (pc := 7) dX10_of_7 ?_
  refine x_iload_n (pc := 8) dX10_of_8 rfl rfl ?_
  refine x_iadd (pc := 9) dX10_of_9 ?_
  obtain ⟨g1, h⟩ := h
  refine x_iald (pc := 10) dX10_of_10 (wk_10_15 hW hk0) (wl_10_15 hW hk0) g1 ?_
  exact x_iret (pc := 11) dX10_of_11 (Or.inl rfl) h
theorem dX10_deviation_0 : decode cX10_deviation 0 = .ok (.aload_n 0, 1) := by decide +kernel
theorem dX10_deviation_1 : decode cX10_deviation 1 = .ok (.getfield 39, 3) := by decide +kernel
theorem dX10_deviation_4 : decode cX10_deviation 4 = .ok (.iload_n 1, 1) := by decide +kernel
theorem dX10_deviation_5 : decode cX10_deviation 5 = .ok (.iaload, 1) := by decide +kernel
theorem dX10_deviation_6 : decode cX10_deviation 6 = .ok (.aload_n 0, 1) := by decide +kernel
theorem dX10_deviation_7 : decode cX10_deviation 7 = .ok (.getfield 39, 3) := by decide +kernel
theorem dX10_deviation_10 : decode cX10_deviation 10 = .ok (.iload_n 1, 1) := by decide +kernel
theorem dX10_deviation_11 : decode cX10_deviation 11 = .ok (.iconst 1, 1) := by decide +kernel
theorem dX10_deviation_12 : decode cX10_deviation 12 = .ok (.isub, 1) := by decide +kernel
theorem dX10_deviation_13 : decode cX10_deviation 13 = .ok (.iaload, 1) := by decide +kernel
theorem dX10_deviation_14 : decode cX10_deviation 14 = .ok (.isub, 1) := by decide +kernel
theorem dX10_deviation_15 : decode cX10_deviation 15 = .ok (.aload_n 0, 1) := by decide +kernel
theorem dX10_deviation_16 : decode cX10_deviation 16 = .ok (.getfield 7, 3) := by decide +kernel
theorem dX10_deviation_19 : decode cX10_deviation 19 = .ok (.bipush 58, 2) := by decide +kernel
theorem dX10_deviation_21 : decode cX10_deviation 21 = .ok (.iaload, 1) := by decide +kernel
theorem dX10_deviation_22 : decode cX10_deviation 22 = .ok (.iadd, 1) := by decide +kernel
theorem dX10_deviation_23 : decode cX10_deviation 23 = .ok (.ireturn, 1) := by decide +kernel
set_option maxRecDepth 100000 in
theorem b_X10_deviation_0 {E : fxE} (hW : fx_Wt E) (a0 : Nat) (x1 : Int) (M : fxM) (Q : Option fxV → fxM → Prop) (hk0 : kd E a0 = 10) (h : (0 ≤ x1 ∧ x1 < 401) ∧ (0 ≤ (x1 - 1) ∧ (x1 - 1) < 401) ∧ Q (some (.inl (((M (rf E a0 13) (x1.toNat)) - (M (rf E a0 13) ((x1 - 1).toNat))) + (M (rf E a0 0) 58)))) M) : fx_At E m_X10_deviation 0 [some (.inr a0), some (.inl x1)] [] M Q := by
  refine x_aload_n (pc := 0) dX10_deviation_0 rfl rfl ?_
  refine x_getr (pc := 1) dX10_deviation_1 f_RX10_39 hk0 ?_
  refine x_iload_n (pc := 4) dX10_deviation_4 rfl rfl ?_
  obtain ⟨g1, h⟩ := h
  refine x_iald (pc := 5) dX10_deviation_5 (wk_10_13 hW hk0) (wl_10_13 hW hk0) g1 ?_
  refine x_aload_n (pc := 6) dX10_deviation_6 rfl rfl ?_
  refine x_getr (pc := 7) dX10_deviation_7 f_RX10_39 hk0 ?_
  refine x_iload_n (pc := 10) dX10_deviation_10 rfl rfl ?_
  refine x_iconst (pc := 11) dX10_deviation_11 ?_
  refine x_isub (pc := 12) dX10_deviation_12 ?_
  obtain ⟨g2, h⟩ := h
  refine x_iald (pc := 13) dX10_deviation_13 (wk_10_13 hW hk0) (wl_10_13 hW hk0) g2 ?_
  refine x_isub (pc := 14) dX10_deviation_14 ?_
  refine x_aload_n (pc := 15) dX10_deviation_15 rfl rfl ?_
  refine x_getr (pc := 16) dX10_deviation_16 f_RX10_7 hk0 ?_
  refine x_bipush (pc := 19) dX10_deviation_19 (by decide +kernel) ?_
  refine x_iald (pc := 21) dX10_deviation_21 (wk_10_0 hW hk0) (wl_10_0 hW hk0) ⟨by decide, by decide⟩ ?_
  refine x_iadd (pc := 22) dX10_deviation_22 ?_
  exact x_iret (pc := 23) dX10_deviation_23 (Or.inl rfl) h
theorem dX10_scattered_0 : decode cX10_scattered 0 = .ok (.sipush 30000, 3) := by decide +kernel
theorem dX10_scattered_3 : decode cX10_scattered 3 = .ok (.sipush 300, 3) := by decide +kernel
theorem dX10_scattered_6 : decode cX10_scattered 6 = .ok (.iload_n 1, 1) := by decide +kernel
theorem dX10_scattered_7 : decode cX10_scattered 7 = .ok (.imul, 1) := by decide +kernel
theorem dX10_scattered_8 : decode cX10_scattered 8 = .ok (.iadd, 1) := by decide +kernel
theorem dX10_scattered_9 : decode cX10_scattered 9 = .ok (.aload_n 0, 1) := by decide +kernel
theorem dX10_scattered_10 : decode cX10_scattered 10 = .ok (.getfield 33, 3) := by decide +kernel
theorem dX10_scattered_13 : decode cX10_scattered 13 = .ok (.iload_n 2, 1) := by decide +kernel
theorem dX10_scattered_14 : decode cX10_scattered 14 = .ok (.iaload, 1) := by decide +kernel
theorem dX10_scattered_15 : decode cX10_scattered 15 = .ok (.iadd, 1) := by decide +kernel
theorem dX10_scattered_16 : decode cX10_scattered 16 = .ok (.aload_n 0, 1) := by decide +kernel
theorem dX10_scattered_17 : decode cX10_scattered 17 = .ok (.getfield 30, 3) := by decide +kernel
theorem dX10_scattered_20 : decode cX10_scattered 20 = .ok (.iload_n 2, 1) := by decide +kernel
theorem dX10_scattered_21 : decode cX10_scattered 21 = .ok (.iaload, 1) := by decide +kernel
theorem dX10_scattered_22 : decode cX10_scattered 22 = .ok (.isub, 1) := by decide +kernel
theorem dX10_scattered_23 : decode cX10_scattered 23 = .ok (.ireturn, 1) := by decide +kernel
set_option maxRecDepth 100000 in
theorem b_X10_scattered_0 {E : fxE} (hW : fx_Wt E) (a0 : Nat) (x1 : Int) (x2 : Int) (M : fxM) (Q : Option fxV → fxM → Prop) (hk0 : kd E a0 = 10) (h : (0 ≤ x2 ∧ x2 < 300) ∧ (0 ≤ x2 ∧ x2 < 301) ∧ Q (some (.inl (((30000 + (300 * x1)) + (M (rf E a0 10) (x2.toNat))) - (M (rf E a0 9) (x2.toNat))))) M) : fx_At E m_X10_scattered 0 [some (.inr a0), some (.inl x1), some (.inl x2)] [] M Q := by
  refine x_sipush (pc := 0) dX10_scattered_0 (by decide +kernel) ?_
  refine x_sipush (pc := 3) dX10_scattered_3 (by decide +kernel) ?_
  refine x_iload_n (pc := 6) dX10_scattered_6 rfl rfl ?_
  refine x_imul (pc := 7) dX10_scattered_7 ?_
  refine x_iadd (pc := 8) dX10_scattered_8 ?_
  refine x_aload_n (pc := 9) dX10_scattered_9 rfl rfl ?_
  refine x_getr (pc := 10) dX10_scattered_10 f_RX10_33 hk0 ?_
  refine x_iload_n (pc := 13) dX10_scattered_13 rfl rfl ?_
  obtain ⟨g1, h⟩ := h
  refine x_iald (pc := 14) dX10_scattered_14 (wk_10_10 hW hk0) (wl_10_10 hW hk0) g1 ?_
  refine x_iadd (pc := 15) dX10_scattered_15 ?_
  refine x_aload_n (pc := 16) dX10_scattered_16 rfl rfl ?_
  refine x_getr (pc := 17) dX10_scattered_17 f_RX10_30 hk0 ?_
  refine x_iload_n (pc := 20) dX10_scattered_20 rfl rfl ?_
  obtain ⟨g2, h⟩ := h
  refine x_iald (pc := 21) dX10_scattered_21 (wk_10_9 hW hk0) (wl_10_9 hW hk0) g2 ?_
  refine x_isub (pc := 22) dX10_scattered_22 ?_
  exact x_iret (pc := 23) dX10_scattered_23 (Or.inl rfl) h
theorem dX10_isWrong_0 : decode cX10_isWrong 0 = .ok (.aload_n 0, 1) := by decide +kernel
theorem dX10_isWrong_1 : decode cX10_isWrong 1 = .ok (.getfield 197, 3) := by decide +kernel
theorem dX10_isWrong_4 : decode cX10_isWrong 4 = .ok (.ldc 23, 2) := by decide +kernel
theorem dX10_isWrong_6 : decode cX10_isWrong 6 = .ok (.if_icmp .eq 7, 3) := by decide +kernel
theorem dX10_isWrong_9 : decode cX10_isWrong 9 = .ok (.iconst 1, 1) := by decide +kernel
theorem dX10_isWrong_10 : decode cX10_isWrong 10 = .ok (.goto 4, 3) := by decide +kernel
theorem dX10_isWrong_13 : decode cX10_isWrong 13 = .ok (.iconst 0, 1) := by decide +kernel
theorem dX10_isWrong_14 : decode cX10_isWrong 14 = .ok (.ireturn, 1) := by decide +kernel
set_option maxRecDepth 100000 in
theorem b_X10_isWrong_0 {E : fxE} (hW : fx_Wt E) (a0 : Nat) (M : fxM) (Q : Option fxV → fxM → Prop) (hk0 : kd E a0 = 10) (h : (-2147483648 ≤ (M a0 22) ∧ (M a0 22) < 2147483648) ∧ (((M a0 22) = (-1000005 : Int) → Q (some (.inl 0)) M) ∧ (¬ (M a0 22) = (-1000005 : Int) → Q (some (.inl 1)) M))) : fx_At E m_X10_isWrong 0 [some (.inr a0)] [] M Q := by
  refine x_aload_n (pc := 0) dX10_isWrong_0 rfl rfl ?_
  refine x_geti (pc := 1) dX10_isWrong_1 f_RX10_197 hk0 ?_
  refine x_ldc (pc := 4) (n := -1000005) dX10_isWrong_4 k_RX10_23 rfl ?_
  obtain ⟨g1, h⟩ := h
  refine x_ceq (pc := 6) 13 dX10_isWrong_6 (by decide) ⟨g1, ⟨by decide, by decide⟩⟩ (fun hc => ?_) (fun hc => ?_)
  · replace h := h.1 hc
    refine x_iconst (pc := 13) dX10_isWrong_13 ?_
    exact x_iret (pc := 14) dX10_isWrong_14 (Or.inr ⟨rfl, by decide⟩) h
  · replace h := h.2 hc
    refine x_iconst (pc := 9) dX10_isWrong_9 ?_
    refine x_goto (pc := 10) 14 dX10_isWrong_10 (by decide) ?_
    exact x_iret (pc := 14) dX10_isWrong_14 (Or.inr ⟨rfl, by decide⟩) h
theorem dX6_codeAt_0 : decode cX6_codeAt 0 = .ok (.iload_n 1, 1) := by decide +kernel
theorem dX6_codeAt_1 : decode cX6_codeAt 1 = .ok (.ifCond .lt 29, 3) := by decide +kernel
theorem dX6_codeAt_4 : decode cX6_codeAt 4 = .ok (.iload_n 1, 1) := by decide +kernel
theorem dX6_codeAt_5 : decode cX6_codeAt 5 = .ok (.aload_n 0, 1) := by decide +kernel
theorem dX6_codeAt_6 : decode cX6_codeAt 6 = .ok (.getfield 15, 3) := by decide +kernel
theorem dX6_codeAt_9 : decode cX6_codeAt 9 = .ok (.if_icmp .ge 21, 3) := by decide +kernel
theorem dX6_codeAt_12 : decode cX6_codeAt 12 = .ok (.iload_n 1, 1) := by decide +kernel
theorem dX6_codeAt_13 : decode cX6_codeAt 13 = .ok (.aload_n 0, 1) := by decide +kernel
theorem dX6_codeAt_14 : decode cX6_codeAt 14 = .ok (.getfield 9, 3) := by decide +kernel
theorem dX6_codeAt_17 : decode cX6_codeAt 17 = .ok (.arraylength, 1) := by decide +kernel
theorem dX6_codeAt_18 : decode cX6_codeAt 18 = .ok (.if_icmp .ge 12, 3) := by decide +kernel
theorem dX6_codeAt_21 : decode cX6_codeAt 21 = .ok (.aload_n 0, 1) := by decide +kernel
theorem dX6_codeAt_22 : decode cX6_codeAt 22 = .ok (.getfield 9, 3) := by decide +kernel
theorem dX6_codeAt_25 : decode cX6_codeAt 25 = .ok (.iload_n 1, 1) := by decide +kernel
theorem dX6_codeAt_26 : decode cX6_codeAt 26 = .ok (.iaload, 1) := by decide +kernel
theorem dX6_codeAt_27 : decode cX6_codeAt 27 = .ok (.goto 4, 3) := by decide +kernel
theorem dX6_codeAt_30 : decode cX6_codeAt 30 = .ok (.iconst 0, 1) := by decide +kernel
theorem dX6_codeAt_31 : decode cX6_codeAt 31 = .ok (.ireturn, 1) := by decide +kernel
set_option maxRecDepth 100000 in
theorem b_X6_codeAt_0 {E : fxE} (hW : fx_Wt E) (a0 : Nat) (x1 : Int) (M : fxM) (Q : Option fxV → fxM → Prop) (hk0 : kd E a0 = 6) (h : (-2147483648 ≤ x1 ∧ x1 < 2147483648) ∧ ((x1 < (0 : Int) → Q (some (.inl 0)) M) ∧ (¬ x1 < (0 : Int) → (-2147483648 ≤ (M a0 1) ∧ (M a0 1) < 2147483648) ∧ (((M a0 1) ≤ x1 → Q (some (.inl 0)) M) ∧ (¬ (M a0 1) ≤ x1 → (((120 : Int) ≤ x1 → Q (some (.inl 0)) M) ∧ (¬ (120 : Int) ≤ x1 → (0 ≤ x1 ∧ x1 < 120) ∧ Q (some (.inl (M (rf E a0 0) (x1.toNat)))) M))))))) : fx_At E m_X6_codeAt 0 [some (.inr a0), some (.inl x1)] [] M Q := by
  refine x_iload_n (pc := 0) dX6_codeAt_0 rfl rfl ?_
  obtain ⟨g1, h⟩ := h
  refine x_zlt (pc := 1) 30 dX6_codeAt_1 (by decide) g1 (fun hc => ?_) (fun hc => ?_)
  · replace h := h.1 hc
    refine x_iconst (pc := 30) dX6_codeAt_30 ?_
    exact x_iret (pc := 31) dX6_codeAt_31 (Or.inl rfl) h
  · replace h := h.2 hc
    refine x_iload_n (pc := 4) dX6_codeAt_4 rfl rfl ?_
    refine x_aload_n (pc := 5) dX6_codeAt_5 rfl rfl ?_
    refine x_geti (pc := 6) dX6_codeAt_6 f_RX6_15 hk0 ?_
    obtain ⟨g2, h⟩ := h
    refine x_cge (pc := 9) 30 dX6_codeAt_9 (by decide) ⟨g1, g2⟩ (fun hc => ?_) (fun hc => ?_)
    · replace h := h.1 hc
      refine x_iconst (pc := 30) dX6_codeAt_30 ?_
      exact x_iret (pc := 31) dX6_codeAt_31 (Or.inl rfl) h
    · replace h := h.2 hc
      refine x_iload_n (pc := 12) dX6_codeAt_12 rfl rfl ?_
      refine x_aload_n (pc := 13) dX6_codeAt_13 rfl rfl ?_
      refine x_getr (pc := 14) dX6_codeAt_14 f_RX6_9 hk0 ?_
      refine x_alen (pc := 17) dX6_codeAt_17 (wk_6_0 hW hk0) (by decide) (by decide) (wl_6_0 hW hk0) ?_
      refine x_cge (pc := 18) 30 dX6_codeAt_18 (by decide) ⟨g1, ⟨by decide, by decide⟩⟩ (fun hc => ?_) (fun hc => ?_)
      · replace h := h.1 hc
        refine x_iconst (pc := 30) dX6_codeAt_30 ?_
        exact x_iret (pc := 31) dX6_codeAt_31 (Or.inl rfl) h
      · replace h := h.2 hc
        refine x_aload_n (pc := 21) dX6_codeAt_21 rfl rfl ?_
        refine x_getr (pc := 22) dX6_codeAt_22 f_RX6_9 hk0 ?_
        refine x_iload_n (pc := 25) dX6_codeAt_25 rfl rfl ?_
        obtain ⟨g3, h⟩ := h
        refine x_iald (pc := 26) dX6_codeAt_26 (wk_6_0 hW hk0) (wl_6_0 hW hk0) g3 ?_
        refine x_goto (pc := 27) 31 dX6_codeAt_27 (by decide) ?_
        exact x_iret (pc := 31) dX6_codeAt_31 (Or.inl rfl) h
theorem dX2_placeOfJoint_0 : decode cX2_placeOfJoint 0 = .ok (.iconst 0, 1) := by decide +kernel
theorem dX2_placeOfJoint_1 : decode cX2_placeOfJoint 1 = .ok (.istore_n 2, 1) := by decide +kernel
theorem dX2_placeOfJoint_2 : decode cX2_placeOfJoint 2 = .ok (.iconst 0, 1) := by decide +kernel
theorem dX2_placeOfJoint_3 : decode cX2_placeOfJoint 3 = .ok (.istore_n 3, 1) := by decide +kernel
theorem dX2_placeOfJoint_4 : decode cX2_placeOfJoint 4 = .ok (.iload_n 3, 1) := by decide +kernel
theorem dX2_placeOfJoint_5 : decode cX2_placeOfJoint 5 = .ok (.iload_n 1, 1) := by decide +kernel
theorem dX2_placeOfJoint_6 : decode cX2_placeOfJoint 6 = .ok (.if_icmp .ge 26, 3) := by decide +kernel
theorem dX2_placeOfJoint_9 : decode cX2_placeOfJoint 9 = .ok (.iload_n 3, 1) := by decide +kernel
theorem dX2_placeOfJoint_10 : decode cX2_placeOfJoint 10 = .ok (.aload_n 0, 1) := by decide +kernel
theorem dX2_placeOfJoint_11 : decode cX2_placeOfJoint 11 = .ok (.getfield 21, 3) := by decide +kernel
theorem dX2_placeOfJoint_14 : decode cX2_placeOfJoint 14 = .ok (.if_icmp .ge 18, 3) := by decide +kernel
theorem dX2_placeOfJoint_17 : decode cX2_placeOfJoint 17 = .ok (.iload_n 2, 1) := by decide +kernel
theorem dX2_placeOfJoint_18 : decode cX2_placeOfJoint 18 = .ok (.aload_n 0, 1) := by decide +kernel
theorem dX2_placeOfJoint_19 : decode cX2_placeOfJoint 19 = .ok (.getfield 9, 3) := by decide +kernel
theorem dX2_placeOfJoint_22 : decode cX2_placeOfJoint 22 = .ok (.iload_n 3, 1) := by decide +kernel
theorem dX2_placeOfJoint_23 : decode cX2_placeOfJoint 23 = .ok (.iaload, 1) := by decide +kernel
theorem dX2_placeOfJoint_24 : decode cX2_placeOfJoint 24 = .ok (.iadd, 1) := by decide +kernel
theorem dX2_placeOfJoint_25 : decode cX2_placeOfJoint 25 = .ok (.istore_n 2, 1) := by decide +kernel
theorem dX2_placeOfJoint_26 : decode cX2_placeOfJoint 26 = .ok (.iinc 3 1, 3) := by decide +kernel
theorem dX2_placeOfJoint_29 : decode cX2_placeOfJoint 29 = .ok (.goto (-25), 3) := by decide +kernel
theorem dX2_placeOfJoint_32 : decode cX2_placeOfJoint 32 = .ok (.iload_n 2, 1) := by decide +kernel
theorem dX2_placeOfJoint_33 : decode cX2_placeOfJoint 33 = .ok (.ireturn, 1) := by decide +kernel
set_option maxRecDepth 100000 in
theorem b_X2_placeOfJoint_0 {E : fxE} (hW : fx_Wt E) (a0 : Nat) (x1 : Int) (M : fxM) (Q : Option fxV → fxM → Prop) (hk0 : kd E a0 = 2) (h : fx_At E m_X2_placeOfJoint 4 [some (.inr a0), some (.inl x1), some (.inl 0), some (.inl 0)] [] M Q) : fx_At E m_X2_placeOfJoint 0 [some (.inr a0), some (.inl x1), none, none] [] M Q := by
  refine x_iconst (pc := 0) dX2_placeOfJoint_0 ?_
  refine x_istore_n (pc := 1) (lv' := [some (.inr a0), some (.inl x1), some (.inl 0), none]) dX2_placeOfJoint_1 rfl (by decide) rfl ?_
  refine x_iconst (pc := 2) dX2_placeOfJoint_2 ?_
  refine x_istore_n (pc := 3) (lv' := [some (.inr a0), some (.inl x1), some (.inl 0), some (.inl 0)]) dX2_placeOfJoint_3 rfl (by decide) rfl ?_
  exact h
set_option maxRecDepth 100000 in
theorem b_X2_placeOfJoint_4 {E : fxE} (hW : fx_Wt E) (a0 : Nat) (x1 : Int) (x2 : Int) (x3 : Int) (M : fxM) (Q : Option fxV → fxM → Prop) (hk0 : kd E a0 = 2) (h : (-2147483648 ≤ x3 ∧ x3 < 2147483648) ∧ (-2147483648 ≤ x1 ∧ x1 < 2147483648) ∧ ((x1 ≤ x3 → Q (some (.inl x2)) M) ∧ (¬ x1 ≤ x3 → (-2147483648 ≤ (M a0 3) ∧ (M a0 3) < 2147483648) ∧ (((M a0 3) ≤ x3 → Q (some (.inl x2)) M) ∧ (¬ (M a0 3) ≤ x3 → (0 ≤ x3 ∧ x3 < 8) ∧ fx_At E m_X2_placeOfJoint 4 [some (.inr a0), some (.inl x1), some (.inl (x2 + (M (rf E a0 0) (x3.toNat)))), some (.inl (x3 + 1))] [] M Q))))) : fx_At E m_X2_placeOfJoint 4 [some (.inr a0), some (.inl x1), some (.inl x2), some (.inl x3)] [] M Q := by
  refine x_iload_n (pc := 4) dX2_placeOfJoint_4 rfl rfl ?_
  refine x_iload_n (pc := 5) dX2_placeOfJoint_5 rfl rfl ?_
  obtain ⟨g1, h⟩ := h
  obtain ⟨g2, h⟩ := h
  refine x_cge (pc := 6) 32 dX2_placeOfJoint_6 (by decide) ⟨g1, g2⟩ (fun hc => ?_) (fun hc => ?_)
  · replace h := h.1 hc
    refine x_iload_n (pc := 32) dX2_placeOfJoint_32 rfl rfl ?_
    exact x_iret (pc := 33) dX2_placeOfJoint_33 (Or.inl rfl) h
  · replace h := h.2 hc
    refine x_iload_n (pc := 9) dX2_placeOfJoint_9 rfl rfl ?_
    refine x_aload_n (pc := 10) dX2_placeOfJoint_10 rfl rfl ?_
    refine x_geti (pc := 11) dX2_placeOfJoint_11 f_RX2_21 hk0 ?_
    obtain ⟨g3, h⟩ := h
    refine x_cge (pc := 14) 32 dX2_placeOfJoint_14 (by decide) ⟨g1, g3⟩ (fun hc => ?_) (fun hc => ?_)
    · replace h := h.1 hc
      refine x_iload_n (pc := 32) dX2_placeOfJoint_32 rfl rfl ?_
      exact x_iret (pc := 33) dX2_placeOfJoint_33 (Or.inl rfl) h
    · replace h := h.2 hc
      refine x_iload_n (pc := 17) dX2_placeOfJoint_17 rfl rfl ?_
      refine x_aload_n (pc := 18) dX2_placeOfJoint_18 rfl rfl ?_
      refine x_getr (pc := 19) dX2_placeOfJoint_19 f_RX2_9 hk0 ?_
      refine x_iload_n (pc := 22) dX2_placeOfJoint_22 rfl rfl ?_
      obtain ⟨g4, h⟩ := h
      refine x_iald (pc := 23) dX2_placeOfJoint_23 (wk_2_0 hW hk0) (wl_2_0 hW hk0) g4 ?_
      refine x_iadd (pc := 24) dX2_placeOfJoint_24 ?_
      refine x_istore_n (pc := 25) (lv' := [some (.inr a0), some (.inl x1), some (.inl (x2 + (M (rf E a0 0) (x3.toNat)))), some (.inl x3)]) dX2_placeOfJoint_25 rfl (by decide) rfl ?_
      refine x_iinc (pc := 26) (lv' := [some (.inr a0), some (.inl x1), some (.inl (x2 + (M (rf E a0 0) (x3.toNat)))), some (.inl (x3 + 1))]) dX2_placeOfJoint_26 rfl (by decide) rfl ?_
      refine x_goto (pc := 29) 4 dX2_placeOfJoint_29 (by decide) ?_
      exact h
theorem dX10_placeOf_0 : decode cX10_placeOf 0 = .ok (.iconst 0, 1) := by decide +kernel
theorem dX10_placeOf_1 : decode cX10_placeOf 1 = .ok (.istore_n 2, 1) := by decide +kernel
theorem dX10_placeOf_2 : decode cX10_placeOf 2 = .ok (.iconst 0, 1) := by decide +kernel
theorem dX10_placeOf_3 : decode cX10_placeOf 3 = .ok (.istore_n 3, 1) := by decide +kernel
theorem dX10_placeOf_4 : decode cX10_placeOf 4 = .ok (.iload_n 3, 1) := by decide +kernel
theorem dX10_placeOf_5 : decode cX10_placeOf 5 = .ok (.iload_n 1, 1) := by decide +kernel
theorem dX10_placeOf_6 : decode cX10_placeOf 6 = .ok (.if_icmp .ge 22, 3) := by decide +kernel
theorem dX10_placeOf_9 : decode cX10_placeOf 9 = .ok (.iload_n 2, 1) := by decide +kernel
theorem dX10_placeOf_10 : decode cX10_placeOf 10 = .ok (.aload_n 0, 1) := by decide +kernel
theorem dX10_placeOf_11 : decode cX10_placeOf 11 = .ok (.getfield 7, 3) := by decide +kernel
theorem dX10_placeOf_14 : decode cX10_placeOf 14 = .ok (.iconst 1, 1) := by decide +kernel
theorem dX10_placeOf_15 : decode cX10_placeOf 15 = .ok (.iconst 3, 1) := by decide +kernel
theorem dX10_placeOf_16 : decode cX10_placeOf 16 = .ok (.iload_n 3, 1) := by decide +kernel
theorem dX10_placeOf_17 : decode cX10_placeOf 17 = .ok (.imul, 1) := by decide +kernel
theorem dX10_placeOf_18 : decode cX10_placeOf 18 = .ok (.iadd, 1) := by decide +kernel
theorem dX10_placeOf_19 : decode cX10_placeOf 19 = .ok (.iaload, 1) := by decide +kernel
theorem dX10_placeOf_20 : decode cX10_placeOf 20 = .ok (.iadd, 1) := by decide +kernel
theorem dX10_placeOf_21 : decode cX10_placeOf 21 = .ok (.istore_n 2, 1) := by decide +kernel
theorem dX10_placeOf_22 : decode cX10_placeOf 22 = .ok (.iinc 3 1, 3) := by decide +kernel
theorem dX10_placeOf_25 : decode cX10_placeOf 25 = .ok (.goto (-21), 3) := by decide +kernel
theorem dX10_placeOf_28 : decode cX10_placeOf 28 = .ok (.iload_n 2, 1) := by decide +kernel
theorem dX10_placeOf_29 : decode cX10_placeOf 29 = .ok (.ireturn, 1) := by decide +kernel
set_option maxRecDepth 100000 in
theorem b_X10_placeOf_0 {E : fxE} (hW : fx_Wt E) (a0 : Nat) (x1 : Int) (M : fxM) (Q : Option fxV → fxM → Prop) (hk0 : kd E a0 = 10) (h : fx_At E m_X10_placeOf 4 [some (.inr a0), some (.inl x1), some (.inl 0), some (.inl 0)] [] M Q) : fx_At E m_X10_placeOf 0 [some (.inr a0), some (.inl x1), none, none] [] M Q := by
  refine x_iconst (pc := 0) dX10_placeOf_0 ?_
  refine x_istore_n (pc := 1) (lv' := [some (.inr a0), some (.inl x1), some (.inl 0), none]) dX10_placeOf_1 rfl (by decide) rfl ?_
  refine x_iconst (pc := 2) dX10_placeOf_2 ?_
  refine x_istore_n (pc := 3) (lv' := [some (.inr a0), some (.inl x1), some (.inl 0), some (.inl 0)]) dX10_placeOf_3 rfl (by decide) rfl ?_
  exact h
set_option maxRecDepth 100000 in
theorem b_X10_placeOf_4 {E : fxE} (hW : fx_Wt E) (a0 : Nat) (x1 : Int) (x2 : Int) (x3 : Int) (M : fxM) (Q : Option fxV → fxM → Prop) (hk0 : kd E a0 = 10) (h : (-2147483648 ≤ x3 ∧ x3 < 2147483648) ∧ (-2147483648 ≤ x1 ∧ x1 < 2147483648) ∧ ((x1 ≤ x3 → Q (some (.inl x2)) M) ∧ (¬ x1 ≤ x3 → (0 ≤ (1 + (3 * x3)) ∧ (1 + (3 * x3)) < 84) ∧ fx_At E m_X10_placeOf 4 [some (.inr a0), some (.inl x1), some (.inl (x2 + (M (rf E a0 0) ((1 + (3 * x3)).toNat)))), some (.inl (x3 + 1))] [] M Q))) : fx_At E m_X10_placeOf 4 [some (.inr a0), some (.inl x1), some (.inl x2), some (.inl x3)] [] M Q := by
  refine x_iload_n (pc := 4) dX10_placeOf_4 rfl rfl ?_
  refine x_iload_n (pc := 5) dX10_placeOf_5 rfl rfl ?_
  obtain ⟨g1, h⟩ := h
  obtain ⟨g2, h⟩ := h
  refine x_cge (pc := 6) 28 dX10_placeOf_6 (by decide) ⟨g1, g2⟩ (fun hc => ?_) (fun hc => ?_)
  · replace h := h.1 hc
    refine x_iload_n (pc := 28) dX10_placeOf_28 rfl rfl ?_
    exact x_iret (pc := 29) dX10_placeOf_29 (Or.inl rfl) h
  · replace h := h.2 hc
    refine x_iload_n (pc := 9) dX10_placeOf_9 rfl rfl ?_
    refine x_aload_n (pc := 10) dX10_placeOf_10 rfl rfl ?_
    refine x_getr (pc := 11) dX10_placeOf_11 f_RX10_7 hk0 ?_
    refine x_iconst (pc := 14) dX10_placeOf_14 ?_
    refine x_iconst (pc := 15) dX10_placeOf_15 ?_
    refine x_iload_n (pc := 16) dX10_placeOf_16 rfl rfl ?_
    refine x_imul (pc := 17) dX10_placeOf_17 ?_
    refine x_iadd (pc := 18) dX10_placeOf_18 ?_
    obtain ⟨g3, h⟩ := h
    refine x_iald (pc := 19) dX10_placeOf_19 (wk_10_0 hW hk0) (wl_10_0 hW hk0) g3 ?_
    refine x_iadd (pc := 20) dX10_placeOf_20 ?_
    refine x_istore_n (pc := 21) (lv' := [some (.inr a0), some (.inl x1), some (.inl (x2 + (M (rf E a0 0) ((1 + (3 * x3)).toNat)))), some (.inl x3)]) dX10_placeOf_21 rfl (by decide) rfl ?_
    refine x_iinc (pc := 22) (lv' := [some (.inr a0), some (.inl x1), some (.inl (x2 + (M (rf E a0 0) ((1 + (3 * x3)).toNat)))), some (.inl (x3 + 1))]) dX10_placeOf_22 rfl (by decide) rfl ?_
    refine x_goto (pc := 25) 4 dX10_placeOf_25 (by decide) ?_
    exact h
theorem dX9_copyRow_0 : decode cX9_copyRow 0 = .ok (.aload_n 0, 1) := by decide +kernel
theorem dX9_copyRow_1 : decode cX9_copyRow 1 = .ok (.iconst 0, 1) := by decide +kernel
theorem dX9_copyRow_2 : decode cX9_copyRow 2 = .ok (.aload_n 1, 1) := by decide +kernel
theorem dX9_copyRow_3 : decode cX9_copyRow 3 = .ok (.iconst 0, 1) := by decide +kernel
theorem dX9_copyRow_4 : decode cX9_copyRow 4 = .ok (.aload_n 0, 1) := by decide +kernel
theorem dX9_copyRow_5 : decode cX9_copyRow 5 = .ok (.arraylength, 1) := by decide +kernel
theorem dX9_copyRow_6 : decode cX9_copyRow 6 = .ok (.aload_n 1, 1) := by decide +kernel
theorem dX9_copyRow_7 : decode cX9_copyRow 7 = .ok (.arraylength, 1) := by decide +kernel
theorem dX9_copyRow_8 : decode cX9_copyRow 8 = .ok (.invokestatic 281, 3) := by decide +kernel
theorem dX9_copyRow_11 : decode cX9_copyRow 11 = .ok (.invokestatic 286, 3) := by decide +kernel
theorem dX9_copyRow_14 : decode cX9_copyRow 14 = .ok (.return_, 1) := by decide +kernel
set_option maxRecDepth 100000 in
theorem b_X9_copyRow_0 {E : fxE} (hW : fx_Wt E) (a0 : Nat) (a1 : Nat) (M : fxM) (Q : Option fxV → fxM → Prop) (hk0 : kd E a0 = 11) (hk1 : kd E a1 = 11) (h : (-2147483648 ≤ (ln E a0 : Int) ∧ (ln E a0 : Int) < 2147483648) ∧ (-2147483648 ≤ (ln E a1 : Int) ∧ (ln E a1 : Int) < 2147483648) ∧ (0 ≤ min (ln E a0 : Int) (ln E a1 : Int) ∧ min (ln E a0 : Int) (ln E a1 : Int) ≤ (ln E a0 : Int) ∧ min (ln E a0 : Int) (ln E a1 : Int) ≤ (ln E a1 : Int)) ∧ ∀ M4 : fxM, M4 = mcpy M a0 a1 (min (ln E a0 : Int) (ln E a1 : Int)) → Q none M4) : fx_At E m_X9_copyRow 0 [some (.inr a0), some (.inr a1)] [] M Q := by
  refine x_aload_n (pc := 0) dX9_copyRow_0 rfl rfl ?_
  refine x_iconst (pc := 1) dX9_copyRow_1 ?_
  refine x_aload_n (pc := 2) dX9_copyRow_2 rfl rfl ?_
  refine x_iconst (pc := 3) dX9_copyRow_3 ?_
  refine x_aload_n (pc := 4) dX9_copyRow_4 rfl rfl ?_
  refine x_alen (pc := 5) dX9_copyRow_5 hk0 (by decide) (by decide) rfl ?_
  refine x_aload_n (pc := 6) dX9_copyRow_6 rfl rfl ?_
  refine x_alen (pc := 7) dX9_copyRow_7 hk1 (by decide) (by decide) rfl ?_
  obtain ⟨g1, h⟩ := h
  obtain ⟨g2, h⟩ := h
  refine x_mmin (pc := 8) dX9_copyRow_8 c_RX9_281 ⟨Nat.le_of_ble_eq_true rfl, Nat.le_of_ble_eq_true rfl⟩ ⟨g1, g2⟩ ?_
  obtain ⟨g3, h⟩ := h
  refine x_copy (pc := 11) dX9_copyRow_11 k_copy hk0 hk1 rfl rfl g3 (by decide) (by decide +kernel) (fun M4 hM4 => ?_)
  replace h := h M4 hM4
  exact x_vret (pc := 14) dX9_copyRow_14 rfl h
end
section
/-! words of the state, and contracts of the low methods -/
def okSec (l a s : Int) : Prop := (1 ≤ l ∧ l ≤ 100) ∧ (1 ≤ a ∧ a ≤ 60) ∧ (0 ≤ s ∧ s ≤ 2000)
def okTr (s w : Int) : Prop := (0 ≤ s ∧ s ≤ 1) ∧ (1 ≤ w ∧ w ≤ 9)
/-- the sum of the first n -/
def sg (g : Nat → Int) : Nat → Int
  | 0 => 0
  | n + 1 => sg g n + g n
def fsum (E : fxE) (M : fxM) (f : Nat) (n : Nat) : Int := sg (M (rf E f 0)) n
def wsum (w : Nat → Int) (n : Nat) : Int := sg (fun i => w (1 + 3 * i)) n
def tat (E : fxE) (M : fxM) (a : Nat) (d : Int) : Int := if 0 ≤ d ∧ d < 401 then M (rf E a 0) d.toNat else 5000
def vlv (E : fxE) (M : fxM) (a : Nat) (d : Int) : Int := if 0 ≤ d ∧ d < 300 then M (rf E a 1) d.toNat else 0
def vls (E : fxE) (M : fxM) (a : Nat) (d : Int) : Int := if 0 ≤ d ∧ d < 301 then M (rf E a 0) d.toNat else 0
def evS (E : fxE) (M : fxM) (a : Nat) (k : Int) : Int := if 0 ≤ k ∧ k < M a 6 then M (rf E a 0) k.toNat else 0
def evL (E : fxE) (M : fxM) (a : Nat) (k : Int) : Int := if 0 ≤ k ∧ k < M a 6 then M (rf E a 3) k.toNat else 0
def rdev (E : fxE) (M : fxM) (a : Nat) (d : Int) : Int := M (rf E a 13) d.toNat - M (rf E a 13) (d - 1).toNat + M (rf E a 0) 58
def rsc (E : fxE) (M : fxM) (a : Nat) (w d : Int) : Int := 30000 + 300 * w + M (rf E a 10) d.toNat - M (rf E a 9) d.toNat
def cat (E : fxE) (M : fxM) (a : Nat) (k : Int) : Int := if 0 ≤ k ∧ k < M a 1 ∧ k < 120 then M (rf E a 0) k.toNat else 0
section
variable {E : fxE} {M : fxM}
theorem ct_X9_isSide (hW : fx_Wt E) {v : Int} (h1 : inR v) : CtB E m_X9_isSide [.inl v] M (0 ≤ v ∧ v ≤ 1) :=
  x_ct (by decide) (Nat.le_of_ble_eq_true rfl) (b_X9_isSide_0 hW v M _ ⟨h1, fun h => ⟨rfl, Or.inl ⟨h, rfl⟩⟩, fun h => ⟨rfl, Or.inr ⟨h, rfl⟩⟩⟩)
theorem ct_X9_isWidth (hW : fx_Wt E) {v : Int} (h1 : inR v) : CtB E m_X9_isWidth [.inl v] M (1 ≤ v ∧ v ≤ 9) :=
  x_ct (by decide) (Nat.le_of_ble_eq_true rfl) (b_X9_isWidth_0 hW v M _ ⟨h1, fun h => ⟨rfl, Or.inl ⟨h, rfl⟩⟩, fun h => ⟨rfl, Or.inr ⟨h, rfl⟩⟩⟩)
theorem ct_X9_isDistance (hW : fx_Wt E) {v : Int} (h1 : inR v) : CtB E m_X9_isDistance [.inl v] M (0 ≤ v ∧ v ≤ 400) :=
  x_ct (by decide) (Nat.le_of_ble_eq_true rfl) (b_X9_isDistance_0 hW v M _ ⟨h1, fun h => ⟨rfl, Or.inl ⟨h, rfl⟩⟩, fun h => ⟨rfl, Or.inr ⟨h, rfl⟩⟩⟩)
theorem ct_X10_isSide (hW : fx_Wt E) {v : Int} (h1 : inR v) : CtB E m_X10_isSide [.inl v] M (0 ≤ v ∧ v ≤ 1) :=
  x_ct (by decide) (Nat.le_of_ble_eq_true rfl) (b_X10_isSide_0 hW v M _ ⟨h1, fun h => ⟨rfl, Or.inl ⟨h, rfl⟩⟩, fun h => ⟨rfl, Or.inr ⟨h, rfl⟩⟩⟩)
theorem ct_X9_isSection (hW : fx_Wt E) {l a s : Int} (h1 : inR l) (h2 : inR a) (h3 : inR s) : CtB E m_X9_isSection [.inl l, .inl a, .inl s] M (okSec l a s) :=
  x_ct (by decide) (Nat.le_of_ble_eq_true rfl) (b_X9_isSection_0 hW l a s M _ ⟨h1, fun c1 => ⟨h2, fun c2 => ⟨h3, fun c3 => ⟨rfl, Or.inl ⟨⟨c1, c2, c3⟩, rfl⟩⟩, fun c3 => ⟨rfl, Or.inr ⟨fun z => c3 z.2.2, rfl⟩⟩⟩, fun c2 => ⟨rfl, Or.inr ⟨fun z => c2 z.2.1, rfl⟩⟩⟩, fun c1 => ⟨rfl, Or.inr ⟨fun z => c1 z.1, rfl⟩⟩⟩)
theorem ct_X10_isSection (hW : fx_Wt E) {l a s : Int} (h1 : inR l) (h2 : inR a) (h3 : inR s) : CtB E m_X10_isSection [.inl l, .inl a, .inl s] M (okSec l a s) :=
  x_ct (by decide) (Nat.le_of_ble_eq_true rfl) (b_X10_isSection_0 hW l a s M _ ⟨h1, fun c1 => ⟨h2, fun c2 => ⟨h3, fun c3 => ⟨rfl, Or.inl ⟨⟨c1, c2, c3⟩, rfl⟩⟩, fun c3 => ⟨rfl, Or.inr ⟨fun z => c3 z.2.2, rfl⟩⟩⟩, fun c2 => ⟨rfl, Or.inr ⟨fun z => c2 z.2.1, rfl⟩⟩⟩, fun c1 => ⟨rfl, Or.inr ⟨fun z => c1 z.1, rfl⟩⟩⟩)
theorem ct_X10_isJoint (hW : fx_Wt E) {a : Nat} {v : Int} (hk : kd E a = 10) (h1 : inR v) (h2 : inR (M (rf E a 0) 0)) : CtB E m_X10_isJoint [.inr a, .inl v] M (0 ≤ v ∧ v ≤ M (rf E a 0) 0) :=
  x_ct (by decide) (Nat.le_of_ble_eq_true rfl) (b_X10_isJoint_0 hW a v M _ hk ⟨h1, h2, fun h => ⟨rfl, Or.inl ⟨h, rfl⟩⟩, fun h => ⟨rfl, Or.inr ⟨h, rfl⟩⟩⟩)
theorem ct_X10_isBend (hW : fx_Wt E) {a : Nat} {v : Int} (hk : kd E a = 10) (h1 : inR v) (h2 : inR (M (rf E a 0) 43 - 1)) : CtB E m_X10_isBend [.inr a, .inl v] M (0 ≤ v ∧ v ≤ M (rf E a 0) 43 - 1) :=
  x_ct (by decide) (Nat.le_of_ble_eq_true rfl) (b_X10_isBend_0 hW a v M _ hk ⟨h1, h2, fun h => ⟨rfl, Or.inl ⟨h, rfl⟩⟩, fun h => ⟨rfl, Or.inr ⟨h, rfl⟩⟩⟩)
theorem ct_X7_at (hW : fx_Wt E) {a : Nat} {v : Int} (hk : kd E a = 7) (h1 : inR v) : CtF E m_X7_at [.inr a, .inl v] M (tat E M a v) := by
  refine x_ct (by decide) (Nat.le_of_ble_eq_true rfl) (b_X7_at_0 hW a v M _ hk ⟨h1, fun h => ⟨rfl, ?_⟩, fun h => ⟨fun h' => ⟨rfl, ?_⟩, fun h' => ⟨by omega, rfl, ?_⟩⟩⟩)
  · rw [tat, if_neg (by omega)]
  · rw [tat, if_neg (by omega)]
  · rw [tat, if_pos (by omega)]
theorem ct_X8_levelAt (hW : fx_Wt E) {a : Nat} {v : Int} (hk : kd E a = 8) (h1 : inR v) : CtF E m_X8_levelAt [.inr a, .inl v] M (vlv E M a v) := by
  refine x_ct (by decide) (Nat.le_of_ble_eq_true rfl) (b_X8_levelAt_0 hW a v M _ hk ⟨h1, fun h => ⟨rfl, ?_⟩, fun h => ⟨fun h' => ⟨rfl, ?_⟩, fun h' => ⟨by omega, rfl, ?_⟩⟩⟩)
  · rw [vlv, if_neg (by omega)]
  · rw [vlv, if_neg (by omega)]
  · rw [vlv, if_pos (by omega)]
theorem ct_X8_lossUpTo (hW : fx_Wt E) {a : Nat} {v : Int} (hk : kd E a = 8) (h1 : inR v) : CtF E m_X8_lossUpTo [.inr a, .inl v] M (vls E M a v) := by
  refine x_ct (by decide) (Nat.le_of_ble_eq_true rfl) (b_X8_lossUpTo_0 hW a v M _ hk ⟨h1, fun h => ⟨rfl, ?_⟩, fun h => ⟨fun h' => ⟨rfl, ?_⟩, fun h' => ⟨by omega, rfl, ?_⟩⟩⟩)
  · rw [vls, if_neg (by omega)]
  · rw [vls, if_neg (by omega)]
  · rw [vls, if_pos (by omega)]
theorem ct_X1_startOf (hW : fx_Wt E) {a : Nat} {v : Int} (hk : kd E a = 1) (h1 : inR v) (h2 : -2147483648 ≤ M a 6 ∧ M a 6 ≤ 200) : CtF E m_X1_startOf [.inr a, .inl v] M (evS E M a v) := by
  refine x_ct (by decide) (Nat.le_of_ble_eq_true rfl) (b_X1_startOf_0 hW a v M _ hk ⟨h1, fun h => ⟨rfl, ?_⟩, fun h => ⟨by omega, fun h' => ⟨rfl, ?_⟩, fun h' => ⟨by omega, rfl, ?_⟩⟩⟩)
  · rw [evS, if_neg (by omega)]
  · rw [evS, if_neg (by omega)]
  · rw [evS, if_pos (by omega)]
theorem ct_X1_lossOf (hW : fx_Wt E) {a : Nat} {v : Int} (hk : kd E a = 1) (h1 : inR v) (h2 : -2147483648 ≤ M a 6 ∧ M a 6 ≤ 200) : CtF E m_X1_lossOf [.inr a, .inl v] M (evL E M a v) := by
  refine x_ct (by decide) (Nat.le_of_ble_eq_true rfl) (b_X1_lossOf_0 hW a v M _ hk ⟨h1, fun h => ⟨rfl, ?_⟩, fun h => ⟨by omega, fun h' => ⟨rfl, ?_⟩, fun h' => ⟨by omega, rfl, ?_⟩⟩⟩)
  · rw [evL, if_neg (by omega)]
  · rw [evL, if_neg (by omega)]
  · rw [evL, if_pos (by omega)]
theorem ct_X10_of (hW : fx_Wt E) {a : Nat} {k j : Int} (hk : kd E a = 10) (h : 0 ≤ 7 * k + j ∧ 7 * k + j < 2814) : CtF E m_X10_of [.inr a, .inl k, .inl j] M (M (rf E a 15) (7 * k + j).toNat) :=
  x_ct (by decide) (Nat.le_of_ble_eq_true rfl) (b_X10_of_0 hW a k j M _ hk ⟨h, rfl, rfl⟩)
theorem ct_X10_deviation (hW : fx_Wt E) {a : Nat} {d : Int} (hk : kd E a = 10) (h : 1 ≤ d ∧ d ≤ 400) : CtF E m_X10_deviation [.inr a, .inl d] M (rdev E M a d) :=
  x_ct (by decide) (Nat.le_of_ble_eq_true rfl) (b_X10_deviation_0 hW a d M _ hk ⟨by omega, by omega, rfl, rfl⟩)
theorem ct_X10_scattered (hW : fx_Wt E) {a : Nat} {w d : Int} (hk : kd E a = 10) (h : 0 ≤ d ∧ d < 300) : CtF E m_X10_scattered [.inr a, .inl w, .inl d] M (rsc E M a w d) :=
  x_ct (by decide) (Nat.le_of_ble_eq_true rfl) (b_X10_scattered_0 hW a w d M _ hk ⟨by omega, by omega, rfl, rfl⟩)
theorem ct_X10_isWrong (hW : fx_Wt E) {a : Nat} (hk : kd E a = 10) (h1 : inR (M a 22)) : CtB E m_X10_isWrong [.inr a] M (¬ M a 22 = -1000005) :=
  x_ct (by decide) (Nat.le_of_ble_eq_true rfl) (b_X10_isWrong_0 hW a M _ hk ⟨h1, fun h => ⟨rfl, Or.inr ⟨fun z => z h, rfl⟩⟩, fun h => ⟨rfl, Or.inl ⟨h, rfl⟩⟩⟩)
theorem ct_X6_codeAt (hW : fx_Wt E) {a : Nat} {v : Int} (hk : kd E a = 6) (h1 : inR v) (h2 : inR (M a 1)) : CtF E m_X6_codeAt [.inr a, .inl v] M (cat E M a v) := by
  refine x_ct (by decide) (Nat.le_of_ble_eq_true rfl) (b_X6_codeAt_0 hW a v M _ hk ⟨h1, fun h => ⟨rfl, ?_⟩, fun h => ⟨h2, fun h' => ⟨rfl, ?_⟩, fun h' => ⟨fun h3 => ⟨rfl, ?_⟩, fun h3 => ⟨by omega, rfl, ?_⟩⟩⟩⟩)
  · rw [cat, if_neg (by omega)]
  · rw [cat, if_neg (by omega)]
  · rw [cat, if_neg (by omega)]
  · rw [cat, if_pos (by omega)]
theorem ct_X2_placeOfJoint (hW : fx_Wt E) {f : Nat} {j : Int} (hk : kd E f = 2) (h : 0 ≤ j ∧ j ≤ M f 3 ∧ M f 3 ≤ 8) : CtF E m_X2_placeOfJoint [.inr f, .inl j] M (fsum E M f j.toNat) := by
  refine x_ct (by decide) (Nat.le_of_ble_eq_true rfl) (b_X2_placeOfJoint_0 hW f j M _ hk ?_)
  have key : ∀ (n i : Nat), i + n = j.toNat → fx_At E m_X2_placeOfJoint 4 [some (.inr f), some (.inl j), some (.inl (fsum E M f i)), some (.inl (i : Int))] [] M (fun r M' => M' = M ∧ r = some (.inl (fsum E M f j.toNat))) := by
    intro n
    induction n with
    | zero =>
      intro i hi
      refine b_X2_placeOfJoint_4 hW f j _ _ M _ hk ⟨by omega, by omega, fun _ => ⟨rfl, ?_⟩, fun h' => absurd (by omega) h'⟩
      rw [show i = j.toNat by omega]
    | succ n ih =>
      intro i hi
      refine b_X2_placeOfJoint_4 hW f j _ _ M _ hk ⟨by omega, by omega, fun h' => absurd h' (by omega), fun h' => ⟨by omega, fun h' => absurd h' (by omega), fun h' => ⟨by omega, ?_⟩⟩⟩
      exact ih (i + 1) (by omega)
  exact key j.toNat 0 (by omega)
theorem ct_X10_placeOf (hW : fx_Wt E) {m : Nat} {j : Int} (hk : kd E m = 10) (h : 0 ≤ j ∧ j ≤ 8) : CtF E m_X10_placeOf [.inr m, .inl j] M (wsum (M (rf E m 0)) j.toNat) := by
  refine x_ct (by decide) (Nat.le_of_ble_eq_true rfl) (b_X10_placeOf_0 hW m j M _ hk ?_)
  have key : ∀ (n i : Nat), i + n = j.toNat → fx_At E m_X10_placeOf 4 [some (.inr m), some (.inl j), some (.inl (wsum (M (rf E m 0)) i)), some (.inl (i : Int))] [] M (fun r M' => M' = M ∧ r = some (.inl (wsum (M (rf E m 0)) j.toNat))) := by
    intro n
    induction n with
    | zero =>
      intro i hi
      refine b_X10_placeOf_4 hW m j _ _ M _ hk ⟨by omega, by omega, fun _ => ⟨rfl, ?_⟩, fun h' => absurd (by omega) h'⟩
      rw [show i = j.toNat by omega]
    | succ n ih =>
      intro i hi
      refine b_X10_placeOf_4 hW m j _ _ M _ hk ⟨by omega, by omega, fun h' => absurd h' (by omega), fun h' => ⟨by omega, ?_⟩⟩
      have e : (1 + 3 * (i : Int)).toNat = 1 + 3 * i := by omega
      rw [e]
      exact ih (i + 1) (by omega)
  exact key j.toNat 0 (by omega)
theorem ct_X9_copyRow (hW : fx_Wt E) {a b n : Nat} (ha : kd E a = 11) (hb : kd E b = 11) (hn : ln E a = n) (hn2 : ln E b = n) (hs : n < 100000) : CtV E m_X9_copyRow [.inr a, .inr b] M (fun M' => M' = mcpy M a b n) := by
  refine x_ct (by decide) (Nat.le_of_ble_eq_true rfl) (b_X9_copyRow_0 hW a b M _ ha hb ⟨by omega, by omega, by omega, fun M4 h => ⟨rfl, ?_⟩⟩)
  rw [h, hn, hn2, show min (n : Int) (n : Int) = n by omega]
end
end
section
theorem dX10_isTrace_0 : decode cX10_isTrace 0 = .ok (.iload_n 0, 1) := by decide +kernel
theorem dX10_isTrace_1 : decode cX10_isTrace 1 = .ok (.invokestatic 109, 3) := by decide +kernel
theorem dX10_isTrace_4 : decode cX10_isTrace 4 = .ok (.ifCond .eq 17, 3) := by decide +kernel
theorem dX10_isTrace_7 : decode cX10_isTrace 7 = .ok (.iload_n 1, 1) := by decide +kernel
theorem dX10_isTrace_8 : decode cX10_isTrace 8 = .ok (.iconst 1, 1) := by decide +kernel
theorem dX10_isTrace_9 : decode cX10_isTrace 9 = .ok (.bipush 9, 2) := by decide +kernel
theorem dX10_isTrace_11 : decode cX10_isTrace 11 = .ok (.invokestatic 74, 3) := by decide +kernel
theorem dX10_isTrace_14 : decode cX10_isTrace 14 = .ok (.ifCond .eq 7, 3) := by decide +kernel
theorem dX10_isTrace_17 : decode cX10_isTrace 17 = .ok (.iconst 1, 1) := by decide +kernel
theorem dX10_isTrace_18 : decode cX10_isTrace 18 = .ok (.goto 4, 3) := by decide +kernel
theorem dX10_isTrace_21 : decode cX10_isTrace 21 = .ok (.iconst 0, 1) := by decide +kernel
theorem dX10_isTrace_22 : decode cX10_isTrace 22 = .ok (.ireturn, 1) := by decide +kernel
set_option maxRecDepth 100000 in
theorem b_X10_isTrace_0 {E : fxE} (hW : fx_Wt E) (x0 : Int) (x1 : Int) (M : fxM) (Q : Option fxV → fxM → Prop)  (h : (-2147483648 ≤ x0 ∧ x0 < 2147483648) ∧ (((0 : Int) ≤ x0 ∧ x0 ≤ (1 : Int) → (-2147483648 ≤ x1 ∧ x1 < 2147483648) ∧ (((1 : Int) ≤ x1 ∧ x1 ≤ (9 : Int) → Q (some (.inl 1)) M) ∧ (¬ ((1 : Int) ≤ x1 ∧ x1 ≤ (9 : Int)) → Q (some (.inl 0)) M))) ∧ (¬ ((0 : Int) ≤ x0 ∧ x0 ≤ (1 : Int)) → Q (some (.inl 0)) M))) : fx_At E m_X10_isTrace 0 [some (.inl x0), some (.inl x1)] [] M Q := by
  refine x_iload_n (pc := 0) dX10_isTrace_0 rfl rfl ?_
  obtain ⟨g1, h⟩ := h
  refine x_callS (pc := 1) (z := m_X10_isSide) (as := [.inl x0]) (rest := []) dX10_isTrace_1 c_RX10_109 (by decide) rfl (Nat.le_of_ble_eq_true rfl) (ct_X10_isSide hW g1) (fun r M9 hr => ?_)
  obtain ⟨hM9, hr⟩ := hr
  rw [hM9]
  clear hM9
  obtain ⟨hc, rfl⟩ | ⟨hc, rfl⟩ := hr
  · replace h := h.1 hc
    show fx_At E m_X10_isTrace 4 [some (.inl x0), some (.inl x1)] [.inl 1] _ Q
    refine x_zeq (pc := 4) 21 dX10_isTrace_4 (by decide) ⟨by decide, by decide⟩ (fun hx => absurd hx (by decide)) (fun _ => ?_)
    refine x_iload_n (pc := 7) dX10_isTrace_7 rfl rfl ?_
    refine x_iconst (pc := 8) dX10_isTrace_8 ?_
    refine x_bipush (pc := 9) dX10_isTrace_9 (by decide +kernel) ?_
    obtain ⟨g3, h⟩ := h
    refine x_callS (pc := 11) (z := m_X10_isIn) (as := [.inl x1, .inl 1, .inl 9]) (rest := []) dX10_isTrace_11 c_RX10_74 (by decide) rfl (Nat.le_of_ble_eq_true rfl) (ct_isIn hW g3 ⟨by decide, by decide⟩ ⟨by decide, by decide⟩) (fun r M9 hr => ?_)
    obtain ⟨hM9, hr⟩ := hr
    rw [hM9]
    clear hM9
    obtain ⟨hc, rfl⟩ | ⟨hc, rfl⟩ := hr
    · replace h := h.1 hc
      show fx_At E m_X10_isTrace 14 [some (.inl x0), some (.inl x1)] [.inl 1] _ Q
      refine x_zeq (pc := 14) 21 dX10_isTrace_14 (by decide) ⟨by decide, by decide⟩ (fun hx => absurd hx (by decide)) (fun _ => ?_)
      refine x_iconst (pc := 17) dX10_isTrace_17 ?_
      refine x_goto (pc := 18) 22 dX10_isTrace_18 (by decide) ?_
      exact x_iret (pc := 22) dX10_isTrace_22 (Or.inr ⟨rfl, by decide⟩) h
    · replace h := h.2 hc
      show fx_At E m_X10_isTrace 14 [some (.inl x0), some (.inl x1)] [.inl 0] _ Q
      refine x_zeq (pc := 14) 21 dX10_isTrace_14 (by decide) ⟨by decide, by decide⟩ (fun _ => ?_) (fun hx => absurd hx (by decide))
      refine x_iconst (pc := 21) dX10_isTrace_21 ?_
      exact x_iret (pc := 22) dX10_isTrace_22 (Or.inr ⟨rfl, by decide⟩) h
  · replace h := h.2 hc
    show fx_At E m_X10_isTrace 4 [some (.inl x0), some (.inl x1)] [.inl 0] _ Q
    refine x_zeq (pc := 4) 21 dX10_isTrace_4 (by decide) ⟨by decide, by decide⟩ (fun _ => ?_) (fun hx => absurd hx (by decide))
    refine x_iconst (pc := 21) dX10_isTrace_21 ?_
    exact x_iret (pc := 22) dX10_isTrace_22 (Or.inr ⟨rfl, by decide⟩) h
theorem dX2_totalLength_0 : decode cX2_totalLength 0 = .ok (.aload_n 0, 1) := by decide +kernel
theorem dX2_totalLength_1 : decode cX2_totalLength 1 = .ok (.aload_n 0, 1) := by decide +kernel
theorem dX2_totalLength_2 : decode cX2_totalLength 2 = .ok (.getfield 21, 3) := by decide +kernel
theorem dX2_totalLength_5 : decode cX2_totalLength 5 = .ok (.invokevirtual 50, 3) := by decide +kernel
theorem dX2_totalLength_8 : decode cX2_totalLength 8 = .ok (.ireturn, 1) := by decide +kernel
set_option maxRecDepth 100000 in
theorem b_X2_totalLength_0 {E : fxE} (hW : fx_Wt E) (a0 : Nat) (M : fxM) (Q : Option fxV → fxM → Prop) (hk0 : kd E a0 = 2) (h : (0 ≤ M a0 3 ∧ M a0 3 ≤ M a0 3 ∧ M a0 3 ≤ 8) ∧ Q (some (.inl (fsum E M a0 (M a0 3).toNat))) M) : fx_At E m_X2_totalLength 0 [some (.inr a0)] [] M Q := by
  refine x_aload_n (pc := 0) dX2_totalLength_0 rfl rfl ?_
  refine x_aload_n (pc := 1) dX2_totalLength_1 rfl rfl ?_
  refine x_geti (pc := 2) dX2_totalLength_2 f_RX2_21 hk0 ?_
  obtain ⟨g1, h⟩ := h
  refine x_callV (pc := 5) (z := m_X2_placeOfJoint) (b := a0) (as := [.inl (M a0 3)]) (rest := []) dX2_totalLength_5 c_RX2_50 (by decide) hk0 rfl (Nat.le_of_ble_eq_true rfl) (ct_X2_placeOfJoint hW hk0 g1) (fun r M9 hr => ?_)
  obtain ⟨hM9, hr⟩ := hr
  rw [hM9, hr]
  clear hM9 hr
  show fx_At E m_X2_totalLength 8 [some (.inr a0)] [.inl (fsum E M a0 (M a0 3).toNat)] _ Q
  exact x_iret (pc := 8) dX2_totalLength_8 (Or.inl rfl) h
theorem dX10_whole_0 : decode cX10_whole 0 = .ok (.aload_n 0, 1) := by decide +kernel
theorem dX10_whole_1 : decode cX10_whole 1 = .ok (.aload_n 0, 1) := by decide +kernel
theorem dX10_whole_2 : decode cX10_whole 2 = .ok (.getfield 7, 3) := by decide +kernel
theorem dX10_whole_5 : decode cX10_whole 5 = .ok (.iconst 0, 1) := by decide +kernel
theorem dX10_whole_6 : decode cX10_whole 6 = .ok (.iaload, 1) := by decide +kernel
theorem dX10_whole_7 : decode cX10_whole 7 = .ok (.invokevirtual 67, 3) := by decide +kernel
theorem dX10_whole_10 : decode cX10_whole 10 = .ok (.ireturn, 1) := by decide +kernel
set_option maxRecDepth 100000 in
theorem b_X10_whole_0 {E : fxE} (hW : fx_Wt E) (a0 : Nat) (M : fxM) (Q : Option fxV → fxM → Prop) (hk0 : kd E a0 = 10) (h : (0 ≤ M (rf E a0 0) 0 ∧ M (rf E a0 0) 0 ≤ 8) ∧ Q (some (.inl (wsum (M (rf E a0 0)) (M (rf E a0 0) 0).toNat))) M) : fx_At E m_X10_whole 0 [some (.inr a0)] [] M Q := by
  refine x_aload_n (pc := 0) dX10_whole_0 rfl rfl ?_
  refine x_aload_n (pc := 1) dX10_whole_1 rfl rfl ?_
  refine x_getr (pc := 2) dX10_whole_2 f_RX10_7 hk0 ?_
  refine x_iconst (pc := 5) dX10_whole_5 ?_
  refine x_iald (pc := 6) dX10_whole_6 (wk_10_0 hW hk0) (wl_10_0 hW hk0) ⟨by decide, by decide⟩ ?_
  obtain ⟨g1, h⟩ := h
  refine x_callV (pc := 7) (z := m_X10_placeOf) (b := a0) (as := [.inl (M (rf E a0 0) 0)]) (rest := []) dX10_whole_7 c_RX10_67 (by decide) hk0 rfl (Nat.le_of_ble_eq_true rfl) (ct_X10_placeOf hW hk0 g1) (fun r M9 hr => ?_)
  obtain ⟨hM9, hr⟩ := hr
  rw [hM9, hr]
  clear hM9 hr
  show fx_At E m_X10_whole 10 [some (.inr a0)] [.inl (wsum (M (rf E a0 0)) (M (rf E a0 0) 0).toNat)] _ Q
  exact x_iret (pc := 10) dX10_whole_10 (Or.inl rfl) h
end
section
section
variable {E : fxE} {M : fxM}
theorem ct_X10_isTrace (hW : fx_Wt E) {s w : Int} (h1 : inR s) (h2 : inR w) : CtB E m_X10_isTrace [.inl s, .inl w] M (okTr s w) :=
  x_ct (by decide) (Nat.le_of_ble_eq_true rfl) (b_X10_isTrace_0 hW s w M _ ⟨h1, fun c1 => ⟨h2, fun c2 => ⟨rfl, Or.inl ⟨⟨c1, c2⟩, rfl⟩⟩, fun c2 => ⟨rfl, Or.inr ⟨fun z => c2 z.2, rfl⟩⟩⟩, fun c1 => ⟨rfl, Or.inr ⟨fun z => c1 z.1, rfl⟩⟩⟩)
theorem ct_X2_totalLength (hW : fx_Wt E) {f : Nat} (hk : kd E f = 2) (h : 0 ≤ M f 3 ∧ M f 3 ≤ 8) : CtF E m_X2_totalLength [.inr f] M (fsum E M f (M f 3).toNat) :=
  x_ct (by decide) (Nat.le_of_ble_eq_true rfl) (b_X2_totalLength_0 hW f M _ hk ⟨by omega, rfl, rfl⟩)
theorem ct_X10_whole (hW : fx_Wt E) {m : Nat} (hk : kd E m = 10) (h : 0 ≤ M (rf E m 0) 0 ∧ M (rf E m 0) 0 ≤ 8) : CtF E m_X10_whole [.inr m] M (wsum (M (rf E m 0)) (M (rf E m 0) 0).toNat) :=
  x_ct (by decide) (Nat.le_of_ble_eq_true rfl) (b_X10_whole_0 hW m M _ hk ⟨by omega, rfl, rfl⟩)
end
end
