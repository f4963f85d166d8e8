section
-- ===== PART A: goes FIRST, ahead of the names: the tables' words, and 'selects' of the private methods out of them =====
/-- a private method of a class that the tables say can be made, by its rows of tables_1 -/
def lw_okq (q : MethodName × Nat) : Prop := (q.1.cls ≠ "java/lang/invoke/MethodHandle" ∧ q.1.cls ≠ "java/lang/invoke/VarHandle") ∧ Cond.instantiable q.1.cls q.2 ∈ tables_1 ∧ Cond.privateMethod q.1 ∈ tables_1 ∧ Cond.instanceMethod q.1 ∈ tables_1
theorem lw_p0 : lw_okq (⟨"MiddleSpans$History", "dropOldest", "()V"⟩, 2) := ⟨⟨by decide +kernel, by decide +kernel⟩, List.mem_of_getElem? (i := 259) (by decide +kernel), List.mem_of_getElem? (i := 355) (by decide +kernel), List.mem_of_getElem? (i := 356) (by decide +kernel)⟩
theorem lw_p1 : lw_okq (⟨"MiddleSpans$Line", "layOut", "()V"⟩, 3) := ⟨⟨by decide +kernel, by decide +kernel⟩, List.mem_of_getElem? (i := 27) (by decide +kernel), List.mem_of_getElem? (i := 388) (by decide +kernel), List.mem_of_getElem? (i := 389) (by decide +kernel)⟩
theorem lw_p2 : lw_okq (⟨"MiddleSpans$Cover", "flip", "(II)V"⟩, 1) := ⟨⟨by decide +kernel, by decide +kernel⟩, List.mem_of_getElem? (i := 191) (by decide +kernel), List.mem_of_getElem? (i := 406) (by decide +kernel), List.mem_of_getElem? (i := 407) (by decide +kernel)⟩
theorem lw_p3 : lw_okq (⟨"MiddleSpans$Tree", "lay", "(III)V"⟩, 5) := ⟨⟨by decide +kernel, by decide +kernel⟩, List.mem_of_getElem? (i := 201) (by decide +kernel), List.mem_of_getElem? (i := 419) (by decide +kernel), List.mem_of_getElem? (i := 420) (by decide +kernel)⟩
theorem lw_p4 : lw_okq (⟨"MiddleSpans$Line", "tellAll", "()I"⟩, 3) := ⟨⟨by decide +kernel, by decide +kernel⟩, List.mem_of_getElem? (i := 27) (by decide +kernel), List.mem_of_getElem? (i := 442) (by decide +kernel), List.mem_of_getElem? (i := 443) (by decide +kernel)⟩
theorem lw_p5 : lw_okq (⟨"MiddleSpans$Line", "tell", "(I)I"⟩, 3) := ⟨⟨by decide +kernel, by decide +kernel⟩, List.mem_of_getElem? (i := 27) (by decide +kernel), List.mem_of_getElem? (i := 446) (by decide +kernel), List.mem_of_getElem? (i := 447) (by decide +kernel)⟩
theorem lw_p6 : lw_okq (⟨"MiddleSpans$Line", "tellLeft", "(II)V"⟩, 3) := ⟨⟨by decide +kernel, by decide +kernel⟩, List.mem_of_getElem? (i := 27) (by decide +kernel), List.mem_of_getElem? (i := 456) (by decide +kernel), List.mem_of_getElem? (i := 457) (by decide +kernel)⟩
theorem lw_p7 : lw_okq (⟨"MiddleSpans$Line", "tellEntered", "(II)V"⟩, 3) := ⟨⟨by decide +kernel, by decide +kernel⟩, List.mem_of_getElem? (i := 27) (by decide +kernel), List.mem_of_getElem? (i := 467) (by decide +kernel), List.mem_of_getElem? (i := 468) (by decide +kernel)⟩
theorem lw_p8 : lw_okq (⟨"MiddleSpans$Reader", "readOne", "(LMiddleSpans$Text;I)Z"⟩, 6) := ⟨⟨by decide +kernel, by decide +kernel⟩, List.mem_of_getElem? (i := 294) (by decide +kernel), List.mem_of_getElem? (i := 485) (by decide +kernel), List.mem_of_getElem? (i := 486) (by decide +kernel)⟩
theorem lw_p9 : lw_okq (⟨"MiddleSpans$Reader", "readNumber", "(LMiddleSpans$Text;)I"⟩, 6) := ⟨⟨by decide +kernel, by decide +kernel⟩, List.mem_of_getElem? (i := 294) (by decide +kernel), List.mem_of_getElem? (i := 493) (by decide +kernel), List.mem_of_getElem? (i := 494) (by decide +kernel)⟩
theorem lw_p10 : lw_okq (⟨"MiddleSpans$Reader", "readSign", "(LMiddleSpans$Text;C)Z"⟩, 6) := ⟨⟨by decide +kernel, by decide +kernel⟩, List.mem_of_getElem? (i := 294) (by decide +kernel), List.mem_of_getElem? (i := 506) (by decide +kernel), List.mem_of_getElem? (i := 507) (by decide +kernel)⟩
theorem lw_p11 : lw_okq (⟨"MiddleSpans$Line", "countTickInside", "()V"⟩, 3) := ⟨⟨by decide +kernel, by decide +kernel⟩, List.mem_of_getElem? (i := 27) (by decide +kernel), List.mem_of_getElem? (i := 600) (by decide +kernel), List.mem_of_getElem? (i := 601) (by decide +kernel)⟩
theorem lw_p12 : lw_okq (⟨"MiddleSpans", "ticksInOldest", "(I)I"⟩, 6) := ⟨⟨by decide +kernel, by decide +kernel⟩, List.mem_of_getElem? (i := 19) (by decide +kernel), List.mem_of_getElem? (i := 657) (by decide +kernel), List.mem_of_getElem? (i := 658) (by decide +kernel)⟩
theorem lw_p13 : lw_okq (⟨"MiddleSpans$Tree", "isNode", "()Z"⟩, 5) := ⟨⟨by decide +kernel, by decide +kernel⟩, List.mem_of_getElem? (i := 201) (by decide +kernel), List.mem_of_getElem? (i := 682) (by decide +kernel), List.mem_of_getElem? (i := 683) (by decide +kernel)⟩
theorem lw_p14 : lw_okq (⟨"MiddleSpans$Tree", "goTowards", "(I)Z"⟩, 5) := ⟨⟨by decide +kernel, by decide +kernel⟩, List.mem_of_getElem? (i := 201) (by decide +kernel), List.mem_of_getElem? (i := 686) (by decide +kernel), List.mem_of_getElem? (i := 687) (by decide +kernel)⟩
theorem lw_p15 : lw_okq (⟨"MiddleSpans$Tree", "lookedAtIn", "(IILMiddleSpans$Spans;)I"⟩, 5) := ⟨⟨by decide +kernel, by decide +kernel⟩, List.mem_of_getElem? (i := 201) (by decide +kernel), List.mem_of_getElem? (i := 694) (by decide +kernel), List.mem_of_getElem? (i := 695) (by decide +kernel)⟩
def lw_privs_1 : List (MethodName × Nat) := [(⟨"MiddleSpans$History", "dropOldest", "()V"⟩, 2), (⟨"MiddleSpans$Line", "layOut", "()V"⟩, 3), (⟨"MiddleSpans$Cover", "flip", "(II)V"⟩, 1), (⟨"MiddleSpans$Tree", "lay", "(III)V"⟩, 5), (⟨"MiddleSpans$Line", "tellAll", "()I"⟩, 3), (⟨"MiddleSpans$Line", "tell", "(I)I"⟩, 3), (⟨"MiddleSpans$Line", "tellLeft", "(II)V"⟩, 3), (⟨"MiddleSpans$Line", "tellEntered", "(II)V"⟩, 3), (⟨"MiddleSpans$Reader", "readOne", "(LMiddleSpans$Text;I)Z"⟩, 6), (⟨"MiddleSpans$Reader", "readNumber", "(LMiddleSpans$Text;)I"⟩, 6), (⟨"MiddleSpans$Reader", "readSign", "(LMiddleSpans$Text;C)Z"⟩, 6), (⟨"MiddleSpans$Line", "countTickInside", "()V"⟩, 3), (⟨"MiddleSpans", "ticksInOldest", "(I)I"⟩, 6), (⟨"MiddleSpans$Tree", "isNode", "()Z"⟩, 5), (⟨"MiddleSpans$Tree", "goTowards", "(I)Z"⟩, 5), (⟨"MiddleSpans$Tree", "lookedAtIn", "(IILMiddleSpans$Spans;)I"⟩, 5)]
theorem lw_r1 : ∀ q ∈ lw_privs_1, lw_okq q := List.forall_mem_cons.mpr ⟨lw_p0, List.forall_mem_cons.mpr ⟨lw_p1, List.forall_mem_cons.mpr ⟨lw_p2, List.forall_mem_cons.mpr ⟨lw_p3, List.forall_mem_cons.mpr ⟨lw_p4, List.forall_mem_cons.mpr ⟨lw_p5, List.forall_mem_cons.mpr ⟨lw_p6, List.forall_mem_cons.mpr ⟨lw_p7, List.forall_mem_cons.mpr ⟨lw_p8, List.forall_mem_cons.mpr ⟨lw_p9, List.forall_mem_cons.mpr ⟨lw_p10, List.forall_mem_cons.mpr ⟨lw_p11, List.forall_mem_cons.mpr ⟨lw_p12, List.forall_mem_cons.mpr ⟨lw_p13, List.forall_mem_cons.mpr ⟨lw_p14, List.forall_mem_cons.mpr ⟨lw_p15, fun _ h => absurd h List.not_mem_nil⟩⟩⟩⟩⟩⟩⟩⟩⟩⟩⟩⟩⟩⟩⟩⟩
theorem lw_p16 : lw_okq (⟨"MiddleSpans$Spans", "occursBefore", "([II)Z"⟩, 8) := ⟨⟨by decide +kernel, by decide +kernel⟩, List.mem_of_getElem? (i := 39) (by decide +kernel), List.mem_of_getElem? (i := 804) (by decide +kernel), List.mem_of_getElem? (i := 805) (by decide +kernel)⟩
theorem lw_p17 : lw_okq (⟨"MiddleSpansModel", "record", "()V"⟩, 18) := ⟨⟨by decide +kernel, by decide +kernel⟩, List.mem_of_getElem? (i := 808) (by decide +kernel), List.mem_of_getElem? (i := 876) (by decide +kernel), List.mem_of_getElem? (i := 877) (by decide +kernel)⟩
theorem lw_p18 : lw_okq (⟨"MiddleSpansModel", "adds", "(IIII)I"⟩, 18) := ⟨⟨by decide +kernel, by decide +kernel⟩, List.mem_of_getElem? (i := 808) (by decide +kernel), List.mem_of_getElem? (i := 880) (by decide +kernel), List.mem_of_getElem? (i := 881) (by decide +kernel)⟩
theorem lw_p19 : lw_okq (⟨"MiddleSpansModel", "puts", "(III)V"⟩, 18) := ⟨⟨by decide +kernel, by decide +kernel⟩, List.mem_of_getElem? (i := 808) (by decide +kernel), List.mem_of_getElem? (i := 884) (by decide +kernel), List.mem_of_getElem? (i := 885) (by decide +kernel)⟩
theorem lw_p20 : lw_okq (⟨"MiddleSpansModel", "allChanges", "()I"⟩, 18) := ⟨⟨by decide +kernel, by decide +kernel⟩, List.mem_of_getElem? (i := 808) (by decide +kernel), List.mem_of_getElem? (i := 888) (by decide +kernel), List.mem_of_getElem? (i := 889) (by decide +kernel)⟩
theorem lw_p21 : lw_okq (⟨"MiddleSpansModel", "changes", "(I)I"⟩, 18) := ⟨⟨by decide +kernel, by decide +kernel⟩, List.mem_of_getElem? (i := 808) (by decide +kernel), List.mem_of_getElem? (i := 892) (by decide +kernel), List.mem_of_getElem? (i := 893) (by decide +kernel)⟩
theorem lw_p22 : lw_okq (⟨"MiddleSpansModel", "its", "(II)I"⟩, 18) := ⟨⟨by decide +kernel, by decide +kernel⟩, List.mem_of_getElem? (i := 808) (by decide +kernel), List.mem_of_getElem? (i := 896) (by decide +kernel), List.mem_of_getElem? (i := 897) (by decide +kernel)⟩
theorem lw_p23 : lw_okq (⟨"MiddleSpansModel", "isInside", "(II)Z"⟩, 18) := ⟨⟨by decide +kernel, by decide +kernel⟩, List.mem_of_getElem? (i := 808) (by decide +kernel), List.mem_of_getElem? (i := 900) (by decide +kernel), List.mem_of_getElem? (i := 901) (by decide +kernel)⟩
theorem lw_p24 : lw_okq (⟨"MiddleSpansModel", "covers", "(II)Z"⟩, 18) := ⟨⟨by decide +kernel, by decide +kernel⟩, List.mem_of_getElem? (i := 808) (by decide +kernel), List.mem_of_getElem? (i := 904) (by decide +kernel), List.mem_of_getElem? (i := 905) (by decide +kernel)⟩
theorem lw_p25 : lw_okq (⟨"MiddleSpansModel", "isThere", "(I)Z"⟩, 18) := ⟨⟨by decide +kernel, by decide +kernel⟩, List.mem_of_getElem? (i := 808) (by decide +kernel), List.mem_of_getElem? (i := 908) (by decide +kernel), List.mem_of_getElem? (i := 909) (by decide +kernel)⟩
theorem lw_p26 : lw_okq (⟨"MiddleSpansModel", "of", "(II)I"⟩, 18) := ⟨⟨by decide +kernel, by decide +kernel⟩, List.mem_of_getElem? (i := 808) (by decide +kernel), List.mem_of_getElem? (i := 912) (by decide +kernel), List.mem_of_getElem? (i := 913) (by decide +kernel)⟩
theorem lw_p27 : lw_okq (⟨"MiddleSpansModel", "gives", "(III)V"⟩, 18) := ⟨⟨by decide +kernel, by decide +kernel⟩, List.mem_of_getElem? (i := 808) (by decide +kernel), List.mem_of_getElem? (i := 916) (by decide +kernel), List.mem_of_getElem? (i := 917) (by decide +kernel)⟩
theorem lw_p28 : lw_okq (⟨"MiddleSpansModel", "tells", "(III)V"⟩, 18) := ⟨⟨by decide +kernel, by decide +kernel⟩, List.mem_of_getElem? (i := 808) (by decide +kernel), List.mem_of_getElem? (i := 920) (by decide +kernel), List.mem_of_getElem? (i := 921) (by decide +kernel)⟩
theorem lw_p29 : lw_okq (⟨"MiddleSpansModel", "noSpan", "(I)Z"⟩, 18) := ⟨⟨by decide +kernel, by decide +kernel⟩, List.mem_of_getElem? (i := 808) (by decide +kernel), List.mem_of_getElem? (i := 928) (by decide +kernel), List.mem_of_getElem? (i := 929) (by decide +kernel)⟩
theorem lw_p30 : lw_okq (⟨"MiddleSpansModel", "noWalker", "(I)Z"⟩, 18) := ⟨⟨by decide +kernel, by decide +kernel⟩, List.mem_of_getElem? (i := 808) (by decide +kernel), List.mem_of_getElem? (i := 944) (by decide +kernel), List.mem_of_getElem? (i := 945) (by decide +kernel)⟩
theorem lw_p31 : lw_okq (⟨"MiddleSpansModel", "aTick", "()I"⟩, 18) := ⟨⟨by decide +kernel, by decide +kernel⟩, List.mem_of_getElem? (i := 808) (by decide +kernel), List.mem_of_getElem? (i := 956) (by decide +kernel), List.mem_of_getElem? (i := 957) (by decide +kernel)⟩
def lw_privs_2 : List (MethodName × Nat) := [(⟨"MiddleSpans$Spans", "occursBefore", "([II)Z"⟩, 8), (⟨"MiddleSpansModel", "record", "()V"⟩, 18), (⟨"MiddleSpansModel", "adds", "(IIII)I"⟩, 18), (⟨"MiddleSpansModel", "puts", "(III)V"⟩, 18), (⟨"MiddleSpansModel", "allChanges", "()I"⟩, 18), (⟨"MiddleSpansModel", "changes", "(I)I"⟩, 18), (⟨"MiddleSpansModel", "its", "(II)I"⟩, 18), (⟨"MiddleSpansModel", "isInside", "(II)Z"⟩, 18), (⟨"MiddleSpansModel", "covers", "(II)Z"⟩, 18), (⟨"MiddleSpansModel", "isThere", "(I)Z"⟩, 18), (⟨"MiddleSpansModel", "of", "(II)I"⟩, 18), (⟨"MiddleSpansModel", "gives", "(III)V"⟩, 18), (⟨"MiddleSpansModel", "tells", "(III)V"⟩, 18), (⟨"MiddleSpansModel", "noSpan", "(I)Z"⟩, 18), (⟨"MiddleSpansModel", "noWalker", "(I)Z"⟩, 18), (⟨"MiddleSpansModel", "aTick", "()I"⟩, 18)]
theorem lw_r2 : ∀ q ∈ lw_privs_2, lw_okq q := List.forall_mem_cons.mpr ⟨lw_p16, List.forall_mem_cons.mpr ⟨lw_p17, List.forall_mem_cons.mpr ⟨lw_p18, List.forall_mem_cons.mpr ⟨lw_p19, List.forall_mem_cons.mpr ⟨lw_p20, List.forall_mem_cons.mpr ⟨lw_p21, List.forall_mem_cons.mpr ⟨lw_p22, List.forall_mem_cons.mpr ⟨lw_p23, List.forall_mem_cons.mpr ⟨lw_p24, List.forall_mem_cons.mpr ⟨lw_p25, List.forall_mem_cons.mpr ⟨lw_p26, List.forall_mem_cons.mpr ⟨lw_p27, List.forall_mem_cons.mpr ⟨lw_p28, List.forall_mem_cons.mpr ⟨lw_p29, List.forall_mem_cons.mpr ⟨lw_p30, List.forall_mem_cons.mpr ⟨lw_p31, fun _ h => absurd h List.not_mem_nil⟩⟩⟩⟩⟩⟩⟩⟩⟩⟩⟩⟩⟩⟩⟩⟩
theorem lw_p32 : lw_okq (⟨"MiddleSpansModel", "goes", "(I)I"⟩, 18) := ⟨⟨by decide +kernel, by decide +kernel⟩, List.mem_of_getElem? (i := 808) (by decide +kernel), List.mem_of_getElem? (i := 960) (by decide +kernel), List.mem_of_getElem? (i := 961) (by decide +kernel)⟩
theorem lw_p33 : lw_okq (⟨"MiddleSpansModel", "spansOfText", "()I"⟩, 18) := ⟨⟨by decide +kernel, by decide +kernel⟩, List.mem_of_getElem? (i := 808) (by decide +kernel), List.mem_of_getElem? (i := 979) (by decide +kernel), List.mem_of_getElem? (i := 980) (by decide +kernel)⟩
theorem lw_p34 : lw_okq (⟨"MiddleSpansModel", "takesSpan", "()Z"⟩, 18) := ⟨⟨by decide +kernel, by decide +kernel⟩, List.mem_of_getElem? (i := 808) (by decide +kernel), List.mem_of_getElem? (i := 983) (by decide +kernel), List.mem_of_getElem? (i := 984) (by decide +kernel)⟩
theorem lw_p35 : lw_okq (⟨"MiddleSpansModel", "takes", "(I)Z"⟩, 18) := ⟨⟨by decide +kernel, by decide +kernel⟩, List.mem_of_getElem? (i := 808) (by decide +kernel), List.mem_of_getElem? (i := 987) (by decide +kernel), List.mem_of_getElem? (i := 988) (by decide +kernel)⟩
theorem lw_p36 : lw_okq (⟨"MiddleSpansModel", "takesNumber", "()Z"⟩, 18) := ⟨⟨by decide +kernel, by decide +kernel⟩, List.mem_of_getElem? (i := 808) (by decide +kernel), List.mem_of_getElem? (i := 991) (by decide +kernel), List.mem_of_getElem? (i := 992) (by decide +kernel)⟩
theorem lw_p37 : lw_okq (⟨"MiddleSpansModel", "isDigit", "()Z"⟩, 18) := ⟨⟨by decide +kernel, by decide +kernel⟩, List.mem_of_getElem? (i := 808) (by decide +kernel), List.mem_of_getElem? (i := 995) (by decide +kernel), List.mem_of_getElem? (i := 996) (by decide +kernel)⟩
theorem lw_p38 : lw_okq (⟨"MiddleSpansModel", "there", "()I"⟩, 18) := ⟨⟨by decide +kernel, by decide +kernel⟩, List.mem_of_getElem? (i := 808) (by decide +kernel), List.mem_of_getElem? (i := 1007) (by decide +kernel), List.mem_of_getElem? (i := 1008) (by decide +kernel)⟩
theorem lw_p39 : lw_okq (⟨"MiddleSpansModel", "marks", "()V"⟩, 18) := ⟨⟨by decide +kernel, by decide +kernel⟩, List.mem_of_getElem? (i := 808) (by decide +kernel), List.mem_of_getElem? (i := 1019) (by decide +kernel), List.mem_of_getElem? (i := 1020) (by decide +kernel)⟩
theorem lw_p40 : lw_okq (⟨"MiddleSpansModel", "finds", "(IZ)V"⟩, 18) := ⟨⟨by decide +kernel, by decide +kernel⟩, List.mem_of_getElem? (i := 808) (by decide +kernel), List.mem_of_getElem? (i := 1023) (by decide +kernel), List.mem_of_getElem? (i := 1024) (by decide +kernel)⟩
theorem lw_p41 : lw_okq (⟨"MiddleSpansModel", "guests", "(I)I"⟩, 18) := ⟨⟨by decide +kernel, by decide +kernel⟩, List.mem_of_getElem? (i := 808) (by decide +kernel), List.mem_of_getElem? (i := 1031) (by decide +kernel), List.mem_of_getElem? (i := 1032) (by decide +kernel)⟩
theorem lw_p42 : lw_okq (⟨"MiddleSpansModel", "longest", "(I)I"⟩, 18) := ⟨⟨by decide +kernel, by decide +kernel⟩, List.mem_of_getElem? (i := 808) (by decide +kernel), List.mem_of_getElem? (i := 1039) (by decide +kernel), List.mem_of_getElem? (i := 1040) (by decide +kernel)⟩
theorem lw_p43 : lw_okq (⟨"MiddleSpansModel", "houses", "(I)I"⟩, 18) := ⟨⟨by decide +kernel, by decide +kernel⟩, List.mem_of_getElem? (i := 808) (by decide +kernel), List.mem_of_getElem? (i := 1043) (by decide +kernel), List.mem_of_getElem? (i := 1044) (by decide +kernel)⟩
theorem lw_p44 : lw_okq (⟨"MiddleSpansModel", "covering", "(I)I"⟩, 18) := ⟨⟨by decide +kernel, by decide +kernel⟩, List.mem_of_getElem? (i := 808) (by decide +kernel), List.mem_of_getElem? (i := 1055) (by decide +kernel), List.mem_of_getElem? (i := 1056) (by decide +kernel)⟩
theorem lw_p45 : lw_okq (⟨"MiddleSpansModel", "way", "(II)I"⟩, 18) := ⟨⟨by decide +kernel, by decide +kernel⟩, List.mem_of_getElem? (i := 808) (by decide +kernel), List.mem_of_getElem? (i := 1059) (by decide +kernel), List.mem_of_getElem? (i := 1060) (by decide +kernel)⟩
theorem lw_p46 : lw_okq (⟨"MiddleSpansModel", "looked", "(II)I"⟩, 18) := ⟨⟨by decide +kernel, by decide +kernel⟩, List.mem_of_getElem? (i := 808) (by decide +kernel), List.mem_of_getElem? (i := 1063) (by decide +kernel), List.mem_of_getElem? (i := 1064) (by decide +kernel)⟩
theorem lw_p47 : lw_okq (⟨"MiddleSpansModel", "chosen", "(IZ)I"⟩, 18) := ⟨⟨by decide +kernel, by decide +kernel⟩, List.mem_of_getElem? (i := 808) (by decide +kernel), List.mem_of_getElem? (i := 1067) (by decide +kernel), List.mem_of_getElem? (i := 1068) (by decide +kernel)⟩
def lw_privs_3 : List (MethodName × Nat) := [(⟨"MiddleSpansModel", "goes", "(I)I"⟩, 18), (⟨"MiddleSpansModel", "spansOfText", "()I"⟩, 18), (⟨"MiddleSpansModel", "takesSpan", "()Z"⟩, 18), (⟨"MiddleSpansModel", "takes", "(I)Z"⟩, 18), (⟨"MiddleSpansModel", "takesNumber", "()Z"⟩, 18), (⟨"MiddleSpansModel", "isDigit", "()Z"⟩, 18), (⟨"MiddleSpansModel", "there", "()I"⟩, 18), (⟨"MiddleSpansModel", "marks", "()V"⟩, 18), (⟨"MiddleSpansModel", "finds", "(IZ)V"⟩, 18), (⟨"MiddleSpansModel", "guests", "(I)I"⟩, 18), (⟨"MiddleSpansModel", "longest", "(I)I"⟩, 18), (⟨"MiddleSpansModel", "houses", "(I)I"⟩, 18), (⟨"MiddleSpansModel", "covering", "(I)I"⟩, 18), (⟨"MiddleSpansModel", "way", "(II)I"⟩, 18), (⟨"MiddleSpansModel", "looked", "(II)I"⟩, 18), (⟨"MiddleSpansModel", "chosen", "(IZ)I"⟩, 18)]
theorem lw_r3 : ∀ q ∈ lw_privs_3, lw_okq q := List.forall_mem_cons.mpr ⟨lw_p32, List.forall_mem_cons.mpr ⟨lw_p33, List.forall_mem_cons.mpr ⟨lw_p34, List.forall_mem_cons.mpr ⟨lw_p35, List.forall_mem_cons.mpr ⟨lw_p36, List.forall_mem_cons.mpr ⟨lw_p37, List.forall_mem_cons.mpr ⟨lw_p38, List.forall_mem_cons.mpr ⟨lw_p39, List.forall_mem_cons.mpr ⟨lw_p40, List.forall_mem_cons.mpr ⟨lw_p41, List.forall_mem_cons.mpr ⟨lw_p42, List.forall_mem_cons.mpr ⟨lw_p43, List.forall_mem_cons.mpr ⟨lw_p44, List.forall_mem_cons.mpr ⟨lw_p45, List.forall_mem_cons.mpr ⟨lw_p46, List.forall_mem_cons.mpr ⟨lw_p47, fun _ h => absurd h List.not_mem_nil⟩⟩⟩⟩⟩⟩⟩⟩⟩⟩⟩⟩⟩⟩⟩⟩
theorem lw_p48 : lw_okq (⟨"MiddleSpansModel", "isOther", "(II)Z"⟩, 18) := ⟨⟨by decide +kernel, by decide +kernel⟩, List.mem_of_getElem? (i := 808) (by decide +kernel), List.mem_of_getElem? (i := 1083) (by decide +kernel), List.mem_of_getElem? (i := 1084) (by decide +kernel)⟩
theorem lw_p49 : lw_okq (⟨"MiddleSpansModel", "pairs", "()I"⟩, 18) := ⟨⟨by decide +kernel, by decide +kernel⟩, List.mem_of_getElem? (i := 808) (by decide +kernel), List.mem_of_getElem? (i := 1099) (by decide +kernel), List.mem_of_getElem? (i := 1100) (by decide +kernel)⟩
theorem lw_p50 : lw_okq (⟨"MiddleSpansModel", "visited", "()I"⟩, 18) := ⟨⟨by decide +kernel, by decide +kernel⟩, List.mem_of_getElem? (i := 808) (by decide +kernel), List.mem_of_getElem? (i := 1103) (by decide +kernel), List.mem_of_getElem? (i := 1104) (by decide +kernel)⟩
theorem lw_p51 : lw_okq (⟨"MiddleSpansModel", "different", "(I)I"⟩, 18) := ⟨⟨by decide +kernel, by decide +kernel⟩, List.mem_of_getElem? (i := 808) (by decide +kernel), List.mem_of_getElem? (i := 1107) (by decide +kernel), List.mem_of_getElem? (i := 1108) (by decide +kernel)⟩
def lw_privs_4 : List (MethodName × Nat) := [(⟨"MiddleSpansModel", "isOther", "(II)Z"⟩, 18), (⟨"MiddleSpansModel", "pairs", "()I"⟩, 18), (⟨"MiddleSpansModel", "visited", "()I"⟩, 18), (⟨"MiddleSpansModel", "different", "(I)I"⟩, 18)]
theorem lw_r4 : ∀ q ∈ lw_privs_4, lw_okq q := List.forall_mem_cons.mpr ⟨lw_p48, List.forall_mem_cons.mpr ⟨lw_p49, List.forall_mem_cons.mpr ⟨lw_p50, List.forall_mem_cons.mpr ⟨lw_p51, fun _ h => absurd h List.not_mem_nil⟩⟩⟩⟩
def lw_privs : List (MethodName × Nat) := lw_privs_1 ++ (lw_privs_2 ++ (lw_privs_3 ++ (lw_privs_4)))
def lw_tbl : List Cond := k2_sels lw_privs ++ tables_1
theorem lw_privs_ok : ∀ q ∈ lw_privs, lw_okq q := by
  show ∀ q ∈ lw_privs_1 ++ (lw_privs_2 ++ (lw_privs_3 ++ (lw_privs_4))), lw_okq q
  exact List.forall_mem_append.mpr ⟨lw_r1, List.forall_mem_append.mpr ⟨lw_r2, List.forall_mem_append.mpr ⟨lw_r3, lw_r4⟩⟩⟩
-- ===== end of PART A; then your names; then what follows =====
end
section
/-! ===== BEGIN words of one list among another's, by their places ===== -/
theorem goodIn_r {big : List Cond} (ws : List Cond) (ps : List Nat) (hp : ws = ps.filterMap (fun i => big[i]?)) (h : ws.all goodWord = true) : GoodIn big ws := by
  intro w hw
  have h1 := List.all_eq_true.mp h w hw
  rw [hp] at hw
  obtain ⟨i, -, hi⟩ := List.mem_filterMap.mp hw
  have hm : w ∈ big := by first | exact List.mem_of_getElem? hi | exact List.getElem?_mem hi
  exact ⟨hm, good_of_word h1⟩
theorem goodIn_app {big a b : List Cond} (ha : GoodIn big a) (hb : GoodIn big b) : GoodIn big (a ++ b) := fun w h => (List.mem_append.mp h).elim (ha w) (hb w)
theorem goodIn_ca {big a b : List Cond} {c : Cond} (ha : GoodIn big (c :: a)) (hb : GoodIn big b) : GoodIn big (c :: (a ++ b)) := fun w h => (List.mem_cons.mp h).elim (fun e => ha w (List.mem_cons.mpr (Or.inl e))) (fun h => (List.mem_append.mp h).elim (fun h => ha w (List.mem_cons.mpr (Or.inr h))) (hb w))
theorem goodIn_sub {big ws : List Cond} (hm : ∀ w ∈ ws, w ∈ big) (h : ws.all goodWord = true) : GoodIn big ws := fun w hw => ⟨hm w hw, good_of_word (List.all_eq_true.mp h w hw)⟩
/-! ===== END ===== -/
/-! ===== BEGIN printed: names, fields, word lists, decode rows ===== -/
def RX0 : String := "MiddleSpans$Cover"
def TX0 : u_T := fun k => match k with
  | _ => ("MiddleSpans$Cover", "sets", "[J", true)
def tyX0 : Nat → FieldType := fun k => match k with
  | _ => .array .long
abbrev wsX00 : List Cond := u_ws RX0 TX0 1
theorem nmX0 : ∀ a, a < 1 → ∀ b, b < 1 → a ≠ b → (TX0 a).2.1 ≠ (TX0 b).2.1 := by decide +kernel
theorem tyX0_ok : ∀ k, k < 1 → parseFieldDescriptor (TX0 k).2.2.1 = some (tyX0 k) := by decide +kernel
abbrev cX0_init : ByteArray := prog_2_method_1_code
def yX0_init : MethodName := ⟨RX0, "<init>", "()V"⟩
abbrev cX0_build : ByteArray := prog_2_method_2_code
def yX0_build : MethodName := ⟨RX0, "build", "(LMiddleSpans$Spans;)V"⟩
abbrev cX0_flip : ByteArray := prog_2_method_3_code
def yX0_flip : MethodName := ⟨RX0, "flip", "(II)V"⟩
abbrev cX0_over : ByteArray := prog_2_method_4_code
def yX0_over : MethodName := ⟨RX0, "over", "(I)J"⟩
abbrev cX0_freeToTheRight : ByteArray := prog_2_method_5_code
def yX0_freeToTheRight : MethodName := ⟨RX0, "freeToTheRight", "(I)I"⟩
abbrev cX0_freeToTheLeft : ByteArray := prog_2_method_6_code
def yX0_freeToTheLeft : MethodName := ⟨RX0, "freeToTheLeft", "(I)I"⟩
abbrev cX0_fullestPlace : ByteArray := prog_2_method_7_code
def yX0_fullestPlace : MethodName := ⟨RX0, "fullestPlace", "()I"⟩
abbrev cX0_countFree : ByteArray := prog_2_method_8_code
def yX0_countFree : MethodName := ⟨RX0, "countFree", "()I"⟩
def RX1 : String := "MiddleSpans$History"
def TX1 : u_T := fun k => match k with
  | 0 => ("MiddleSpans$History", "size", "I", false)
  | _ => ("MiddleSpans$History", "states", "[LMiddleSpans$State;", true)
def tyX1 : Nat → FieldType := fun k => match k with
  | 0 => .int
  | _ => .array (.object "MiddleSpans$State")
abbrev wsX10 : List Cond := u_ws RX1 TX1 2
theorem nmX1 : ∀ a, a < 2 → ∀ b, b < 2 → a ≠ b → (TX1 a).2.1 ≠ (TX1 b).2.1 := by decide +kernel
theorem tyX1_ok : ∀ k, k < 2 → parseFieldDescriptor (TX1 k).2.2.1 = some (tyX1 k) := by decide +kernel
abbrev cX1_init : ByteArray := prog_3_method_1_code
def yX1_init : MethodName := ⟨RX1, "<init>", "()V"⟩
abbrev cX1_record : ByteArray := prog_3_method_2_code
def yX1_record : MethodName := ⟨RX1, "record", "(LMiddleSpans$State;)V"⟩
abbrev cX1_dropOldest : ByteArray := prog_3_method_3_code
def yX1_dropOldest : MethodName := ⟨RX1, "dropOldest", "()V"⟩
abbrev cX1_takeLatest : ByteArray := prog_3_method_4_code
def yX1_takeLatest : MethodName := ⟨RX1, "takeLatest", "()LMiddleSpans$State;"⟩
def RX2 : String := "MiddleSpans$Line"
def TX2 : u_T := fun k => match k with
  | 0 => ("MiddleSpans$Line", "state", "LMiddleSpans$State;", true)
  | 1 => ("MiddleSpans$Line", "cover", "LMiddleSpans$Cover;", true)
  | _ => ("MiddleSpans$Line", "tree", "LMiddleSpans$Tree;", true)
def tyX2 : Nat → FieldType := fun k => match k with
  | 0 => .object "MiddleSpans$State"
  | 1 => .object "MiddleSpans$Cover"
  | _ => .object "MiddleSpans$Tree"
abbrev wsX20 : List Cond := u_ws RX2 TX2 3
theorem nmX2 : ∀ a, a < 3 → ∀ b, b < 3 → a ≠ b → (TX2 a).2.1 ≠ (TX2 b).2.1 := by decide +kernel
theorem tyX2_ok : ∀ k, k < 3 → parseFieldDescriptor (TX2 k).2.2.1 = some (tyX2 k) := by decide +kernel
abbrev cX2_init : ByteArray := prog_4_method_1_code
def yX2_init : MethodName := ⟨RX2, "<init>", "()V"⟩
abbrev cX2_become : ByteArray := prog_4_method_2_code
def yX2_become : MethodName := ⟨RX2, "become", "(LMiddleSpans$State;)V"⟩
abbrev cX2_layOut : ByteArray := prog_4_method_3_code
def yX2_layOut : MethodName := ⟨RX2, "layOut", "()V"⟩
abbrev cX2_addSpan : ByteArray := prog_4_method_4_code
def yX2_addSpan : MethodName := ⟨RX2, "addSpan", "(IIZZ)I"⟩
abbrev cX2_removeSpan : ByteArray := prog_4_method_5_code
def yX2_removeSpan : MethodName := ⟨RX2, "removeSpan", "(I)I"⟩
abbrev cX2_moveSpan : ByteArray := prog_4_method_6_code
def yX2_moveSpan : MethodName := ⟨RX2, "moveSpan", "(II)I"⟩
abbrev cX2_addWalker : ByteArray := prog_4_method_7_code
def yX2_addWalker : MethodName := ⟨RX2, "addWalker", "(II)I"⟩
abbrev cX2_putWalker : ByteArray := prog_4_method_8_code
def yX2_putWalker : MethodName := ⟨RX2, "putWalker", "(II)I"⟩
abbrev cX2_passTick : ByteArray := prog_4_method_9_code
def yX2_passTick : MethodName := ⟨RX2, "passTick", "()I"⟩
abbrev cX2_countTickInside : ByteArray := prog_4_method_10_code
def yX2_countTickInside : MethodName := ⟨RX2, "countTickInside", "()V"⟩
abbrev cX2_tellAll : ByteArray := prog_4_method_11_code
def yX2_tellAll : MethodName := ⟨RX2, "tellAll", "()I"⟩
abbrev cX2_tell : ByteArray := prog_4_method_12_code
def yX2_tell : MethodName := ⟨RX2, "tell", "(I)I"⟩
abbrev cX2_tellLeft : ByteArray := prog_4_method_13_code
def yX2_tellLeft : MethodName := ⟨RX2, "tellLeft", "(II)V"⟩
abbrev cX2_tellEntered : ByteArray := prog_4_method_14_code
def yX2_tellEntered : MethodName := ⟨RX2, "tellEntered", "(II)V"⟩
abbrev cX2_ticksToChange : ByteArray := prog_4_method_15_code
def yX2_ticksToChange : MethodName := ⟨RX2, "ticksToChange", "(I)I"⟩
def RX3 : String := "MiddleSpans$Log"
def TX3 : u_T := fun k => match k with
  | 0 => ("MiddleSpans$Log", "size", "I", false)
  | 1 => ("MiddleSpans$Log", "latest", "I", false)
  | 2 => ("MiddleSpans$Log", "kind", "[I", true)
  | 3 => ("MiddleSpans$Log", "walker", "[I", true)
  | 4 => ("MiddleSpans$Log", "subject", "[I", true)
  | _ => ("MiddleSpans$Log", "tick", "[I", true)
def tyX3 : Nat → FieldType := fun k => match k with
  | 0 => .int
  | 1 => .int
  | 2 => .array .int
  | 3 => .array .int
  | 4 => .array .int
  | _ => .array .int
abbrev wsX30 : List Cond := u_ws RX3 TX3 6
theorem nmX3 : ∀ a, a < 6 → ∀ b, b < 6 → a ≠ b → (TX3 a).2.1 ≠ (TX3 b).2.1 := by decide +kernel
theorem tyX3_ok : ∀ k, k < 6 → parseFieldDescriptor (TX3 k).2.2.1 = some (tyX3 k) := by decide +kernel
abbrev cX3_init : ByteArray := prog_5_method_1_code
def yX3_init : MethodName := ⟨RX3, "<init>", "()V"⟩
abbrev cX3_write : ByteArray := prog_5_method_2_code
def yX3_write : MethodName := ⟨RX3, "write", "(IIII)V"⟩
abbrev cX3_slotOf : ByteArray := prog_5_method_3_code
def yX3_slotOf : MethodName := ⟨RX3, "slotOf", "(I)I"⟩
abbrev cX3_copyFrom : ByteArray := prog_5_method_4_code
def yX3_copyFrom : MethodName := ⟨RX3, "copyFrom", "(LMiddleSpans$Log;)V"⟩
def RX4 : String := "MiddleSpans$Reader"
def TX4 : u_T := fun k => match k with
  | 0 => ("MiddleSpans$Reader", "size", "I", false)
  | 1 => ("MiddleSpans$Reader", "left", "[I", true)
  | 2 => ("MiddleSpans$Reader", "right", "[I", true)
  | 3 => ("MiddleSpans$Reader", "leftBelongs", "[Z", true)
  | 4 => ("MiddleSpans$Reader", "rightBelongs", "[Z", true)
  | _ => ("MiddleSpans$Reader", "position", "I", false)
def tyX4 : Nat → FieldType := fun k => match k with
  | 0 => .int
  | 1 => .array .int
  | 2 => .array .int
  | 3 => .array .boolean
  | 4 => .array .boolean
  | _ => .int
abbrev wsX40 : List Cond := u_ws RX4 TX4 6
theorem nmX4 : ∀ a, a < 6 → ∀ b, b < 6 → a ≠ b → (TX4 a).2.1 ≠ (TX4 b).2.1 := by decide +kernel
theorem tyX4_ok : ∀ k, k < 6 → parseFieldDescriptor (TX4 k).2.2.1 = some (tyX4 k) := by decide +kernel
abbrev cX4_init : ByteArray := prog_6_method_1_code
def yX4_init : MethodName := ⟨RX4, "<init>", "()V"⟩
abbrev cX4_readRow : ByteArray := prog_6_method_2_code
def yX4_readRow : MethodName := ⟨RX4, "readRow", "(LMiddleSpans$Text;)I"⟩
abbrev cX4_readOne : ByteArray := prog_6_method_3_code
def yX4_readOne : MethodName := ⟨RX4, "readOne", "(LMiddleSpans$Text;I)Z"⟩
abbrev cX4_readSign : ByteArray := prog_6_method_4_code
def yX4_readSign : MethodName := ⟨RX4, "readSign", "(LMiddleSpans$Text;C)Z"⟩
abbrev cX4_readNumber : ByteArray := prog_6_method_5_code
def yX4_readNumber : MethodName := ⟨RX4, "readNumber", "(LMiddleSpans$Text;)I"⟩
abbrev cX4_allAreSpans : ByteArray := prog_6_method_6_code
def yX4_allAreSpans : MethodName := ⟨RX4, "allAreSpans", "()Z"⟩
def RX5 : String := "MiddleSpans$Spans"
def TX5 : u_T := fun k => match k with
  | 0 => ("MiddleSpans$Spans", "size", "I", false)
  | 1 => ("MiddleSpans$Spans", "there", "J", false)
  | 2 => ("MiddleSpans$Spans", "left", "[I", true)
  | 3 => ("MiddleSpans$Spans", "right", "[I", true)
  | 4 => ("MiddleSpans$Spans", "first", "[I", true)
  | 5 => ("MiddleSpans$Spans", "last", "[I", true)
  | 6 => ("MiddleSpans$Spans", "ticksInside", "[I", true)
  | _ => ("MiddleSpans$Spans", "timesEntered", "[I", true)
def tyX5 : Nat → FieldType := fun k => match k with
  | 0 => .int
  | 1 => .long
  | 2 => .array .int
  | 3 => .array .int
  | 4 => .array .int
  | 5 => .array .int
  | 6 => .array .int
  | _ => .array .int
abbrev wsX50 : List Cond := u_ws RX5 TX5 8
theorem nmX5 : ∀ a, a < 8 → ∀ b, b < 8 → a ≠ b → (TX5 a).2.1 ≠ (TX5 b).2.1 := by decide +kernel
theorem tyX5_ok : ∀ k, k < 8 → parseFieldDescriptor (TX5 k).2.2.1 = some (tyX5 k) := by decide +kernel
abbrev cX5_init : ByteArray := prog_7_method_1_code
def yX5_init : MethodName := ⟨RX5, "<init>", "()V"⟩
abbrev cX5_has : ByteArray := prog_7_method_2_code
def yX5_has : MethodName := ⟨RX5, "has", "(I)Z"⟩
abbrev cX5_isThere : ByteArray := prog_7_method_3_code
def yX5_isThere : MethodName := ⟨RX5, "isThere", "(I)Z"⟩
abbrev cX5_append : ByteArray := prog_7_method_4_code
def yX5_append : MethodName := ⟨RX5, "append", "(IIZZ)I"⟩
abbrev cX5_shift : ByteArray := prog_7_method_5_code
def yX5_shift : MethodName := ⟨RX5, "shift", "(II)V"⟩
abbrev cX5_takeAway : ByteArray := prog_7_method_6_code
def yX5_takeAway : MethodName := ⟨RX5, "takeAway", "(I)V"⟩
abbrev cX5_countThere : ByteArray := prog_7_method_7_code
def yX5_countThere : MethodName := ⟨RX5, "countThere", "()I"⟩
abbrev cX5_shortestOf : ByteArray := prog_7_method_8_code
def yX5_shortestOf : MethodName := ⟨RX5, "shortestOf", "(J)I"⟩
abbrev cX5_countPairs : ByteArray := prog_7_method_9_code
def yX5_countPairs : MethodName := ⟨RX5, "countPairs", "()I"⟩
abbrev cX5_countDifferent : ByteArray := prog_7_method_10_code
def yX5_countDifferent : MethodName := ⟨RX5, "countDifferent", "([I)I"⟩
abbrev cX5_occursBefore : ByteArray := prog_7_method_11_code
def yX5_occursBefore : MethodName := ⟨RX5, "occursBefore", "([II)Z"⟩
abbrev cX5_copyFrom : ByteArray := prog_7_method_12_code
def yX5_copyFrom : MethodName := ⟨RX5, "copyFrom", "(LMiddleSpans$Spans;)V"⟩
def RX6 : String := "MiddleSpans$State"
def TX6 : u_T := fun k => match k with
  | 0 => ("MiddleSpans$State", "tick", "I", false)
  | 1 => ("MiddleSpans$State", "spans", "LMiddleSpans$Spans;", true)
  | 2 => ("MiddleSpans$State", "walkers", "LMiddleSpans$Walkers;", true)
  | _ => ("MiddleSpans$State", "log", "LMiddleSpans$Log;", true)
def tyX6 : Nat → FieldType := fun k => match k with
  | 0 => .int
  | 1 => .object "MiddleSpans$Spans"
  | 2 => .object "MiddleSpans$Walkers"
  | _ => .object "MiddleSpans$Log"
abbrev wsX60 : List Cond := u_ws RX6 TX6 4
theorem nmX6 : ∀ a, a < 4 → ∀ b, b < 4 → a ≠ b → (TX6 a).2.1 ≠ (TX6 b).2.1 := by decide +kernel
theorem tyX6_ok : ∀ k, k < 4 → parseFieldDescriptor (TX6 k).2.2.1 = some (tyX6 k) := by decide +kernel
abbrev cX6_init : ByteArray := prog_8_method_1_code
def yX6_init : MethodName := ⟨RX6, "<init>", "()V"⟩
abbrev cX6_copyFrom : ByteArray := prog_8_method_2_code
def yX6_copyFrom : MethodName := ⟨RX6, "copyFrom", "(LMiddleSpans$State;)V"⟩
def RX7 : String := "MiddleSpans$Text"
def TX7 : u_T := fun k => match k with
  | 0 => ("MiddleSpans$Text", "length", "I", false)
  | _ => ("MiddleSpans$Text", "characters", "[C", true)
def tyX7 : Nat → FieldType := fun k => match k with
  | 0 => .int
  | _ => .array .char
abbrev wsX70 : List Cond := u_ws RX7 TX7 2
theorem nmX7 : ∀ a, a < 2 → ∀ b, b < 2 → a ≠ b → (TX7 a).2.1 ≠ (TX7 b).2.1 := by decide +kernel
theorem tyX7_ok : ∀ k, k < 2 → parseFieldDescriptor (TX7 k).2.2.1 = some (tyX7 k) := by decide +kernel
abbrev cX7_init : ByteArray := prog_9_method_1_code
def yX7_init : MethodName := ⟨RX7, "<init>", "()V"⟩
abbrev cX7_append : ByteArray := prog_9_method_2_code
def yX7_append : MethodName := ⟨RX7, "append", "(C)Z"⟩
abbrev cX7_hasAt : ByteArray := prog_9_method_3_code
def yX7_hasAt : MethodName := ⟨RX7, "hasAt", "(IC)Z"⟩
abbrev cX7_hasDigitAt : ByteArray := prog_9_method_4_code
def yX7_hasDigitAt : MethodName := ⟨RX7, "hasDigitAt", "(I)Z"⟩
abbrev cX7_digitAt : ByteArray := prog_9_method_5_code
def yX7_digitAt : MethodName := ⟨RX7, "digitAt", "(I)I"⟩
def RX8 : String := "MiddleSpans$Tree"
def TX8 : u_T := fun k => match k with
  | 0 => ("MiddleSpans$Tree", "middleOf", "[I", true)
  | 1 => ("MiddleSpans$Tree", "depthOf", "[I", true)
  | 2 => ("MiddleSpans$Tree", "lying", "[I", true)
  | 3 => ("MiddleSpans$Tree", "ways", "[I", true)
  | _ => ("MiddleSpans$Tree", "way", "LMiddleSpans$Way;", true)
def tyX8 : Nat → FieldType := fun k => match k with
  | 0 => .array .int
  | 1 => .array .int
  | 2 => .array .int
  | 3 => .array .int
  | _ => .object "MiddleSpans$Way"
abbrev wsX80 : List Cond := u_ws RX8 TX8 5
theorem nmX8 : ∀ a, a < 5 → ∀ b, b < 5 → a ≠ b → (TX8 a).2.1 ≠ (TX8 b).2.1 := by decide +kernel
theorem tyX8_ok : ∀ k, k < 5 → parseFieldDescriptor (TX8 k).2.2.1 = some (tyX8 k) := by decide +kernel
abbrev cX8_init : ByteArray := prog_10_method_1_code
def yX8_init : MethodName := ⟨RX8, "<init>", "()V"⟩
abbrev cX8_build : ByteArray := prog_10_method_2_code
def yX8_build : MethodName := ⟨RX8, "build", "(LMiddleSpans$Spans;)V"⟩
abbrev cX8_lay : ByteArray := prog_10_method_3_code
def yX8_lay : MethodName := ⟨RX8, "lay", "(III)V"⟩
abbrev cX8_nodesOnWay : ByteArray := prog_10_method_4_code
def yX8_nodesOnWay : MethodName := ⟨RX8, "nodesOnWay", "(I)I"⟩
abbrev cX8_spansLookedAt : ByteArray := prog_10_method_5_code
def yX8_spansLookedAt : MethodName := ⟨RX8, "spansLookedAt", "(ILMiddleSpans$Spans;)I"⟩
abbrev cX8_isNode : ByteArray := prog_10_method_6_code
def yX8_isNode : MethodName := ⟨RX8, "isNode", "()Z"⟩
abbrev cX8_goTowards : ByteArray := prog_10_method_7_code
def yX8_goTowards : MethodName := ⟨RX8, "goTowards", "(I)Z"⟩
abbrev cX8_lookedAtIn : ByteArray := prog_10_method_8_code
def yX8_lookedAtIn : MethodName := ⟨RX8, "lookedAtIn", "(IILMiddleSpans$Spans;)I"⟩
abbrev cX8_reaches : ByteArray := prog_10_method_9_code
def yX8_reaches : MethodName := ⟨RX8, "reaches", "(LMiddleSpans$Spans;III)Z"⟩
abbrev cX8_countNodes : ByteArray := prog_10_method_10_code
def yX8_countNodes : MethodName := ⟨RX8, "countNodes", "()I"⟩
abbrev cX8_greatestDepth : ByteArray := prog_10_method_11_code
def yX8_greatestDepth : MethodName := ⟨RX8, "greatestDepth", "(LMiddleSpans$Spans;)I"⟩
abbrev cX8_fullestMiddle : ByteArray := prog_10_method_12_code
def yX8_fullestMiddle : MethodName := ⟨RX8, "fullestMiddle", "()I"⟩
abbrev cX8_mostInOneNode : ByteArray := prog_10_method_13_code
def yX8_mostInOneNode : MethodName := ⟨RX8, "mostInOneNode", "()I"⟩
def RX9 : String := "MiddleSpans$Walkers"
def TX9 : u_T := fun k => match k with
  | 0 => ("MiddleSpans$Walkers", "size", "I", false)
  | 1 => ("MiddleSpans$Walkers", "place", "[I", true)
  | 2 => ("MiddleSpans$Walkers", "speed", "[I", true)
  | 3 => ("MiddleSpans$Walkers", "inside", "[J", true)
  | 4 => ("MiddleSpans$Walkers", "entered", "[I", true)
  | 5 => ("MiddleSpans$Walkers", "left", "[I", true)
  | 6 => ("MiddleSpans$Walkers", "way", "[I", true)
  | 7 => ("MiddleSpans$Walkers", "turns", "[I", true)
  | _ => ("MiddleSpans$Walkers", "enteredAt", "[[I", true)
def tyX9 : Nat → FieldType := fun k => match k with
  | 0 => .int
  | 1 => .array .int
  | 2 => .array .int
  | 3 => .array .long
  | 4 => .array .int
  | 5 => .array .int
  | 6 => .array .int
  | 7 => .array .int
  | _ => .array (.array .int)
abbrev wsX90 : List Cond := u_ws RX9 TX9 9
theorem nmX9 : ∀ a, a < 9 → ∀ b, b < 9 → a ≠ b → (TX9 a).2.1 ≠ (TX9 b).2.1 := by decide +kernel
theorem tyX9_ok : ∀ k, k < 9 → parseFieldDescriptor (TX9 k).2.2.1 = some (tyX9 k) := by decide +kernel
abbrev cX9_init : ByteArray := prog_11_method_1_code
def yX9_init : MethodName := ⟨RX9, "<init>", "()V"⟩
abbrev cX9_has : ByteArray := prog_11_method_2_code
def yX9_has : MethodName := ⟨RX9, "has", "(I)Z"⟩
abbrev cX9_append : ByteArray := prog_11_method_3_code
def yX9_append : MethodName := ⟨RX9, "append", "(II)I"⟩
abbrev cX9_stepTurns : ByteArray := prog_11_method_4_code
def yX9_stepTurns : MethodName := ⟨RX9, "stepTurns", "(I)Z"⟩
abbrev cX9_countInside : ByteArray := prog_11_method_5_code
def yX9_countInside : MethodName := ⟨RX9, "countInside", "(I)I"⟩
abbrev cX9_insideOfAny : ByteArray := prog_11_method_6_code
def yX9_insideOfAny : MethodName := ⟨RX9, "insideOfAny", "()J"⟩
abbrev cX9_oldestSpan : ByteArray := prog_11_method_7_code
def yX9_oldestSpan : MethodName := ⟨RX9, "oldestSpan", "(I)I"⟩
abbrev cX9_ticksToMeet : ByteArray := prog_11_method_8_code
def yX9_ticksToMeet : MethodName := ⟨RX9, "ticksToMeet", "(II)I"⟩
abbrev cX9_copyFrom : ByteArray := prog_11_method_9_code
def yX9_copyFrom : MethodName := ⟨RX9, "copyFrom", "(LMiddleSpans$Walkers;)V"⟩
def RX10 : String := "MiddleSpans$Way"
def TX10 : u_T := fun k => match k with
  | 0 => ("MiddleSpans$Way", "lowest", "I", false)
  | 1 => ("MiddleSpans$Way", "highest", "I", false)
  | 2 => ("MiddleSpans$Way", "middle", "I", false)
  | _ => ("MiddleSpans$Way", "depth", "I", false)
def tyX10 : Nat → FieldType := fun k => match k with
  | 0 => .int
  | 1 => .int
  | 2 => .int
  | _ => .int
abbrev wsX100 : List Cond := u_ws RX10 TX10 4
theorem nmX10 : ∀ a, a < 4 → ∀ b, b < 4 → a ≠ b → (TX10 a).2.1 ≠ (TX10 b).2.1 := by decide +kernel
theorem tyX10_ok : ∀ k, k < 4 → parseFieldDescriptor (TX10 k).2.2.1 = some (tyX10 k) := by decide +kernel
abbrev cX10_init : ByteArray := prog_12_method_1_code
def yX10_init : MethodName := ⟨RX10, "<init>", "()V"⟩
abbrev cX10_start : ByteArray := prog_12_method_2_code
def yX10_start : MethodName := ⟨RX10, "start", "()V"⟩
abbrev cX10_goLeft : ByteArray := prog_12_method_3_code
def yX10_goLeft : MethodName := ⟨RX10, "goLeft", "()V"⟩
abbrev cX10_goRight : ByteArray := prog_12_method_4_code
def yX10_goRight : MethodName := ⟨RX10, "goRight", "()V"⟩
abbrev cX10_hasPlaces : ByteArray := prog_12_method_5_code
def yX10_hasPlaces : MethodName := ⟨RX10, "hasPlaces", "()Z"⟩
abbrev cX10_halfway : ByteArray := prog_12_method_6_code
def yX10_halfway : MethodName := ⟨RX10, "halfway", "(II)I"⟩
def RX11 : String := "MiddleSpans"
def TX11 : u_T := fun k => match k with
  | 0 => ("MiddleSpans", "line", "LMiddleSpans$Line;", true)
  | 1 => ("MiddleSpans", "history", "LMiddleSpans$History;", true)
  | 2 => ("MiddleSpans", "snapshot", "LMiddleSpans$State;", true)
  | 3 => ("MiddleSpans", "text", "LMiddleSpans$Text;", true)
  | 4 => ("MiddleSpans", "reader", "LMiddleSpans$Reader;", true)
  | _ => ("MiddleSpans", "kept", "Z", false)
def tyX11 : Nat → FieldType := fun k => match k with
  | 0 => .object "MiddleSpans$Line"
  | 1 => .object "MiddleSpans$History"
  | 2 => .object "MiddleSpans$State"
  | 3 => .object "MiddleSpans$Text"
  | 4 => .object "MiddleSpans$Reader"
  | _ => .boolean
abbrev wsX110 : List Cond := u_ws RX11 TX11 6
theorem nmX11 : ∀ a, a < 6 → ∀ b, b < 6 → a ≠ b → (TX11 a).2.1 ≠ (TX11 b).2.1 := by decide +kernel
theorem tyX11_ok : ∀ k, k < 6 → parseFieldDescriptor (TX11 k).2.2.1 = some (tyX11 k) := by decide +kernel
abbrev cX11_init : ByteArray := prog_1_method_1_code
def yX11_init : MethodName := ⟨RX11, "<init>", "()V"⟩
abbrev cX11_add : ByteArray := prog_1_method_2_code
def yX11_add : MethodName := ⟨RX11, "add", "(II)I"⟩
abbrev cX11_readSpans : ByteArray := prog_1_method_3_code
def yX11_readSpans : MethodName := ⟨RX11, "readSpans", "()I"⟩
abbrev cX11_remove : ByteArray := prog_1_method_4_code
def yX11_remove : MethodName := ⟨RX11, "remove", "(I)I"⟩
abbrev cX11_move : ByteArray := prog_1_method_5_code
def yX11_move : MethodName := ⟨RX11, "move", "(II)I"⟩
abbrev cX11_come : ByteArray := prog_1_method_6_code
def yX11_come : MethodName := ⟨RX11, "come", "(II)I"⟩
abbrev cX11_put : ByteArray := prog_1_method_7_code
def yX11_put : MethodName := ⟨RX11, "put", "(II)I"⟩
abbrev cX11_speed : ByteArray := prog_1_method_8_code
def yX11_speed : MethodName := ⟨RX11, "speed", "(II)I"⟩
abbrev cX11_pass : ByteArray := prog_1_method_9_code
def yX11_pass : MethodName := ⟨RX11, "pass", "(I)I"⟩
abbrev cX11_type : ByteArray := prog_1_method_10_code
def yX11_type : MethodName := ⟨RX11, "type", "(C)I"⟩
abbrev cX11_clearText : ByteArray := prog_1_method_11_code
def yX11_clearText : MethodName := ⟨RX11, "clearText", "()I"⟩
abbrev cX11_undo : ByteArray := prog_1_method_12_code
def yX11_undo : MethodName := ⟨RX11, "undo", "()I"⟩
abbrev cX11_keep : ByteArray := prog_1_method_13_code
def yX11_keep : MethodName := ⟨RX11, "keep", "()I"⟩
abbrev cX11_restore : ByteArray := prog_1_method_14_code
def yX11_restore : MethodName := ⟨RX11, "restore", "()I"⟩
abbrev cX11_span : ByteArray := prog_1_method_15_code
def yX11_span : MethodName := ⟨RX11, "span", "(II)I"⟩
abbrev cX11_walker : ByteArray := prog_1_method_16_code
def yX11_walker : MethodName := ⟨RX11, "walker", "(II)I"⟩
abbrev cX11_inside : ByteArray := prog_1_method_17_code
def yX11_inside : MethodName := ⟨RX11, "inside", "(II)I"⟩
abbrev cX11_ask : ByteArray := prog_1_method_18_code
def yX11_ask : MethodName := ⟨RX11, "ask", "(II)I"⟩
abbrev cX11_free : ByteArray := prog_1_method_19_code
def yX11_free : MethodName := ⟨RX11, "free", "(IZ)I"⟩
abbrev cX11_most : ByteArray := prog_1_method_20_code
def yX11_most : MethodName := ⟨RX11, "most", "(I)I"⟩
abbrev cX11_changesIn : ByteArray := prog_1_method_21_code
def yX11_changesIn : MethodName := ⟨RX11, "changesIn", "(I)I"⟩
abbrev cX11_meetIn : ByteArray := prog_1_method_22_code
def yX11_meetIn : MethodName := ⟨RX11, "meetIn", "(II)I"⟩
abbrev cX11_index : ByteArray := prog_1_method_23_code
def yX11_index : MethodName := ⟨RX11, "index", "(I)I"⟩
abbrev cX11_event : ByteArray := prog_1_method_24_code
def yX11_event : MethodName := ⟨RX11, "event", "(II)I"⟩
abbrev cX11_count : ByteArray := prog_1_method_25_code
def yX11_count : MethodName := ⟨RX11, "count", "(I)I"⟩
abbrev cX11_ticksInOldest : ByteArray := prog_1_method_26_code
def yX11_ticksInOldest : MethodName := ⟨RX11, "ticksInOldest", "(I)I"⟩
abbrev cX11_isPlace : ByteArray := prog_1_method_27_code
def yX11_isPlace : MethodName := ⟨RX11, "isPlace", "(I)Z"⟩
abbrev cX11_isSpeed : ByteArray := prog_1_method_28_code
def yX11_isSpeed : MethodName := ⟨RX11, "isSpeed", "(I)Z"⟩
abbrev cX11_isMember : ByteArray := prog_1_method_29_code
def yX11_isMember : MethodName := ⟨RX11, "isMember", "(JI)Z"⟩
abbrev cX11_memberAt : ByteArray := prog_1_method_30_code
def yX11_memberAt : MethodName := ⟨RX11, "memberAt", "(JI)I"⟩
abbrev cX11_sumOf : ByteArray := prog_1_method_31_code
def yX11_sumOf : MethodName := ⟨RX11, "sumOf", "([II)I"⟩
abbrev cX11_turnsNext : ByteArray := prog_1_method_32_code
def yX11_turnsNext : MethodName := ⟨RX11, "turnsNext", "(II)Z"⟩
abbrev cX11_nextPlace : ByteArray := prog_1_method_33_code
def yX11_nextPlace : MethodName := ⟨RX11, "nextPlace", "(II)I"⟩
abbrev cX11_nextSpeed : ByteArray := prog_1_method_34_code
def yX11_nextSpeed : MethodName := ⟨RX11, "nextSpeed", "(II)I"⟩
def RX12 : String := "MiddleSpansModel"
def TX12 : u_T := fun k => match k with
  | 0 => ("MiddleSpansModel", "now", "[I", true)
  | 1 => ("MiddleSpansModel", "history", "[I", true)
  | 2 => ("MiddleSpansModel", "kept", "I", false)
  | 3 => ("MiddleSpansModel", "slot", "[I", true)
  | 4 => ("MiddleSpansModel", "isFilled", "Z", false)
  | 5 => ("MiddleSpansModel", "typed", "I", false)
  | 6 => ("MiddleSpansModel", "text", "[C", true)
  | 7 => ("MiddleSpansModel", "at", "I", false)
  | 8 => ("MiddleSpansModel", "number", "I", false)
  | 9 => ("MiddleSpansModel", "left", "I", false)
  | 10 => ("MiddleSpansModel", "right", "I", false)
  | 11 => ("MiddleSpansModel", "first", "I", false)
  | 12 => ("MiddleSpansModel", "last", "I", false)
  | 13 => ("MiddleSpansModel", "middle", "I", false)
  | 14 => ("MiddleSpansModel", "depth", "I", false)
  | 15 => ("MiddleSpansModel", "isNode", "[Z", true)
  | 16 => ("MiddleSpansModel", "load", "[I", true)
  | _ => ("MiddleSpansModel", "deepest", "I", false)
def tyX12 : Nat → FieldType := fun k => match k with
  | 0 => .array .int
  | 1 => .array .int
  | 2 => .int
  | 3 => .array .int
  | 4 => .boolean
  | 5 => .int
  | 6 => .array .char
  | 7 => .int
  | 8 => .int
  | 9 => .int
  | 10 => .int
  | 11 => .int
  | 12 => .int
  | 13 => .int
  | 14 => .int
  | 15 => .array .boolean
  | 16 => .array .int
  | _ => .int
abbrev wsX120 : List Cond := u_ws RX12 TX12 18
theorem nmX12 : ∀ a, a < 18 → ∀ b, b < 18 → a ≠ b → (TX12 a).2.1 ≠ (TX12 b).2.1 := by decide +kernel
theorem tyX12_ok : ∀ k, k < 18 → parseFieldDescriptor (TX12 k).2.2.1 = some (tyX12 k) := by decide +kernel
abbrev cX12_init : ByteArray := prog_14_method_1_code
def yX12_init : MethodName := ⟨RX12, "<init>", "()V"⟩
abbrev cX12_in : ByteArray := prog_14_method_2_code
def yX12_in : MethodName := ⟨RX12, "in", "(III)Z"⟩
abbrev cX12_of : ByteArray := prog_14_method_3_code
def yX12_of : MethodName := ⟨RX12, "of", "(II)I"⟩
abbrev cX12_puts : ByteArray := prog_14_method_4_code
def yX12_puts : MethodName := ⟨RX12, "puts", "(III)V"⟩
abbrev cX12_isThere : ByteArray := prog_14_method_5_code
def yX12_isThere : MethodName := ⟨RX12, "isThere", "(I)Z"⟩
abbrev cX12_noSpan : ByteArray := prog_14_method_6_code
def yX12_noSpan : MethodName := ⟨RX12, "noSpan", "(I)Z"⟩
abbrev cX12_noWalker : ByteArray := prog_14_method_7_code
def yX12_noWalker : MethodName := ⟨RX12, "noWalker", "(I)Z"⟩
abbrev cX12_its : ByteArray := prog_14_method_8_code
def yX12_its : MethodName := ⟨RX12, "its", "(II)I"⟩
abbrev cX12_gives : ByteArray := prog_14_method_9_code
def yX12_gives : MethodName := ⟨RX12, "gives", "(III)V"⟩
abbrev cX12_covers : ByteArray := prog_14_method_10_code
def yX12_covers : MethodName := ⟨RX12, "covers", "(II)Z"⟩
abbrev cX12_isInside : ByteArray := prog_14_method_11_code
def yX12_isInside : MethodName := ⟨RX12, "isInside", "(II)Z"⟩
abbrev cX12_record : ByteArray := prog_14_method_12_code
def yX12_record : MethodName := ⟨RX12, "record", "()V"⟩
abbrev cX12_tells : ByteArray := prog_14_method_13_code
def yX12_tells : MethodName := ⟨RX12, "tells", "(III)V"⟩
abbrev cX12_changes : ByteArray := prog_14_method_14_code
def yX12_changes : MethodName := ⟨RX12, "changes", "(I)I"⟩
abbrev cX12_allChanges : ByteArray := prog_14_method_15_code
def yX12_allChanges : MethodName := ⟨RX12, "allChanges", "()I"⟩
abbrev cX12_adds : ByteArray := prog_14_method_16_code
def yX12_adds : MethodName := ⟨RX12, "adds", "(IIII)I"⟩
abbrev cX12_add : ByteArray := prog_14_method_17_code
def yX12_add : MethodName := ⟨RX12, "add", "(II)I"⟩
abbrev cX12_remove : ByteArray := prog_14_method_18_code
def yX12_remove : MethodName := ⟨RX12, "remove", "(I)I"⟩
abbrev cX12_move : ByteArray := prog_14_method_19_code
def yX12_move : MethodName := ⟨RX12, "move", "(II)I"⟩
abbrev cX12_come : ByteArray := prog_14_method_20_code
def yX12_come : MethodName := ⟨RX12, "come", "(II)I"⟩
abbrev cX12_put : ByteArray := prog_14_method_21_code
def yX12_put : MethodName := ⟨RX12, "put", "(II)I"⟩
abbrev cX12_speed : ByteArray := prog_14_method_22_code
def yX12_speed : MethodName := ⟨RX12, "speed", "(II)I"⟩
abbrev cX12_turned : ByteArray := prog_14_method_23_code
def yX12_turned : MethodName := ⟨RX12, "turned", "(I)I"⟩
abbrev cX12_goes : ByteArray := prog_14_method_24_code
def yX12_goes : MethodName := ⟨RX12, "goes", "(I)I"⟩
abbrev cX12_aTick : ByteArray := prog_14_method_25_code
def yX12_aTick : MethodName := ⟨RX12, "aTick", "()I"⟩
abbrev cX12_pass : ByteArray := prog_14_method_26_code
def yX12_pass : MethodName := ⟨RX12, "pass", "(I)I"⟩
abbrev cX12_type : ByteArray := prog_14_method_27_code
def yX12_type : MethodName := ⟨RX12, "type", "(C)I"⟩
abbrev cX12_clearText : ByteArray := prog_14_method_28_code
def yX12_clearText : MethodName := ⟨RX12, "clearText", "()I"⟩
abbrev cX12_isDigit : ByteArray := prog_14_method_29_code
def yX12_isDigit : MethodName := ⟨RX12, "isDigit", "()Z"⟩
abbrev cX12_takes : ByteArray := prog_14_method_30_code
def yX12_takes : MethodName := ⟨RX12, "takes", "(I)Z"⟩
abbrev cX12_takesNumber : ByteArray := prog_14_method_31_code
def yX12_takesNumber : MethodName := ⟨RX12, "takesNumber", "()Z"⟩
abbrev cX12_takesSpan : ByteArray := prog_14_method_32_code
def yX12_takesSpan : MethodName := ⟨RX12, "takesSpan", "()Z"⟩
abbrev cX12_spansOfText : ByteArray := prog_14_method_33_code
def yX12_spansOfText : MethodName := ⟨RX12, "spansOfText", "()I"⟩
abbrev cX12_readSpans : ByteArray := prog_14_method_34_code
def yX12_readSpans : MethodName := ⟨RX12, "readSpans", "()I"⟩
abbrev cX12_there : ByteArray := prog_14_method_35_code
def yX12_there : MethodName := ⟨RX12, "there", "()I"⟩
abbrev cX12_undo : ByteArray := prog_14_method_36_code
def yX12_undo : MethodName := ⟨RX12, "undo", "()I"⟩
abbrev cX12_keep : ByteArray := prog_14_method_37_code
def yX12_keep : MethodName := ⟨RX12, "keep", "()I"⟩
abbrev cX12_restore : ByteArray := prog_14_method_38_code
def yX12_restore : MethodName := ⟨RX12, "restore", "()I"⟩
abbrev cX12_finds : ByteArray := prog_14_method_39_code
def yX12_finds : MethodName := ⟨RX12, "finds", "(IZ)V"⟩
abbrev cX12_marks : ByteArray := prog_14_method_40_code
def yX12_marks : MethodName := ⟨RX12, "marks", "()V"⟩
abbrev cX12_index : ByteArray := prog_14_method_41_code
def yX12_index : MethodName := ⟨RX12, "index", "(I)I"⟩
abbrev cX12_looked : ByteArray := prog_14_method_42_code
def yX12_looked : MethodName := ⟨RX12, "looked", "(II)I"⟩
abbrev cX12_way : ByteArray := prog_14_method_43_code
def yX12_way : MethodName := ⟨RX12, "way", "(II)I"⟩
abbrev cX12_span : ByteArray := prog_14_method_44_code
def yX12_span : MethodName := ⟨RX12, "span", "(II)I"⟩
abbrev cX12_guests : ByteArray := prog_14_method_45_code
def yX12_guests : MethodName := ⟨RX12, "guests", "(I)I"⟩
abbrev cX12_houses : ByteArray := prog_14_method_46_code
def yX12_houses : MethodName := ⟨RX12, "houses", "(I)I"⟩
abbrev cX12_longest : ByteArray := prog_14_method_47_code
def yX12_longest : MethodName := ⟨RX12, "longest", "(I)I"⟩
abbrev cX12_walker : ByteArray := prog_14_method_48_code
def yX12_walker : MethodName := ⟨RX12, "walker", "(II)I"⟩
abbrev cX12_inside : ByteArray := prog_14_method_49_code
def yX12_inside : MethodName := ⟨RX12, "inside", "(II)I"⟩
abbrev cX12_covering : ByteArray := prog_14_method_50_code
def yX12_covering : MethodName := ⟨RX12, "covering", "(I)I"⟩
abbrev cX12_chosen : ByteArray := prog_14_method_51_code
def yX12_chosen : MethodName := ⟨RX12, "chosen", "(IZ)I"⟩
abbrev cX12_ask : ByteArray := prog_14_method_52_code
def yX12_ask : MethodName := ⟨RX12, "ask", "(II)I"⟩
abbrev cX12_free : ByteArray := prog_14_method_53_code
def yX12_free : MethodName := ⟨RX12, "free", "(IZ)I"⟩
abbrev cX12_most : ByteArray := prog_14_method_54_code
def yX12_most : MethodName := ⟨RX12, "most", "(I)I"⟩
abbrev cX12_isOther : ByteArray := prog_14_method_55_code
def yX12_isOther : MethodName := ⟨RX12, "isOther", "(II)Z"⟩
abbrev cX12_changesIn : ByteArray := prog_14_method_56_code
def yX12_changesIn : MethodName := ⟨RX12, "changesIn", "(I)I"⟩
abbrev cX12_meetIn : ByteArray := prog_14_method_57_code
def yX12_meetIn : MethodName := ⟨RX12, "meetIn", "(II)I"⟩
abbrev cX12_event : ByteArray := prog_14_method_58_code
def yX12_event : MethodName := ⟨RX12, "event", "(II)I"⟩
abbrev cX12_pairs : ByteArray := prog_14_method_59_code
def yX12_pairs : MethodName := ⟨RX12, "pairs", "()I"⟩
abbrev cX12_visited : ByteArray := prog_14_method_60_code
def yX12_visited : MethodName := ⟨RX12, "visited", "()I"⟩
abbrev cX12_different : ByteArray := prog_14_method_61_code
def yX12_different : MethodName := ⟨RX12, "different", "(I)I"⟩
abbrev cX12_count : ByteArray := prog_14_method_62_code
def yX12_count : MethodName := ⟨RX12, "count", "(I)I"⟩
def RJ13 : String := "java/lang/Long"
def TJ13 : u_T := fun k => match k with
  | _ => ("", "", "", false)
def tyJ13 : Nat → FieldType := fun k => match k with
  | _ => .int
abbrev wsJ130 : List Cond := u_ws RJ13 TJ13 0
theorem nmJ13 : ∀ a, a < 0 → ∀ b, b < 0 → a ≠ b → (TJ13 a).2.1 ≠ (TJ13 b).2.1 := by decide +kernel
theorem tyJ13_ok : ∀ k, k < 0 → parseFieldDescriptor (TJ13 k).2.2.1 = some (tyJ13 k) := by decide +kernel
abbrev cJ13_bitCount_95d88 : ByteArray := prog_15_method_50_code
def yJ13_bitCount_95d88 : MethodName := ⟨RJ13, "bitCount", "(J)I"⟩
def RJ9 : String := "java/lang/Math"
def TJ9 : u_T := fun k => match k with
  | _ => ("", "", "", false)
def tyJ9 : Nat → FieldType := fun k => match k with
  | _ => .int
abbrev wsJ90 : List Cond := u_ws RJ9 TJ9 0
theorem nmJ9 : ∀ a, a < 0 → ∀ b, b < 0 → a ≠ b → (TJ9 a).2.1 ≠ (TJ9 b).2.1 := by decide +kernel
theorem tyJ9_ok : ∀ k, k < 0 → parseFieldDescriptor (TJ9 k).2.2.1 = some (tyJ9 k) := by decide +kernel
abbrev cJ9_floorMod_7cf53 : ByteArray := prog_16_method_50_code
def yJ9_floorMod_7cf53 : MethodName := ⟨RJ9, "floorMod", "(II)I"⟩
abbrev cJ9_abs_0f7a4 : ByteArray := prog_16_method_59_code
def yJ9_abs_0f7a4 : MethodName := ⟨RJ9, "abs", "(I)I"⟩
abbrev cJ9_max_7cf53 : ByteArray := prog_16_method_65_code
def yJ9_max_7cf53 : MethodName := ⟨RJ9, "max", "(II)I"⟩
abbrev cJ9_min_7cf53 : ByteArray := prog_16_method_69_code
def yJ9_min_7cf53 : MethodName := ⟨RJ9, "min", "(II)I"⟩
def RJ10 : String := "java/lang/System"
def TJ10 : u_T := fun k => match k with
  | _ => ("", "", "", false)
def tyJ10 : Nat → FieldType := fun k => match k with
  | _ => .int
abbrev wsJ100 : List Cond := u_ws RJ10 TJ10 0
theorem nmJ10 : ∀ a, a < 0 → ∀ b, b < 0 → a ≠ b → (TJ10 a).2.1 ≠ (TJ10 b).2.1 := by decide +kernel
theorem tyJ10_ok : ∀ k, k < 0 → parseFieldDescriptor (TJ10 k).2.2.1 = some (tyJ10 k) := by decide +kernel
def RJ7 : String := "java/util/Arrays"
def TJ7 : u_T := fun k => match k with
  | _ => ("", "", "", false)
def tyJ7 : Nat → FieldType := fun k => match k with
  | _ => .int
abbrev wsJ70 : List Cond := u_ws RJ7 TJ7 0
theorem nmJ7 : ∀ a, a < 0 → ∀ b, b < 0 → a ≠ b → (TJ7 a).2.1 ≠ (TJ7 b).2.1 := by decide +kernel
theorem tyJ7_ok : ∀ k, k < 0 → parseFieldDescriptor (TJ7 k).2.2.1 = some (tyJ7 k) := by decide +kernel
abbrev cJ7_fill_d0a16 : ByteArray := prog_18_method_101_code
def yJ7_fill_d0a16 : MethodName := ⟨RJ7, "fill", "([JJ)V"⟩
abbrev cJ7_fill_53178 : ByteArray := prog_18_method_103_code
def yJ7_fill_53178 : MethodName := ⟨RJ7, "fill", "([II)V"⟩
def RL : String := "MiddleSpansLaw"
abbrev cL_law : ByteArray := code
def yL_law : MethodName := ⟨RL, "law", "([I)Z"⟩
abbrev vwCl : List vw_C := [(RX0, TX0, 1), (RX1, TX1, 2), (RX2, TX2, 3), (RX3, TX3, 6), (RX4, TX4, 6), (RX5, TX5, 8), (RX6, TX6, 4), (RX7, TX7, 2), (RX8, TX8, 5), (RX9, TX9, 9), (RX10, TX10, 4), (RX11, TX11, 6), (RX12, TX12, 18)]
end
section
/-! ## THE MEMORY: kinds of the cells (class below 13; 13 char, 14 int, 15 long, 16 boolean, 17 State, 18 int[] rows: with the length), ints, longs, references (0 is null, r the cell at b + r) -/
abbrev xv_M : Type := List (Nat × Nat) × (Nat → Nat → Int) × (Nat → Nat → Int64) × (Nat → Nat → Nat)
def xv_kd (M : xv_M) (r : Nat) : Nat × Nat := if r = 0 then (99, 0) else M.1.getD (r - 1) (99, 0)
def xv_I (M : xv_M) (r j : Nat) : Int := M.2.1 r j
def xv_J (M : xv_M) (r j : Nat) : Int64 := M.2.2.1 r j
def xv_P (M : xv_M) (r j : Nat) : Nat := M.2.2.2 r j
def xv_up {α : Type} (f : Nat → Nat → α) (r j : Nat) (v : α) : Nat → Nat → α := fun r' j' => if r' = r ∧ j' = j then v else f r' j'
def xv_rw {α : Type} (f : Nat → Nat → α) (r : Nat) (g : Nat → α) : Nat → Nat → α := fun r' j' => if r' = r then g j' else f r' j'
def xv_sI (M : xv_M) (r j : Nat) (v : Int) : xv_M := (M.1, xv_up M.2.1 r j v, M.2.2.1, M.2.2.2)
def xv_sJ (M : xv_M) (r j : Nat) (v : Int64) : xv_M := (M.1, M.2.1, xv_up M.2.2.1 r j v, M.2.2.2)
def xv_sP (M : xv_M) (r j : Nat) (v : Nat) : xv_M := (M.1, M.2.1, M.2.2.1, xv_up M.2.2.2 r j v)
def xv_rI (M : xv_M) (r : Nat) (g : Nat → Int) : xv_M := (M.1, xv_rw M.2.1 r g, M.2.2.1, M.2.2.2)
def xv_rJ (M : xv_M) (r : Nat) (g : Nat → Int64) : xv_M := (M.1, M.2.1, xv_rw M.2.2.1 r g, M.2.2.2)
/-- a new cell of a kind, all of it 0 or null: its reference is the number of cells then -/
def xv_new (M : xv_M) (k : Nat × Nat) : xv_M := (M.1 ++ [k], xv_rw M.2.1 (M.1.length + 1) (fun _ => 0), xv_rw M.2.2.1 (M.1.length + 1) (fun _ => 0), xv_rw M.2.2.2 (M.1.length + 1) (fun _ => 0))
def xv_in (x : Int) : Prop := -2147483648 ≤ x ∧ x ≤ 2147483647
/-- what the slots of each class hold: 0 an int, 1 a long, 2 a reference -/
def xv_tt : List (List Nat) := [[2], [0, 2], [2, 2, 2], [0, 0, 2, 2, 2, 2], [0, 2, 2, 2, 2, 0], [0, 1, 2, 2, 2, 2, 2, 2], [0, 2, 2, 2], [0, 2], [2, 2, 2, 2, 2], [0, 2, 2, 2, 2, 2, 2, 2, 2], [0, 0, 0, 0], [2, 2, 2, 2, 2, 0], [2, 2, 0, 2, 0, 0, 2, 0, 0, 0, 0, 0, 0, 0, 0, 2, 2, 0]]
def xv_N (c : Nat) : Nat := (xv_tt.getD c []).length
def xv_ty (c j : Nat) : Nat := (xv_tt.getD c []).getD j 0
abbrev xv_i (x : Int) : Value := .int (Int32.ofInt x)
def xv_R (b r : Nat) : Option Nat := if r = 0 then none else some (b + r)
abbrev xv_r (b r : Nat) : Value := va_rf (xv_R b r)
theorem xv_r_0 (b : Nat) : xv_r b 0 = .null := rfl
theorem xv_r_s {b r : Nat} (h : r ≠ 0) : xv_r b r = .ref (b + r) := by simp [xv_r, xv_R, h, va_rf]
def xv_sv (b t : Nat) (x : Int) (y : Int64) (z : Nat) : Value := if t = 1 then .long y else if t = 2 then xv_r b z else xv_i x
def xv_fs (b c : Nat) (fi : Nat → Int) (fj : Nat → Int64) (fp : Nat → Nat) : List Value := (List.range (xv_N c)).map (fun j => xv_sv b (xv_ty c j) (fi j) (fj j) (fp j))
def xv_E (b : Nat) (cy : Nat → ClassId) (k : Nat × Nat) (fi : Nat → Int) (fj : Nat → Int64) (fp : Nat → Nat) : va_E :=
  if k.1 < 13 then .inr (k.1, xv_fs b k.1 fi fj fp) else if k.1 = 15 then .inl (cy 15, k.2, .inr (.inl fj)) else if 17 ≤ k.1 then .inl (cy k.1, k.2, .inr (.inr (.inr (.inr (fun j => xv_R b (fp j)))))) else .inl (cy k.1, k.2, .inl (fun j => Int32.ofInt (fi j)))
def xv_W (b : Nat) (cy : Nat → ClassId) (M : xv_M) : va_W := (List.range M.1.length).map (fun i => (b + (i + 1), xv_E b cy (M.1.getD i (99, 0)) (M.2.1 (i + 1)) (M.2.2.1 (i + 1)) (M.2.2.2 (i + 1))))
theorem xv_fs_get {b c j : Nat} {fi : Nat → Int} {fj : Nat → Int64} {fp : Nat → Nat} (h : j < xv_N c) : (xv_fs b c fi fj fp)[j]? = some (xv_sv b (xv_ty c j) (fi j) (fj j) (fp j)) := by
  unfold xv_fs
  rw [List.getElem?_map, List.getElem?_range h]
  rfl
theorem xv_fs_len {b c : Nat} {fi : Nat → Int} {fj : Nat → Int64} {fp : Nat → Nat} : (xv_fs b c fi fj fp).length = xv_N c := by
  unfold xv_fs
  rw [List.length_map, List.length_range]
theorem xv_fs_set {b c j : Nat} {fi fi' : Nat → Int} {fj fj' : Nat → Int64} {fp fp' : Nat → Nat} {v : Value} (h : j < xv_N c) (hv : v = xv_sv b (xv_ty c j) (fi' j) (fj' j) (fp' j)) (ho : ∀ i, i ≠ j → fi' i = fi i ∧ fj' i = fj i ∧ fp' i = fp i) : (xv_fs b c fi fj fp).set j v = xv_fs b c fi' fj' fp' := by
  apply List.ext_getElem?
  intro i
  by_cases hi : i < xv_N c
  · by_cases hij : i = j
    · subst hij
      rw [List.getElem?_set_self (by rw [xv_fs_len]; exact h), xv_fs_get h, hv]
    · rw [List.getElem?_set_ne (Ne.symm hij), xv_fs_get hi, xv_fs_get hi]
      obtain ⟨h1, h2, h3⟩ := ho i hij
      rw [h1, h2, h3]
  · rw [List.getElem?_eq_none (by rw [List.length_set, xv_fs_len]; omega), List.getElem?_eq_none (by rw [xv_fs_len]; omega)]
theorem xv_kd_lt {M : xv_M} {r : Nat} (h : (xv_kd M r).1 ≠ 99) : r ≠ 0 ∧ r - 1 < M.1.length := by
  unfold xv_kd at h
  by_cases h0 : r = 0
  · rw [if_pos h0] at h
    exact absurd rfl h
  · rw [if_neg h0] at h
    refine ⟨h0, ?_⟩
    by_cases hl : r - 1 < M.1.length
    · exact hl
    · exact absurd (by rw [List.getD_eq_getElem?_getD, List.getElem?_eq_none (by omega)]; rfl) h
theorem xv_W_get {b : Nat} {cy : Nat → ClassId} {M : xv_M} {r : Nat} (h : (xv_kd M r).1 ≠ 99) : (xv_W b cy M)[r - 1]? = some (b + r, xv_E b cy (xv_kd M r) (M.2.1 r) (M.2.2.1 r) (M.2.2.2 r)) := by
  obtain ⟨h0, hl⟩ := xv_kd_lt h
  unfold xv_W
  rw [List.getElem?_map, List.getElem?_range hl]
  have e : r - 1 + 1 = r := by omega
  show some (b + (r - 1 + 1), _) = _
  rw [e]
  unfold xv_kd
  rw [if_neg h0]
theorem xv_W_len {b : Nat} {cy : Nat → ClassId} {M : xv_M} : (xv_W b cy M).length = M.1.length := by
  unfold xv_W
  rw [List.length_map, List.length_range]
theorem xv_W_at {b : Nat} {cy : Nat → ClassId} {M : xv_M} {i : Nat} (h : i < M.1.length) : (xv_W b cy M)[i]? = some (b + (i + 1), xv_E b cy (M.1.getD i (99, 0)) (M.2.1 (i + 1)) (M.2.2.1 (i + 1)) (M.2.2.2 (i + 1))) := by
  unfold xv_W
  rw [List.getElem?_map, List.getElem?_range h]
  rfl
theorem xv_W_D {b : Nat} {cy : Nat → ClassId} {M : xv_M} : va_D (fun q => b < q) (xv_W b cy M) := by
  have key : ∀ (k : Nat) (q : Nat × va_E), (xv_W b cy M)[k]? = some q → q.1 = b + (k + 1) := by
    intro k q hk
    have hl : k < M.1.length := by
      have := (List.getElem?_eq_some_iff.mp hk).1
      rw [xv_W_len] at this
      exact this
    rw [xv_W_at hl] at hk
    cases hk
    rfl
  refine ⟨fun i j p q hi hj hpq => ?_, fun k q hk => ?_⟩
  · have h1 := key i p hi
    have h2 := key j q hj
    omega
  · have h1 := key k q hk
    show b < q.1
    omega
theorem xv_W_set {b : Nat} {cy : Nat → ClassId} {M M' : xv_M} {r : Nat} {e : va_E} (h : (xv_kd M r).1 ≠ 99) (hk : M'.1 = M.1) (he : e = xv_E b cy (xv_kd M r) (M'.2.1 r) (M'.2.2.1 r) (M'.2.2.2 r)) (ho : ∀ i, i ≠ r → M'.2.1 i = M.2.1 i ∧ M'.2.2.1 i = M.2.2.1 i ∧ M'.2.2.2 i = M.2.2.2 i) : (xv_W b cy M).set (r - 1) (b + r, e) = xv_W b cy M' := by
  obtain ⟨h0, hl⟩ := xv_kd_lt h
  have hkd : xv_kd M' r = xv_kd M r := by unfold xv_kd; rw [hk]
  apply List.ext_getElem?
  intro i
  by_cases hi : i < M.1.length
  · by_cases hir : i = r - 1
    · subst hir
      rw [List.getElem?_set_self (by rw [xv_W_len]; exact hl), xv_W_get (by rw [hkd]; exact h), hkd, he]
    · rw [List.getElem?_set_ne (Ne.symm hir), xv_W_at hi, xv_W_at (by rw [hk]; exact hi)]
      obtain ⟨h1, h2, h3⟩ := ho (i + 1) (by omega)
      rw [h1, h2, h3, hk]
  · rw [List.getElem?_eq_none (by rw [List.length_set, xv_W_len]; omega), List.getElem?_eq_none (by rw [xv_W_len, hk]; omega)]
theorem xv_W_new {b : Nat} {cy : Nat → ClassId} {M : xv_M} {k : Nat × Nat} : xv_W b cy (xv_new M k) = xv_W b cy M ++ [(b + 1 + M.1.length, xv_E b cy k (fun _ => 0) (fun _ => 0) (fun _ => 0))] := by
  apply List.ext_getElem?
  intro i
  have hlen : (xv_new M k).1.length = M.1.length + 1 := by simp [xv_new]
  by_cases hi : i < M.1.length
  · rw [List.getElem?_append_left (by rw [xv_W_len]; exact hi), xv_W_at hi, xv_W_at (by omega)]
    have e1 : ((xv_new M k).1).getD i (99, 0) = M.1.getD i (99, 0) := by
      simp [xv_new, List.getD_eq_getElem?_getD, List.getElem?_append_left hi]
    have e2 : i + 1 ≠ M.1.length + 1 := by omega
    rw [e1]
    have f1 : (xv_new M k).2.1 (i + 1) = M.2.1 (i + 1) := by funext j; simp [xv_new, xv_rw]; omega
    have f2 : (xv_new M k).2.2.1 (i + 1) = M.2.2.1 (i + 1) := by funext j; simp [xv_new, xv_rw]; omega
    have f3 : (xv_new M k).2.2.2 (i + 1) = M.2.2.2 (i + 1) := by funext j; simp [xv_new, xv_rw]; omega
    rw [f1, f2, f3]
  · by_cases hi2 : i = M.1.length
    · subst hi2
      rw [List.getElem?_append_right (by rw [xv_W_len]; exact Nat.le_refl _), xv_W_len, Nat.sub_self, xv_W_at (by omega)]
      have e1 : ((xv_new M k).1).getD M.1.length (99, 0) = k := by
        simp [xv_new, List.getD_eq_getElem?_getD]
      have f1 : (xv_new M k).2.1 (M.1.length + 1) = fun _ => 0 := by funext j; simp [xv_new, xv_rw]
      have f2 : (xv_new M k).2.2.1 (M.1.length + 1) = fun _ => 0 := by funext j; simp [xv_new, xv_rw]
      have f3 : (xv_new M k).2.2.2 (M.1.length + 1) = fun _ => 0 := by funext j; simp [xv_new, xv_rw]
      rw [e1, f1, f2, f3]
      have e2 : b + (M.1.length + 1) = b + 1 + M.1.length := by omega
      rw [e2]
      rfl
    · rw [List.getElem?_eq_none (by rw [xv_W_len]; omega), List.getElem?_eq_none (by rw [List.length_append, xv_W_len]; simp only [List.length_cons, List.length_nil]; omega)]
end
section
/-! ## values, locals, the judgement: a row an instruction, over the memory -/
abbrev xv_v : Type := Int ⊕ Int64 ⊕ Nat
abbrev xi (x : Int) : xv_v := .inl x
abbrev xl (y : Int64) : xv_v := .inr (.inl y)
abbrev xr (r : Nat) : xv_v := .inr (.inr r)
def xv_val (b : Nat) : xv_v → Value
  | .inl x => xv_i x
  | .inr (.inl y) => .long y
  | .inr (.inr r) => xv_r b r
def xv_c : xv_v → Nat
  | .inl _ => 1
  | .inr (.inl _) => 2
  | .inr (.inr _) => 1
theorem xv_cat (b : Nat) (v : xv_v) : (xv_val b v).category = xv_c v := by
  rcases v with x | y | r
  · rfl
  · rfl
  · show (va_rf (xv_R b r)).category = 1
    cases xv_R b r <;> rfl
theorem xv_cats (b : Nat) (st : List xv_v) : ((st.map (xv_val b)).map fun v => v.category).sum = (st.map xv_c).sum := by
  rw [List.map_map]
  congr 1
  exact List.map_congr_left (fun v _ => xv_cat b v)
def xv_L (b : Nat) (L : List (Option xv_v)) : List (Nat × Value) := (List.range L.length).filterMap (fun i => (L.getD i none).map (fun v => (i, xv_val b v)))
theorem xv_L_mem {b : Nat} {L : List (Option xv_v)} {q : Nat × Value} : q ∈ xv_L b L ↔ ∃ v, L[q.1]? = some (some v) ∧ q.2 = xv_val b v := by
  unfold xv_L
  rw [List.mem_filterMap]
  constructor
  · rintro ⟨i, hi, h⟩
    rw [List.mem_range] at hi
    rw [List.getD_eq_getElem?_getD, List.getElem?_eq_getElem hi] at h
    simp only [Option.getD_some] at h
    cases hv : L[i] with
    | none => rw [hv] at h; cases h
    | some v =>
      rw [hv] at h
      simp only [Option.map_some, Option.some.injEq] at h
      subst h
      exact ⟨v, by rw [List.getElem?_eq_getElem hi, hv], rfl⟩
  · rintro ⟨v, h, hq⟩
    have hi : q.1 < L.length := (List.getElem?_eq_some_iff.mp h).1
    refine ⟨q.1, List.mem_range.mpr hi, ?_⟩
    rw [List.getD_eq_getElem?_getD, h]
    simp only [Option.getD_some, Option.map_some, ← hq]
def xv_H (b : Nat) (ls : Array Slot) (nL : Nat) (L : List (Option xv_v)) : Prop := ls.size = nL ∧ lv_wf ls ∧ ∀ (i : Nat) (v : xv_v), L[i]? = some (some v) → ls[i]? = some (.val (xv_val b v))
theorem xv_H.has {b : Nat} {ls : Array Slot} {nL : Nat} {L : List (Option xv_v)} (h : xv_H b ls nL L) : lv_has ls nL (xv_L b L) := by
  refine ⟨h.1, h.2.1, fun q hq => ?_⟩
  obtain ⟨v, h1, h2⟩ := xv_L_mem.mp hq
  rw [h2]
  exact h.2.2 q.1 v h1
/-- no long ends in front of place i -/
def xv_ok1 (L : List (Option xv_v)) (i : Nat) : Bool := match i with
  | 0 => true
  | i + 1 => match L[i]? with
    | some (some v) => xv_c v == 1
    | _ => true
theorem xv_ok1_spec {L : List (Option xv_v)} {i j : Nat} {v : xv_v} (h : xv_ok1 L i = true) (hj : L[j]? = some (some v)) (hi : j + 1 = i) : xv_c v = 1 := by
  subst hi
  simp only [xv_ok1, hj] at h
  simpa using h
theorem xv_H.st1 {b : Nat} {ls' : Array Slot} {nL i : Nat} {L : List (Option xv_v)} {x : xv_v} (hc : xv_ok1 L i = true) (h : lv_has ls' nL ((i, xv_val b x) :: (xv_L b L).filter (fun q => !(q.1 == i) && !(q.1 + 1 == i && q.2.category == 2)))) : xv_H b ls' nL (L.set i (some x)) := by
  refine ⟨h.1, h.2.1, fun j v hj => ?_⟩
  by_cases hji : j = i
  · subst hji
    have hl : j < L.length := by
      have := (List.getElem?_eq_some_iff.mp hj).1
      rwa [List.length_set] at this
    rw [List.getElem?_set_self hl] at hj
    cases hj
    exact h.2.2 (j, xv_val b x) List.mem_cons_self
  · rw [List.getElem?_set_ne (Ne.symm hji)] at hj
    refine h.2.2 (j, xv_val b v) (List.mem_cons_of_mem _ (List.mem_filter.mpr ⟨xv_L_mem.mpr ⟨v, hj, rfl⟩, ?_⟩))
    have h2 : ¬ (j + 1 = i ∧ (xv_val b v).category = 2) := fun ⟨q1, q2⟩ => by
      rw [xv_cat, xv_ok1_spec hc hj q1] at q2
      cases q2
    simp only [Bool.and_eq_true, Bool.not_eq_true', beq_eq_false_iff_ne, Bool.and_eq_false_iff, ne_eq]
    refine ⟨hji, ?_⟩
    by_cases q1 : j + 1 = i
    · exact Or.inr (fun q2 => h2 ⟨q1, q2⟩)
    · exact Or.inl q1
theorem xv_H.st2 {b : Nat} {ls' : Array Slot} {nL i : Nat} {L : List (Option xv_v)} {x : xv_v} (hc : xv_ok1 L i = true) (h : lv_has ls' nL ((i, xv_val b x) :: (xv_L b L).filter (fun q => !(q.1 == i) && (!(q.1 == i + 1) && !(q.1 + 1 == i && q.2.category == 2))))) : xv_H b ls' nL ((L.set i (some x)).set (i + 1) none) := by
  refine ⟨h.1, h.2.1, fun j v hj => ?_⟩
  by_cases hj1 : j = i + 1
  · subst hj1
    by_cases hl : i + 1 < (L.set i (some x)).length
    · rw [List.getElem?_set_self hl] at hj
      cases hj
    · rw [List.getElem?_eq_none (by rw [List.length_set]; omega)] at hj
      cases hj
  · rw [List.getElem?_set_ne (Ne.symm hj1)] at hj
    by_cases hji : j = i
    · subst hji
      have hl : j < L.length := by
        have := (List.getElem?_eq_some_iff.mp hj).1
        rwa [List.length_set] at this
      rw [List.getElem?_set_self hl] at hj
      cases hj
      exact h.2.2 (j, xv_val b x) List.mem_cons_self
    · rw [List.getElem?_set_ne (Ne.symm hji)] at hj
      refine h.2.2 (j, xv_val b v) (List.mem_cons_of_mem _ (List.mem_filter.mpr ⟨xv_L_mem.mpr ⟨v, hj, rfl⟩, ?_⟩))
      have h2 : ¬ (j + 1 = i ∧ (xv_val b v).category = 2) := fun ⟨q1, q2⟩ => by
        rw [xv_cat, xv_ok1_spec hc hj q1] at q2
        cases q2
      simp only [Bool.and_eq_true, Bool.not_eq_true', beq_eq_false_iff_ne, Bool.and_eq_false_iff, ne_eq]
      refine ⟨hji, hj1, ?_⟩
      by_cases q1 : j + 1 = i
      · exact Or.inr (fun q2 => h2 ⟨q1, q2⟩)
      · exact Or.inl q1
/-- fewer locals known: where it says so, nothing -/
def xv_mask : List Bool → List (Option xv_v) → List (Option xv_v)
  | true :: bs, v :: L => v :: xv_mask bs L
  | false :: bs, _ :: L => none :: xv_mask bs L
  | _, _ => []
theorem xv_mask_get : ∀ (bs : List Bool) (L : List (Option xv_v)) (i : Nat) (v : xv_v), (xv_mask bs L)[i]? = some (some v) → L[i]? = some (some v)
  | [], L, i, v, h => by simp [xv_mask] at h
  | true :: bs, [], i, v, h => by simp [xv_mask] at h
  | false :: bs, [], i, v, h => by simp [xv_mask] at h
  | true :: bs, w :: L, 0, v, h => by simpa [xv_mask] using h
  | false :: bs, w :: L, 0, v, h => by simp [xv_mask] at h
  | true :: bs, w :: L, i + 1, v, h => by
    have := xv_mask_get bs L i v (by simpa [xv_mask] using h)
    simpa using this
  | false :: bs, w :: L, i + 1, v, h => by
    have := xv_mask_get bs L i v (by simpa [xv_mask] using h)
    simpa using this
theorem xv_H.mask {b : Nat} {ls : Array Slot} {nL : Nat} {L : List (Option xv_v)} (bs : List Bool) (h : xv_H b ls nL L) : xv_H b ls nL (xv_mask bs L) := ⟨h.1, h.2.1, fun i v hi => h.2.2 i v (xv_mask_get bs L i v hi)⟩
/-- the locals with which a method begins -/
def xv_L0 (vs : List xv_v) (n : Nat) : List (Option xv_v) := (vs.flatMap fun v => if xv_c v = 2 then [some v, none] else [some v]) ++ List.replicate n none
theorem xv_args_get (b : Nat) : ∀ (vs : List xv_v) (k i : Nat) (v : xv_v), (vs.flatMap fun v => if xv_c v = 2 then [some v, none] else [some v])[i]? = some (some v) → (k + i, xv_val b v) ∈ lv_args k (vs.map (xv_val b))
  | [], k, i, v, h => by simp at h
  | w :: vs, k, i, v, h => by
    rw [List.flatMap_cons] at h
    simp only [List.map_cons, lv_args, xv_cat]
    by_cases hc : xv_c w = 2
    · rw [if_pos hc] at h ⊢
      match i, h with
      | 0, h =>
        simp only [List.cons_append, List.getElem?_cons_zero, Option.some.injEq] at h
        subst h
        exact List.mem_cons_self
      | 1, h => simp at h
      | i + 2, h =>
        have := xv_args_get b vs (k + 2) i v (by simpa using h)
        refine List.mem_cons_of_mem _ ?_
        rw [show k + (i + 2) = k + 2 + i by omega]
        exact this
    · rw [if_neg hc] at h ⊢
      match i, h with
      | 0, h =>
        simp only [List.cons_append, List.getElem?_cons_zero, Option.some.injEq] at h
        subst h
        exact List.mem_cons_self
      | i + 1, h =>
        have := xv_args_get b vs (k + 1) i v (by simpa using h)
        refine List.mem_cons_of_mem _ ?_
        rw [show k + (i + 1) = k + 1 + i by omega]
        exact this
theorem xv_entry (b : Nat) (vs : List xv_v) {n k : Nat} (h : (lg_sl (vs.map (xv_val b))).length ≤ n) : xv_H b ((lg_sl (vs.map (xv_val b)) ++ List.replicate (n - (lg_sl (vs.map (xv_val b))).length) Slot.unset).toArray) n (xv_L0 vs k) := by
  obtain ⟨h1, h2, h3⟩ := lv_entry (vs.map (xv_val b)) h
  refine ⟨h1, h2, fun i v hi => ?_⟩
  unfold xv_L0 at hi
  by_cases hl : i < (vs.flatMap fun v => if xv_c v = 2 then [some v, none] else [some v]).length
  · rw [List.getElem?_append_left hl] at hi
    have := h3 _ (xv_args_get b vs 0 i v hi)
    rw [Nat.zero_add] at this
    exact this
  · rw [List.getElem?_append_right (by omega)] at hi
    have := List.eq_of_mem_replicate (List.mem_of_getElem? hi)
    cases this
theorem xv_sl_len (b : Nat) : ∀ vs : List xv_v, (lg_sl (vs.map (xv_val b))).length = (vs.map xv_c).sum
  | [] => rfl
  | v :: vs => by
    have ih := xv_sl_len b vs
    unfold lg_sl at ih ⊢
    rw [List.map_cons, List.flatMap_cons, List.length_append, ih, List.map_cons, List.sum_cons, xv_cat]
    rcases v with x | y | r <;> rfl
/-! ints -/
theorem xv_add (x y : Int) : Int32.ofInt x + Int32.ofInt y = Int32.ofInt (x + y) := by rw [Int32.ofInt_add]
theorem xv_sub (x y : Int) : Int32.ofInt x - Int32.ofInt y = Int32.ofInt (x - y) := by rw [Int32.ofInt_sub]
theorem xv_mul (x y : Int) : Int32.ofInt x * Int32.ofInt y = Int32.ofInt (x * y) := by rw [Int32.ofInt_mul]
theorem xv_neg (x : Int) : -(Int32.ofInt x) = Int32.ofInt (-x) := by rw [Int32.ofInt_neg]
theorem xv_toInt {x : Int} (h : xv_in x) : (Int32.ofInt x).toInt = x := Int32.toInt_ofInt_of_le h.1 (by have := h.2; omega)
theorem xv_lt {x y : Int} (hx : xv_in x) (hy : xv_in y) : Int32.ofInt x < Int32.ofInt y ↔ x < y := by rw [Int32.lt_iff_toInt_lt, xv_toInt hx, xv_toInt hy]
theorem xv_le {x y : Int} (hx : xv_in x) (hy : xv_in y) : Int32.ofInt x ≤ Int32.ofInt y ↔ x ≤ y := by rw [Int32.le_iff_toInt_le, xv_toInt hx, xv_toInt hy]
theorem xv_eq {x y : Int} (hx : xv_in x) (hy : xv_in y) : Int32.ofInt x = Int32.ofInt y ↔ x = y := by rw [← Int32.toInt_inj, xv_toInt hx, xv_toInt hy]
theorem xv_0 : (0 : Int32) = Int32.ofInt 0 := rfl
theorem xv_in0 : xv_in 0 := ⟨by decide, by decide⟩
theorem xv_ix {x : Int} {n : Nat} (h0 : 0 ≤ x) (h : x < n) (hn : n < 2 ^ 31) : vp_in (Int32.ofInt x) n ∧ (Int32.ofInt x).toNatClampNeg = x.toNat := by
  have hin : xv_in x := ⟨by omega, by omega⟩
  have ht := xv_toInt hin
  refine ⟨vp_in_iff.mpr (by rw [ht]; exact ⟨h0, h⟩), ?_⟩
  show (Int32.ofInt x).toInt.toNat = x.toNat
  rw [ht]
end
section
/-! ## the judgement -/
abbrev xv_Y : Type := (Program × Launch × Env × Room × State) × (MethodId × Array Value × List Frame × Method × Code) × va_G × (Nat → ClassId) × Nat × Nat × Bool
abbrev xv_tys (cy : Nat → ClassId) : List (ClassId × FieldType) := [(cy 13, .char), (cy 14, .int), (cy 15, .long), (cy 16, .boolean), (cy 17, .object "MiddleSpans$State"), (cy 18, .array .int)]
/-- the links between nest mates: which stand in the tables -/
def xv_nest : List (String × Nat × MethodName × String) := [("MiddleSpans", 11, ⟨"MiddleSpans$Line", "<init>", "()V"⟩, "MiddleSpans"), ("MiddleSpans$Line", 11, ⟨"MiddleSpans$State", "<init>", "()V"⟩, "MiddleSpans"), ("MiddleSpans$State", 9, ⟨"MiddleSpans$Spans", "<init>", "()V"⟩, "MiddleSpans"), ("MiddleSpans$State", 18, ⟨"MiddleSpans$Walkers", "<init>", "()V"⟩, "MiddleSpans"), ("MiddleSpans$State", 25, ⟨"MiddleSpans$Log", "<init>", "()V"⟩, "MiddleSpans"), ("MiddleSpans$Line", 20, ⟨"MiddleSpans$Cover", "<init>", "()V"⟩, "MiddleSpans"), ("MiddleSpans$Line", 27, ⟨"MiddleSpans$Tree", "<init>", "()V"⟩, "MiddleSpans"), ("MiddleSpans$Tree", 26, ⟨"MiddleSpans$Way", "<init>", "()V"⟩, "MiddleSpans"), ("MiddleSpans$History", 17, ⟨"MiddleSpans$State", "<init>", "()V"⟩, "MiddleSpans"), ("MiddleSpans", 25, ⟨"MiddleSpans$State", "<init>", "()V"⟩, "MiddleSpans"), ("MiddleSpans", 32, ⟨"MiddleSpans$Text", "<init>", "()V"⟩, "MiddleSpans"), ("MiddleSpans", 39, ⟨"MiddleSpans$Reader", "<init>", "()V"⟩, "MiddleSpans"), ("MiddleSpans$Spans", 42, ⟨"MiddleSpans", "isMember", "(JI)Z"⟩, "MiddleSpans"), ("MiddleSpans$Cover", 42, ⟨"MiddleSpans", "isPlace", "(I)Z"⟩, "MiddleSpans"), ("MiddleSpans$Line", 112, ⟨"MiddleSpans", "isMember", "(JI)Z"⟩, "MiddleSpans"), ("MiddleSpans$Walkers", 43, ⟨"MiddleSpans", "turnsNext", "(II)Z"⟩, "MiddleSpans"), ("MiddleSpans$Walkers", 47, ⟨"MiddleSpans", "nextPlace", "(II)I"⟩, "MiddleSpans"), ("MiddleSpans$Walkers", 51, ⟨"MiddleSpans", "nextSpeed", "(II)I"⟩, "MiddleSpans"), ("MiddleSpans$Walkers", 60, ⟨"MiddleSpans", "isMember", "(JI)Z"⟩, "MiddleSpans"), ("MiddleSpans$Line", 153, ⟨"MiddleSpans", "nextPlace", "(II)I"⟩, "MiddleSpans"), ("MiddleSpans$Line", 156, ⟨"MiddleSpans", "nextSpeed", "(II)I"⟩, "MiddleSpans")]
def xv_G (Dm : va_G) (cy : Nat → ClassId) (U : State) : Prop := va_K Dm vwCl (xv_tys cy) U ∧ (∀ q ∈ xv_nest, va_Nw (.methodLinkNest q.1 q.2.1 q.2.2.1 q.2.2.2) U) ∧ va_AO "MiddleSpans$State" U ∧ (Cond.arrayOver (.array .int)).before #[] U = true
def xv_V (Y : xv_Y) (ce sl : Nat) (Q : State → Prop) (pc : Nat) (L : List (Option xv_v)) (st : List xv_v) (M : xv_M) : Prop :=
  ∀ (H : Heap) (locs : List Loc) (ls : Array Slot), va_P Y.2.2.1 vwCl (xv_W Y.2.2.2.2.1 Y.2.2.2.1 M) H → (Y.2.2.2.2.2.2 = true → H.size = Y.2.2.2.2.1 + 1 + M.1.length) → va_S (fun q => Y.2.2.2.2.1 < q) Y.1.2.2.2.2.heap H locs → xv_H Y.2.2.2.2.1 ls Y.2.2.2.2.2.1 L →
    W Y.1.1 Y.1.2.1 Y.1.2.2.1 Y.1.2.2.2.1 Y.1.2.2.2.2 Y.2.1.1 Y.2.1.2.1 Y.2.1.2.2.1 Y.2.1.2.2.2.1 Y.2.1.2.2.2.2 H locs ce sl Q (F0 Y.2.1.1 pc ls (st.map (xv_val Y.2.2.2.2.1)))
def xv_ok (Y : xv_Y) (cc : ByteArray) (Ts : List Cond) (own : String) : Prop :=
  Y.1.1.tables.exec = Jvm.exec ∧ Y.2.1.2.2.2.2.code = cc ∧ Y.2.1.2.2.2.2.maxLocals = Y.2.2.2.2.2.1 ∧ Y.1.2.2.2.2.vm.findClass own = some Y.2.1.1.cls ∧ (∀ w ∈ Ts, w.before Y.2.1.2.1 Y.1.2.2.2.2 = true) ∧ xv_G Y.2.2.1 Y.2.2.2.1 Y.1.2.2.2.2 ∧ Y.2.2.2.2.1 < Y.1.2.2.2.2.heap.size ∧ Y.2.1.2.2.2.1.locks = false
def xv_D {T : Type} (Y : xv_Y) (ce sl : Nat) (Q : State → Prop) (tg : T) (pc : Nat) (L : List (Option xv_v)) (st : List xv_v) (M : xv_M) (d : Option T) : Prop := d = some tg → xv_V Y ce sl Q pc L st M
/-! what the answers are made of -/
def xv_let {α β : Type} (a : α) (f : α → β) : β := f a
def xv_g {T : Type} (c : Prop) [Decidable c] (d : Option T) : Option T := if c then d else none
def xv_if {T : Type} (c : Prop) [Decidable c] (d1 d2 : Option T) : Option T := if c then d1 else d2
def xv_call {α T : Type} (x : Option (α × xv_M)) (k : α → xv_M → Option T) : Option T := match x with
  | none => none
  | some q => k q.1 q.2
def xv_fix {σ T : Type} (F : (σ → Option T) → σ → Option T) : Nat → σ → Option T
  | 0 => fun _ => none
  | n + 1 => F (xv_fix F n)
def xv_inb (x : Int) : Bool := decide (-2147483648 ≤ x) && decide (x ≤ 2147483647)
theorem xv_inb_in {x : Int} (h : xv_inb x = true) : xv_in x := by
  unfold xv_inb at h
  simp only [Bool.and_eq_true, decide_eq_true_eq] at h
  exact h
theorem xv_g_some {T : Type} {c : Prop} [Decidable c] {d : Option T} {t : T} (h : xv_g c d = some t) : c ∧ d = some t := by
  unfold xv_g at h
  by_cases hc : c
  · rw [if_pos hc] at h; exact ⟨hc, h⟩
  · rw [if_neg hc] at h; cases h
/-- a comparison of two ints, in range -/
def xv_cmp {T : Type} (x y : Int) (c : Prop) [Decidable c] (d1 d2 : Option T) : Option T := xv_g (xv_inb x = true ∧ xv_inb y = true) (if c then d1 else d2)

section XV
variable {T : Type} {Y : xv_Y} {cc : ByteArray} {Ts : List Cond} {own : String} {ce sl : Nat} {Q : State → Prop} {tg : T} {pc pc' : Nat} {L L' : List (Option xv_v)} {st : List xv_v} {M : xv_M} {d d1 d2 : Option T}

theorem xv_iconst {n : Int} (hY : xv_ok Y cc Ts own) (hd : decode cc pc = .ok (.iconst n, 1)) (hp : pc + 1 = pc') (k : xv_D Y ce sl Q tg pc' L (xi n :: st) M d) : xv_D Y ce sl Q tg pc L (st) M d := by
  subst hp
  obtain ⟨⟨p, l, e, R, s⟩, ⟨m, args, below, meth, c⟩, Dm, cy, b, nL, fl⟩ := Y
  intro hh H locs ls hP hz hS hl
  exact lv_iconst hY.1 hY.2.1 hd rfl (k hh H locs ls hP hz hS hl)
theorem xv_bipush {n : Int} (hv : (Int8.ofInt n).toInt32 = Int32.ofInt n) (hY : xv_ok Y cc Ts own) (hd : decode cc pc = .ok (.bipush n, 2)) (hp : pc + 2 = pc') (k : xv_D Y ce sl Q tg pc' L (xi n :: st) M d) : xv_D Y ce sl Q tg pc L (st) M d := by
  subst hp
  obtain ⟨⟨p, l, e, R, s⟩, ⟨m, args, below, meth, c⟩, Dm, cy, b, nL, fl⟩ := Y
  intro hh H locs ls hP hz hS hl
  exact lv_bipush hY.1 hY.2.1 hd hv (k hh H locs ls hP hz hS hl)
theorem xv_sipush {n : Int} (hv : (Int16.ofInt n).toInt32 = Int32.ofInt n) (hY : xv_ok Y cc Ts own) (hd : decode cc pc = .ok (.sipush n, 3)) (hp : pc + 3 = pc') (k : xv_D Y ce sl Q tg pc' L (xi n :: st) M d) : xv_D Y ce sl Q tg pc L (st) M d := by
  subst hp
  obtain ⟨⟨p, l, e, R, s⟩, ⟨m, args, below, meth, c⟩, Dm, cy, b, nL, fl⟩ := Y
  intro hh H locs ls hP hz hS hl
  exact lv_sipush hY.1 hY.2.1 hd hv (k hh H locs ls hP hz hS hl)
theorem xv_lconst {n : Fin 2} {v : Int64} (hv : Int64.ofNat (n : Nat) = v) (hY : xv_ok Y cc Ts own) (hd : decode cc pc = .ok (.lconst n, 1)) (hp : pc + 1 = pc') (k : xv_D Y ce sl Q tg pc' L (xl v :: st) M d) : xv_D Y ce sl Q tg pc L (st) M d := by
  subst hp
  obtain ⟨⟨p, l, e, R, s⟩, ⟨m, args, below, meth, c⟩, Dm, cy, b, nL, fl⟩ := Y
  intro hh H locs ls hP hz hS hl
  exact lv_lconst hY.1 hY.2.1 hd hv (k hh H locs ls hP hz hS hl)
theorem xv_null (hY : xv_ok Y cc Ts own) (hd : decode cc pc = .ok (.aconst_null, 1)) (hp : pc + 1 = pc') (k : xv_D Y ce sl Q tg pc' L (xr 0 :: st) M d) : xv_D Y ce sl Q tg pc L (st) M d := by
  subst hp
  obtain ⟨⟨p, l, e, R, s⟩, ⟨m, args, below, meth, c⟩, Dm, cy, b, nL, fl⟩ := Y
  intro hh H locs ls hP hz hS hl
  exact lv_null hY.1 hY.2.1 hd (k hh H locs ls hP hz hS hl)
theorem xv_iload_n {kf : Fin 4} {i : Nat} {x : Int} (hi : (kf : Nat) = i) (hL : L[i]? = some (some (xi x))) (hY : xv_ok Y cc Ts own) (hd : decode cc pc = .ok (.iload_n kf, 1)) (hp : pc + 1 = pc') (k : xv_D Y ce sl Q tg pc' L (xi x :: st) M d) : xv_D Y ce sl Q tg pc L (st) M d := by
  subst hp
  obtain ⟨⟨p, l, e, R, s⟩, ⟨m, args, below, meth, c⟩, Dm, cy, b, nL, fl⟩ := Y
  intro hh H locs ls hP hz hS hl
  exact lv_iload_n hY.1 hY.2.1 hd hi (hl.2.2 _ _ hL) (k hh H locs ls hP hz hS hl)
theorem xv_iload {i : Nat} {x : Int} (hL : L[i]? = some (some (xi x))) (hY : xv_ok Y cc Ts own) (hd : decode cc pc = .ok (.iload i, 2)) (hp : pc + 2 = pc') (k : xv_D Y ce sl Q tg pc' L (xi x :: st) M d) : xv_D Y ce sl Q tg pc L (st) M d := by
  subst hp
  obtain ⟨⟨p, l, e, R, s⟩, ⟨m, args, below, meth, c⟩, Dm, cy, b, nL, fl⟩ := Y
  intro hh H locs ls hP hz hS hl
  exact lv_iload hY.1 hY.2.1 hd (hl.2.2 _ _ hL) (k hh H locs ls hP hz hS hl)
theorem xv_lload_n {kf : Fin 4} {i : Nat} {x : Int64} (hi : (kf : Nat) = i) (hL : L[i]? = some (some (xl x))) (hY : xv_ok Y cc Ts own) (hd : decode cc pc = .ok (.lload_n kf, 1)) (hp : pc + 1 = pc') (k : xv_D Y ce sl Q tg pc' L (xl x :: st) M d) : xv_D Y ce sl Q tg pc L (st) M d := by
  subst hp
  obtain ⟨⟨p, l, e, R, s⟩, ⟨m, args, below, meth, c⟩, Dm, cy, b, nL, fl⟩ := Y
  intro hh H locs ls hP hz hS hl
  exact lv_lload_n hY.1 hY.2.1 hd hi (hl.2.2 _ _ hL) (k hh H locs ls hP hz hS hl)
theorem xv_lload {i : Nat} {x : Int64} (hL : L[i]? = some (some (xl x))) (hY : xv_ok Y cc Ts own) (hd : decode cc pc = .ok (.lload i, 2)) (hp : pc + 2 = pc') (k : xv_D Y ce sl Q tg pc' L (xl x :: st) M d) : xv_D Y ce sl Q tg pc L (st) M d := by
  subst hp
  obtain ⟨⟨p, l, e, R, s⟩, ⟨m, args, below, meth, c⟩, Dm, cy, b, nL, fl⟩ := Y
  intro hh H locs ls hP hz hS hl
  exact lv_lload hY.1 hY.2.1 hd (hl.2.2 _ _ hL) (k hh H locs ls hP hz hS hl)
theorem xv_aload_n {kf : Fin 4} {i : Nat} {x : Nat} (hi : (kf : Nat) = i) (hL : L[i]? = some (some (xr x))) (hY : xv_ok Y cc Ts own) (hd : decode cc pc = .ok (.aload_n kf, 1)) (hp : pc + 1 = pc') (k : xv_D Y ce sl Q tg pc' L (xr x :: st) M d) : xv_D Y ce sl Q tg pc L (st) M d := by
  subst hp
  obtain ⟨⟨p, l, e, R, s⟩, ⟨m, args, below, meth, c⟩, Dm, cy, b, nL, fl⟩ := Y
  intro hh H locs ls hP hz hS hl
  have h1 := hl.2.2 _ _ hL
  have h2 := k hh H locs ls hP hz hS hl
  simp only [xv_val, List.map_cons] at h1 h2 ⊢
  by_cases h0 : x = 0
  · subst h0
    rw [xv_r_0] at h1 h2
    exact lv_aload_nN hY.1 hY.2.1 hd hi h1 h2
  · rw [xv_r_s h0] at h1 h2
    exact lv_aload_n hY.1 hY.2.1 hd hi h1 h2
theorem xv_aload {i : Nat} {x : Nat} (hL : L[i]? = some (some (xr x))) (hY : xv_ok Y cc Ts own) (hd : decode cc pc = .ok (.aload i, 2)) (hp : pc + 2 = pc') (k : xv_D Y ce sl Q tg pc' L (xr x :: st) M d) : xv_D Y ce sl Q tg pc L (st) M d := by
  subst hp
  obtain ⟨⟨p, l, e, R, s⟩, ⟨m, args, below, meth, c⟩, Dm, cy, b, nL, fl⟩ := Y
  intro hh H locs ls hP hz hS hl
  have h1 := hl.2.2 _ _ hL
  have h2 := k hh H locs ls hP hz hS hl
  simp only [xv_val, List.map_cons] at h1 h2 ⊢
  by_cases h0 : x = 0
  · subst h0
    rw [xv_r_0] at h1 h2
    exact lv_aloadN hY.1 hY.2.1 hd h1 h2
  · rw [xv_r_s h0] at h1 h2
    exact lv_aload hY.1 hY.2.1 hd h1 h2
theorem xv_istore_n {kf : Fin 4} {i : Nat} {x : Int} (hY : xv_ok Y cc Ts own) (hd : decode cc pc = .ok (.istore_n kf, 1)) (hp : pc + 1 = pc') (hi : (kf : Nat) = i) (hn : i < Y.2.2.2.2.2.1) (hc : xv_ok1 L i = true) (hL : (L.set i (some (xi x))) = L') (k : xv_D Y ce sl Q tg pc' L' st M d) : xv_D Y ce sl Q tg pc L (xi x :: st) M d := by
  subst hp
  subst hL
  obtain ⟨⟨p, l, e, R, s⟩, ⟨m, args, below, meth, c⟩, Dm, cy, b, nL, fl⟩ := Y
  intro hh H locs ls hP hz hS hl
  exact lv_istore_n hY.1 hY.2.1 hd hi hl.has hn rfl (fun ls' h' => k hh H locs ls' hP hz hS (xv_H.st1 (x := xi x) hc h'))
theorem xv_istore {i : Nat} {x : Int} (hY : xv_ok Y cc Ts own) (hd : decode cc pc = .ok (.istore i, 2)) (hp : pc + 2 = pc') (hn : i < Y.2.2.2.2.2.1) (hc : xv_ok1 L i = true) (hL : (L.set i (some (xi x))) = L') (k : xv_D Y ce sl Q tg pc' L' st M d) : xv_D Y ce sl Q tg pc L (xi x :: st) M d := by
  subst hp
  subst hL
  obtain ⟨⟨p, l, e, R, s⟩, ⟨m, args, below, meth, c⟩, Dm, cy, b, nL, fl⟩ := Y
  intro hh H locs ls hP hz hS hl
  exact lv_istore hY.1 hY.2.1 hd hl.has hn rfl (fun ls' h' => k hh H locs ls' hP hz hS (xv_H.st1 (x := xi x) hc h'))
theorem xv_lstore_n {kf : Fin 4} {i : Nat} {x : Int64} (hY : xv_ok Y cc Ts own) (hd : decode cc pc = .ok (.lstore_n kf, 1)) (hp : pc + 1 = pc') (hi : (kf : Nat) = i) (hn : i + 1 < Y.2.2.2.2.2.1) (hc : xv_ok1 L i = true) (hL : ((L.set i (some (xl x))).set (i + 1) none) = L') (k : xv_D Y ce sl Q tg pc' L' st M d) : xv_D Y ce sl Q tg pc L (xl x :: st) M d := by
  subst hp
  subst hL
  obtain ⟨⟨p, l, e, R, s⟩, ⟨m, args, below, meth, c⟩, Dm, cy, b, nL, fl⟩ := Y
  intro hh H locs ls hP hz hS hl
  exact lv_lstore_n hY.1 hY.2.1 hd hi hl.has hn rfl (fun ls' h' => k hh H locs ls' hP hz hS (xv_H.st2 (x := xl x) hc h'))
theorem xv_lstore {i : Nat} {x : Int64} (hY : xv_ok Y cc Ts own) (hd : decode cc pc = .ok (.lstore i, 2)) (hp : pc + 2 = pc') (hn : i + 1 < Y.2.2.2.2.2.1) (hc : xv_ok1 L i = true) (hL : ((L.set i (some (xl x))).set (i + 1) none) = L') (k : xv_D Y ce sl Q tg pc' L' st M d) : xv_D Y ce sl Q tg pc L (xl x :: st) M d := by
  subst hp
  subst hL
  obtain ⟨⟨p, l, e, R, s⟩, ⟨m, args, below, meth, c⟩, Dm, cy, b, nL, fl⟩ := Y
  intro hh H locs ls hP hz hS hl
  exact lv_lstore hY.1 hY.2.1 hd hl.has hn rfl (fun ls' h' => k hh H locs ls' hP hz hS (xv_H.st2 (x := xl x) hc h'))
theorem xv_astore_n {kf : Fin 4} {i : Nat} {x : Nat} (hY : xv_ok Y cc Ts own) (hd : decode cc pc = .ok (.astore_n kf, 1)) (hp : pc + 1 = pc') (hi : (kf : Nat) = i) (hn : i < Y.2.2.2.2.2.1) (hc : xv_ok1 L i = true) (hL : (L.set i (some (xr x))) = L') (k : xv_D Y ce sl Q tg pc' L' st M d) : xv_D Y ce sl Q tg pc L (xr x :: st) M d := by
  subst hp
  subst hL
  obtain ⟨⟨p, l, e, R, s⟩, ⟨m, args, below, meth, c⟩, Dm, cy, b, nL, fl⟩ := Y
  intro hh H locs ls hP hz hS hl
  simp only [List.map_cons, xv_val] at k ⊢
  by_cases h0 : x = 0
  · subst h0
    rw [xv_r_0]
    exact lv_astore_nN hY.1 hY.2.1 hd hi hl.has hn rfl (fun ls' h' => k hh H locs ls' hP hz hS (xv_H.st1 (x := xr 0) hc h'))
  · rw [xv_r_s h0]
    exact lv_astore_n hY.1 hY.2.1 hd hi hl.has hn rfl (fun ls' h' => k hh H locs ls' hP hz hS (xv_H.st1 (x := xr x) hc (by show lv_has ls' nL ((i, xv_r b x) :: _); rw [xv_r_s h0]; exact h')))
theorem xv_astore {i : Nat} {x : Nat} (hY : xv_ok Y cc Ts own) (hd : decode cc pc = .ok (.astore i, 2)) (hp : pc + 2 = pc') (hn : i < Y.2.2.2.2.2.1) (hc : xv_ok1 L i = true) (hL : (L.set i (some (xr x))) = L') (k : xv_D Y ce sl Q tg pc' L' st M d) : xv_D Y ce sl Q tg pc L (xr x :: st) M d := by
  subst hp
  subst hL
  obtain ⟨⟨p, l, e, R, s⟩, ⟨m, args, below, meth, c⟩, Dm, cy, b, nL, fl⟩ := Y
  intro hh H locs ls hP hz hS hl
  simp only [List.map_cons, xv_val] at k ⊢
  by_cases h0 : x = 0
  · subst h0
    rw [xv_r_0]
    exact lv_astoreN hY.1 hY.2.1 hd hl.has hn rfl (fun ls' h' => k hh H locs ls' hP hz hS (xv_H.st1 (x := xr 0) hc h'))
  · rw [xv_r_s h0]
    exact lv_astore hY.1 hY.2.1 hd hl.has hn rfl (fun ls' h' => k hh H locs ls' hP hz hS (xv_H.st1 (x := xr x) hc (by show lv_has ls' nL ((i, xv_r b x) :: _); rw [xv_r_s h0]; exact h')))
theorem xv_iinc {i : Nat} {n x : Int} (hY : xv_ok Y cc Ts own) (hd : decode cc pc = .ok (.iinc i n, 3)) (hp : pc + 3 = pc') (hn : i < Y.2.2.2.2.2.1) (hx : L[i]? = some (some (xi x))) (hc : xv_ok1 L i = true) (hL : L.set i (some (xi (x + n))) = L') (k : xv_D Y ce sl Q tg pc' L' st M d) : xv_D Y ce sl Q tg pc L st M d := by
  subst hp
  subst hL
  obtain ⟨⟨p, l, e, R, s⟩, ⟨m, args, below, meth, c⟩, Dm, cy, b, nL, fl⟩ := Y
  intro hh H locs ls hP hz hS hl
  obtain ⟨j, hj⟩ := List.getElem?_of_mem (xv_L_mem (b := b) (q := (i, xv_i x)).mpr ⟨_, hx, rfl⟩)
  exact lv_iinc (v := Int32.ofInt (x + n)) hY.1 hY.2.1 hd hl.has hj (xv_add x n) hn rfl (fun ls' h' => k hh H locs ls' hP hz hS (xv_H.st1 (x := xi (x + n)) hc h'))
theorem xv_iadd {x y : Int} (hY : xv_ok Y cc Ts own) (hd : decode cc pc = .ok (.iadd, 1)) (hp : pc + 1 = pc') (k : xv_D Y ce sl Q tg pc' L (xi (x + y) :: st) M d) : xv_D Y ce sl Q tg pc L (xi y :: xi x :: st) M d := by
  subst hp
  obtain ⟨⟨p, l, e, R, s⟩, ⟨m, args, below, meth, c⟩, Dm, cy, b, nL, fl⟩ := Y
  intro hh H locs ls hP hz hS hl
  have h := k hh H locs ls hP hz hS hl
  simp only [List.map_cons, xv_val, xv_i] at h ⊢
  rw [← xv_add] at h
  exact lv_iadd hY.1 hY.2.1 hd h
theorem xv_isub {x y : Int} (hY : xv_ok Y cc Ts own) (hd : decode cc pc = .ok (.isub, 1)) (hp : pc + 1 = pc') (k : xv_D Y ce sl Q tg pc' L (xi (x - y) :: st) M d) : xv_D Y ce sl Q tg pc L (xi y :: xi x :: st) M d := by
  subst hp
  obtain ⟨⟨p, l, e, R, s⟩, ⟨m, args, below, meth, c⟩, Dm, cy, b, nL, fl⟩ := Y
  intro hh H locs ls hP hz hS hl
  have h := k hh H locs ls hP hz hS hl
  simp only [List.map_cons, xv_val, xv_i] at h ⊢
  rw [← xv_sub] at h
  exact lv_isub hY.1 hY.2.1 hd h
theorem xv_imul {x y : Int} (hY : xv_ok Y cc Ts own) (hd : decode cc pc = .ok (.imul, 1)) (hp : pc + 1 = pc') (k : xv_D Y ce sl Q tg pc' L (xi (x * y) :: st) M d) : xv_D Y ce sl Q tg pc L (xi y :: xi x :: st) M d := by
  subst hp
  obtain ⟨⟨p, l, e, R, s⟩, ⟨m, args, below, meth, c⟩, Dm, cy, b, nL, fl⟩ := Y
  intro hh H locs ls hP hz hS hl
  have h := k hh H locs ls hP hz hS hl
  simp only [List.map_cons, xv_val, xv_i] at h ⊢
  rw [← xv_mul] at h
  exact lv_imul hY.1 hY.2.1 hd h
theorem xv_ineg {x : Int} (hY : xv_ok Y cc Ts own) (hd : decode cc pc = .ok (.ineg, 1)) (hp : pc + 1 = pc') (k : xv_D Y ce sl Q tg pc' L (xi (-x) :: st) M d) : xv_D Y ce sl Q tg pc L (xi x :: st) M d := by
  subst hp
  obtain ⟨⟨p, l, e, R, s⟩, ⟨m, args, below, meth, c⟩, Dm, cy, b, nL, fl⟩ := Y
  intro hh H locs ls hP hz hS hl
  have h := k hh H locs ls hP hz hS hl
  simp only [List.map_cons, xv_val, xv_i] at h ⊢
  rw [← xv_neg] at h
  exact lv_ineg hY.1 hY.2.1 hd h
theorem xv_iand {x y : Int} (hY : xv_ok Y cc Ts own) (hd : decode cc pc = .ok (.iand, 1)) (hp : pc + 1 = pc') (k : xv_D Y ce sl Q tg pc' L (xi (((Int32.ofInt x) &&& (Int32.ofInt y)).toInt) :: st) M d) : xv_D Y ce sl Q tg pc L (xi y :: xi x :: st) M d := by
  subst hp
  obtain ⟨⟨p, l, e, R, s⟩, ⟨m, args, below, meth, c⟩, Dm, cy, b, nL, fl⟩ := Y
  intro hh H locs ls hP hz hS hl
  have h := k hh H locs ls hP hz hS hl
  simp only [List.map_cons, xv_val, xv_i, Int32.ofInt_toInt] at h ⊢
  exact lv_iand hY.1 hY.2.1 hd h
theorem xv_ior {x y : Int} (hY : xv_ok Y cc Ts own) (hd : decode cc pc = .ok (.ior, 1)) (hp : pc + 1 = pc') (k : xv_D Y ce sl Q tg pc' L (xi (((Int32.ofInt x) ||| (Int32.ofInt y)).toInt) :: st) M d) : xv_D Y ce sl Q tg pc L (xi y :: xi x :: st) M d := by
  subst hp
  obtain ⟨⟨p, l, e, R, s⟩, ⟨m, args, below, meth, c⟩, Dm, cy, b, nL, fl⟩ := Y
  intro hh H locs ls hP hz hS hl
  have h := k hh H locs ls hP hz hS hl
  simp only [List.map_cons, xv_val, xv_i, Int32.ofInt_toInt] at h ⊢
  exact lv_ior hY.1 hY.2.1 hd h
theorem xv_idiv {x y : Int} (hY : xv_ok Y cc Ts own) (hd : decode cc pc = .ok (.idiv, 1)) (hp : pc + 1 = pc') (k : xv_D Y ce sl Q tg pc' L (xi ((Int32.ofInt x / Int32.ofInt y).toInt) :: st) M d) : xv_D Y ce sl Q tg pc L (xi y :: xi x :: st) M (xv_g (xv_inb y = true ∧ y ≠ 0) d) := by
  subst hp
  obtain ⟨⟨p, l, e, R, s⟩, ⟨m, args, below, meth, c⟩, Dm, cy, b, nL, fl⟩ := Y
  intro hh H locs ls hP hz hS hl
  obtain ⟨⟨h1, h2⟩, hh⟩ := xv_g_some hh
  have h := k hh H locs ls hP hz hS hl
  simp only [List.map_cons, xv_val, xv_i, Int32.ofInt_toInt] at h ⊢
  exact lv_idiv hY.1 hY.2.1 hd (fun q => h2 ((xv_eq (xv_inb_in h1) xv_in0).mp q)) h
theorem xv_irem {x y : Int} (hY : xv_ok Y cc Ts own) (hd : decode cc pc = .ok (.irem, 1)) (hp : pc + 1 = pc') (k : xv_D Y ce sl Q tg pc' L (xi ((Int32.ofInt x - Int32.ofInt x / Int32.ofInt y * Int32.ofInt y).toInt) :: st) M d) : xv_D Y ce sl Q tg pc L (xi y :: xi x :: st) M (xv_g (xv_inb y = true ∧ y ≠ 0) d) := by
  subst hp
  obtain ⟨⟨p, l, e, R, s⟩, ⟨m, args, below, meth, c⟩, Dm, cy, b, nL, fl⟩ := Y
  intro hh H locs ls hP hz hS hl
  obtain ⟨⟨h1, h2⟩, hh⟩ := xv_g_some hh
  have h := k hh H locs ls hP hz hS hl
  simp only [List.map_cons, xv_val, xv_i, Int32.ofInt_toInt] at h ⊢
  exact lv_irem hY.1 hY.2.1 hd (fun q => h2 ((xv_eq (xv_inb_in h1) xv_in0).mp q)) h
theorem xv_i2c {x : Int} (hY : xv_ok Y cc Ts own) (hd : decode cc pc = .ok (.i2c, 1)) (hp : pc + 1 = pc') (k : xv_D Y ce sl Q tg pc' L (xi (((Int32.ofInt x).toUInt32 % 65536).toInt32.toInt) :: st) M d) : xv_D Y ce sl Q tg pc L (xi x :: st) M d := by
  subst hp
  obtain ⟨⟨p, l, e, R, s⟩, ⟨m, args, below, meth, c⟩, Dm, cy, b, nL, fl⟩ := Y
  intro hh H locs ls hP hz hS hl
  have h := k hh H locs ls hP hz hS hl
  simp only [List.map_cons, xv_val, xv_i, Int32.ofInt_toInt] at h ⊢
  exact lv_i2c hY.1 hY.2.1 hd rfl h
theorem xv_ladd {x y : Int64} (hY : xv_ok Y cc Ts own) (hd : decode cc pc = .ok (.ladd, 1)) (hp : pc + 1 = pc') (k : xv_D Y ce sl Q tg pc' L (xl (x + y) :: st) M d) : xv_D Y ce sl Q tg pc L (xl y :: xl x :: st) M d := by
  subst hp
  obtain ⟨⟨p, l, e, R, s⟩, ⟨m, args, below, meth, c⟩, Dm, cy, b, nL, fl⟩ := Y
  intro hh H locs ls hP hz hS hl
  exact lv_ladd hY.1 hY.2.1 hd (k hh H locs ls hP hz hS hl)
theorem xv_lsub {x y : Int64} (hY : xv_ok Y cc Ts own) (hd : decode cc pc = .ok (.lsub, 1)) (hp : pc + 1 = pc') (k : xv_D Y ce sl Q tg pc' L (xl (x - y) :: st) M d) : xv_D Y ce sl Q tg pc L (xl y :: xl x :: st) M d := by
  subst hp
  obtain ⟨⟨p, l, e, R, s⟩, ⟨m, args, below, meth, c⟩, Dm, cy, b, nL, fl⟩ := Y
  intro hh H locs ls hP hz hS hl
  exact lv_lsub hY.1 hY.2.1 hd (k hh H locs ls hP hz hS hl)
theorem xv_land {x y : Int64} (hY : xv_ok Y cc Ts own) (hd : decode cc pc = .ok (.land, 1)) (hp : pc + 1 = pc') (k : xv_D Y ce sl Q tg pc' L (xl (x &&& y) :: st) M d) : xv_D Y ce sl Q tg pc L (xl y :: xl x :: st) M d := by
  subst hp
  obtain ⟨⟨p, l, e, R, s⟩, ⟨m, args, below, meth, c⟩, Dm, cy, b, nL, fl⟩ := Y
  intro hh H locs ls hP hz hS hl
  exact lv_land hY.1 hY.2.1 hd (k hh H locs ls hP hz hS hl)
theorem xv_lor {x y : Int64} (hY : xv_ok Y cc Ts own) (hd : decode cc pc = .ok (.lor, 1)) (hp : pc + 1 = pc') (k : xv_D Y ce sl Q tg pc' L (xl (x ||| y) :: st) M d) : xv_D Y ce sl Q tg pc L (xl y :: xl x :: st) M d := by
  subst hp
  obtain ⟨⟨p, l, e, R, s⟩, ⟨m, args, below, meth, c⟩, Dm, cy, b, nL, fl⟩ := Y
  intro hh H locs ls hP hz hS hl
  exact lv_lor hY.1 hY.2.1 hd (k hh H locs ls hP hz hS hl)
theorem xv_lxor {x y : Int64} (hY : xv_ok Y cc Ts own) (hd : decode cc pc = .ok (.lxor, 1)) (hp : pc + 1 = pc') (k : xv_D Y ce sl Q tg pc' L (xl (x ^^^ y) :: st) M d) : xv_D Y ce sl Q tg pc L (xl y :: xl x :: st) M d := by
  subst hp
  obtain ⟨⟨p, l, e, R, s⟩, ⟨m, args, below, meth, c⟩, Dm, cy, b, nL, fl⟩ := Y
  intro hh H locs ls hP hz hS hl
  exact lv_lxor hY.1 hY.2.1 hd (k hh H locs ls hP hz hS hl)
theorem xv_lshl {y : Int} {x : Int64} (hY : xv_ok Y cc Ts own) (hd : decode cc pc = .ok (.lshl, 1)) (hp : pc + 1 = pc') (k : xv_D Y ce sl Q tg pc' L (xl (x <<< ((Int32.ofInt y).toInt64 &&& 63)) :: st) M d) : xv_D Y ce sl Q tg pc L (xi y :: xl x :: st) M d := by
  subst hp
  obtain ⟨⟨p, l, e, R, s⟩, ⟨m, args, below, meth, c⟩, Dm, cy, b, nL, fl⟩ := Y
  intro hh H locs ls hP hz hS hl
  exact lv_lshl hY.1 hY.2.1 hd rfl (k hh H locs ls hP hz hS hl)
theorem xv_lushr {y : Int} {x : Int64} (hY : xv_ok Y cc Ts own) (hd : decode cc pc = .ok (.lushr, 1)) (hp : pc + 1 = pc') (k : xv_D Y ce sl Q tg pc' L (xl ((x.toUInt64 >>> ((Int32.ofInt y).toInt64.toUInt64 &&& Int64.toUInt64 63)).toInt64) :: st) M d) : xv_D Y ce sl Q tg pc L (xi y :: xl x :: st) M d := by
  subst hp
  obtain ⟨⟨p, l, e, R, s⟩, ⟨m, args, below, meth, c⟩, Dm, cy, b, nL, fl⟩ := Y
  intro hh H locs ls hP hz hS hl
  exact lv_lushr hY.1 hY.2.1 hd rfl (k hh H locs ls hP hz hS hl)
theorem xv_lcmp {x y : Int64} (hY : xv_ok Y cc Ts own) (hd : decode cc pc = .ok (.lcmp, 1)) (hp : pc + 1 = pc') (k : xv_D Y ce sl Q tg pc' L (xi ((lg_cmp x y).toInt) :: st) M d) : xv_D Y ce sl Q tg pc L (xl y :: xl x :: st) M d := by
  subst hp
  obtain ⟨⟨p, l, e, R, s⟩, ⟨m, args, below, meth, c⟩, Dm, cy, b, nL, fl⟩ := Y
  intro hh H locs ls hP hz hS hl
  have h := k hh H locs ls hP hz hS hl
  simp only [List.map_cons, xv_val, xv_i, Int32.ofInt_toInt] at h ⊢
  exact W.lcmp hY.1 hY.2.1 hd h
theorem xv_l2i {x : Int64} (hY : xv_ok Y cc Ts own) (hd : decode cc pc = .ok (.l2i, 1)) (hp : pc + 1 = pc') (k : xv_D Y ce sl Q tg pc' L (xi (x.toInt32.toInt) :: st) M d) : xv_D Y ce sl Q tg pc L (xl x :: st) M d := by
  subst hp
  obtain ⟨⟨p, l, e, R, s⟩, ⟨m, args, below, meth, c⟩, Dm, cy, b, nL, fl⟩ := Y
  intro hh H locs ls hP hz hS hl
  have h := k hh H locs ls hP hz hS hl
  simp only [List.map_cons, xv_val, xv_i, Int32.ofInt_toInt] at h ⊢
  exact lv_l2i hY.1 hY.2.1 hd rfl h
theorem xv_dup {x : Int} (hY : xv_ok Y cc Ts own) (hd : decode cc pc = .ok (.dup, 1)) (hp : pc + 1 = pc') (k : xv_D Y ce sl Q tg pc' L (xi x :: xi x :: st) M d) : xv_D Y ce sl Q tg pc L (xi x :: st) M d := by
  subst hp
  obtain ⟨⟨p, l, e, R, s⟩, ⟨m, args, below, meth, c⟩, Dm, cy, b, nL, fl⟩ := Y
  intro hh H locs ls hP hz hS hl
  exact lv_dup hY.1 hY.2.1 hd (xv_cat b (xi x)) (k hh H locs ls hP hz hS hl)
theorem xv_dupr {x : Nat} (hY : xv_ok Y cc Ts own) (hd : decode cc pc = .ok (.dup, 1)) (hp : pc + 1 = pc') (k : xv_D Y ce sl Q tg pc' L (xr x :: xr x :: st) M d) : xv_D Y ce sl Q tg pc L (xr x :: st) M d := by
  subst hp
  obtain ⟨⟨p, l, e, R, s⟩, ⟨m, args, below, meth, c⟩, Dm, cy, b, nL, fl⟩ := Y
  intro hh H locs ls hP hz hS hl
  exact lv_dup hY.1 hY.2.1 hd (xv_cat b (xr x)) (k hh H locs ls hP hz hS hl)
theorem xv_dup2 {y : Int} {x : Nat} (hY : xv_ok Y cc Ts own) (hd : decode cc pc = .ok (.dup2, 1)) (hp : pc + 1 = pc') (k : xv_D Y ce sl Q tg pc' L (xi y :: xr x :: xi y :: xr x :: st) M d) : xv_D Y ce sl Q tg pc L (xi y :: xr x :: st) M d := by
  subst hp
  obtain ⟨⟨p, l, e, R, s⟩, ⟨m, args, below, meth, c⟩, Dm, cy, b, nL, fl⟩ := Y
  intro hh H locs ls hP hz hS hl
  exact lv_dup2_11 hY.1 hY.2.1 hd (xv_cat b (xi y)) (xv_cat b (xr x)) (k hh H locs ls hP hz hS hl)
theorem xv_pop {x : Int} (hY : xv_ok Y cc Ts own) (hd : decode cc pc = .ok (.pop, 1)) (hp : pc + 1 = pc') (k : xv_D Y ce sl Q tg pc' L (st) M d) : xv_D Y ce sl Q tg pc L (xi x :: st) M d := by
  subst hp
  obtain ⟨⟨p, l, e, R, s⟩, ⟨m, args, below, meth, c⟩, Dm, cy, b, nL, fl⟩ := Y
  intro hh H locs ls hP hz hS hl
  exact lv_pop hY.1 hY.2.1 hd (xv_cat b (xi x)) (k hh H locs ls hP hz hS hl)
theorem xv_goto {off : Int} (hY : xv_ok Y cc Ts own) (hd : decode cc pc = .ok (.goto off, 3)) (ht : (pc : Int) + off = (pc' : Int)) (k : xv_D Y ce sl Q tg pc' L st M d) : xv_D Y ce sl Q tg pc L st M d := by
  obtain ⟨⟨p, l, e, R, s⟩, ⟨m, args, below, meth, c⟩, Dm, cy, b, nL, fl⟩ := Y
  intro hh H locs ls hP hz hS hl
  exact lv_goto hY.1 hY.2.1 hd ht (k hh H locs ls hP hz hS hl)
theorem xv_icmp_eq {x y : Int} {off : Int} {t : Nat} (hY : xv_ok Y cc Ts own) (hd : decode cc pc = .ok (.if_icmp .eq off, 3)) (ht : (pc : Int) + off = (t : Int)) (hp : pc + 3 = pc') (k1 : xv_D Y ce sl Q tg t L st M d1) (k2 : xv_D Y ce sl Q tg pc' L st M d2) : xv_D Y ce sl Q tg pc L (xi y :: xi x :: st) M (xv_cmp x y (x = y) d1 d2) := by
  subst hp
  obtain ⟨⟨p, l, e, R, s⟩, ⟨m, args, below, meth, c⟩, Dm, cy, b, nL, fl⟩ := Y
  intro hh H locs ls hP hz hS hl
  obtain ⟨⟨h1, h2⟩, hh⟩ := xv_g_some hh
  have hx := xv_inb_in h1
  have hy := xv_inb_in h2
  have hiff := xv_eq hx hy
  refine lv_icmp_eq hY.1 hY.2.1 hd ht (fun q => ?_) (fun q => ?_)
  · rw [if_pos (by first | exact hiff.mp q | exact fun z => q (hiff.mpr z))] at hh
    exact k1 hh H locs ls hP hz hS hl
  · rw [if_neg (by first | exact fun z => q (hiff.mpr z) | exact fun z => z (hiff.mp q))] at hh
    exact k2 hh H locs ls hP hz hS hl
theorem xv_if_eq {x : Int} {off : Int} {t : Nat} (hY : xv_ok Y cc Ts own) (hd : decode cc pc = .ok (.ifCond .eq off, 3)) (ht : (pc : Int) + off = (t : Int)) (hp : pc + 3 = pc') (k1 : xv_D Y ce sl Q tg t L st M d1) (k2 : xv_D Y ce sl Q tg pc' L st M d2) : xv_D Y ce sl Q tg pc L (xi x :: st) M (xv_cmp x 0 (x = 0) d1 d2) := by
  subst hp
  obtain ⟨⟨p, l, e, R, s⟩, ⟨m, args, below, meth, c⟩, Dm, cy, b, nL, fl⟩ := Y
  intro hh H locs ls hP hz hS hl
  obtain ⟨⟨h1, h2⟩, hh⟩ := xv_g_some hh
  have hx := xv_inb_in h1
  have hy := xv_inb_in h2
  have hiff := xv_eq hx hy
  refine lv_if_eq hY.1 hY.2.1 hd ht (fun q => ?_) (fun q => ?_)
  · rw [if_pos (by first | exact hiff.mp q | exact fun z => q (hiff.mpr z))] at hh
    exact k1 hh H locs ls hP hz hS hl
  · rw [if_neg (by first | exact fun z => q (hiff.mpr z) | exact fun z => z (hiff.mp q))] at hh
    exact k2 hh H locs ls hP hz hS hl
theorem xv_icmp_ne {x y : Int} {off : Int} {t : Nat} (hY : xv_ok Y cc Ts own) (hd : decode cc pc = .ok (.if_icmp .ne off, 3)) (ht : (pc : Int) + off = (t : Int)) (hp : pc + 3 = pc') (k1 : xv_D Y ce sl Q tg t L st M d1) (k2 : xv_D Y ce sl Q tg pc' L st M d2) : xv_D Y ce sl Q tg pc L (xi y :: xi x :: st) M (xv_cmp x y (x ≠ y) d1 d2) := by
  subst hp
  obtain ⟨⟨p, l, e, R, s⟩, ⟨m, args, below, meth, c⟩, Dm, cy, b, nL, fl⟩ := Y
  intro hh H locs ls hP hz hS hl
  obtain ⟨⟨h1, h2⟩, hh⟩ := xv_g_some hh
  have hx := xv_inb_in h1
  have hy := xv_inb_in h2
  have hiff := xv_eq hx hy
  refine lv_icmp_ne hY.1 hY.2.1 hd ht (fun q => ?_) (fun q => ?_)
  · rw [if_pos (by first | exact hiff.mp q | exact fun z => q (hiff.mpr z))] at hh
    exact k1 hh H locs ls hP hz hS hl
  · rw [if_neg (by first | exact fun z => q (hiff.mpr z) | exact fun z => z (hiff.mp q))] at hh
    exact k2 hh H locs ls hP hz hS hl
theorem xv_if_ne {x : Int} {off : Int} {t : Nat} (hY : xv_ok Y cc Ts own) (hd : decode cc pc = .ok (.ifCond .ne off, 3)) (ht : (pc : Int) + off = (t : Int)) (hp : pc + 3 = pc') (k1 : xv_D Y ce sl Q tg t L st M d1) (k2 : xv_D Y ce sl Q tg pc' L st M d2) : xv_D Y ce sl Q tg pc L (xi x :: st) M (xv_cmp x 0 (x ≠ 0) d1 d2) := by
  subst hp
  obtain ⟨⟨p, l, e, R, s⟩, ⟨m, args, below, meth, c⟩, Dm, cy, b, nL, fl⟩ := Y
  intro hh H locs ls hP hz hS hl
  obtain ⟨⟨h1, h2⟩, hh⟩ := xv_g_some hh
  have hx := xv_inb_in h1
  have hy := xv_inb_in h2
  have hiff := xv_eq hx hy
  refine lv_if_ne hY.1 hY.2.1 hd ht (fun q => ?_) (fun q => ?_)
  · rw [if_pos (by first | exact hiff.mp q | exact fun z => q (hiff.mpr z))] at hh
    exact k1 hh H locs ls hP hz hS hl
  · rw [if_neg (by first | exact fun z => q (hiff.mpr z) | exact fun z => z (hiff.mp q))] at hh
    exact k2 hh H locs ls hP hz hS hl
theorem xv_icmp_lt {x y : Int} {off : Int} {t : Nat} (hY : xv_ok Y cc Ts own) (hd : decode cc pc = .ok (.if_icmp .lt off, 3)) (ht : (pc : Int) + off = (t : Int)) (hp : pc + 3 = pc') (k1 : xv_D Y ce sl Q tg t L st M d1) (k2 : xv_D Y ce sl Q tg pc' L st M d2) : xv_D Y ce sl Q tg pc L (xi y :: xi x :: st) M (xv_cmp x y (x < y) d1 d2) := by
  subst hp
  obtain ⟨⟨p, l, e, R, s⟩, ⟨m, args, below, meth, c⟩, Dm, cy, b, nL, fl⟩ := Y
  intro hh H locs ls hP hz hS hl
  obtain ⟨⟨h1, h2⟩, hh⟩ := xv_g_some hh
  have hx := xv_inb_in h1
  have hy := xv_inb_in h2
  have hiff := xv_lt hx hy
  refine lv_icmp_lt hY.1 hY.2.1 hd ht (fun q => ?_) (fun q => ?_)
  · rw [if_pos (by first | exact hiff.mp q | exact fun z => q (hiff.mpr z))] at hh
    exact k1 hh H locs ls hP hz hS hl
  · rw [if_neg (by first | exact fun z => q (hiff.mpr z) | exact fun z => z (hiff.mp q))] at hh
    exact k2 hh H locs ls hP hz hS hl
theorem xv_if_lt {x : Int} {off : Int} {t : Nat} (hY : xv_ok Y cc Ts own) (hd : decode cc pc = .ok (.ifCond .lt off, 3)) (ht : (pc : Int) + off = (t : Int)) (hp : pc + 3 = pc') (k1 : xv_D Y ce sl Q tg t L st M d1) (k2 : xv_D Y ce sl Q tg pc' L st M d2) : xv_D Y ce sl Q tg pc L (xi x :: st) M (xv_cmp x 0 (x < 0) d1 d2) := by
  subst hp
  obtain ⟨⟨p, l, e, R, s⟩, ⟨m, args, below, meth, c⟩, Dm, cy, b, nL, fl⟩ := Y
  intro hh H locs ls hP hz hS hl
  obtain ⟨⟨h1, h2⟩, hh⟩ := xv_g_some hh
  have hx := xv_inb_in h1
  have hy := xv_inb_in h2
  have hiff := xv_lt hx hy
  refine lv_if_lt hY.1 hY.2.1 hd ht (fun q => ?_) (fun q => ?_)
  · rw [if_pos (by first | exact hiff.mp q | exact fun z => q (hiff.mpr z))] at hh
    exact k1 hh H locs ls hP hz hS hl
  · rw [if_neg (by first | exact fun z => q (hiff.mpr z) | exact fun z => z (hiff.mp q))] at hh
    exact k2 hh H locs ls hP hz hS hl
theorem xv_icmp_ge {x y : Int} {off : Int} {t : Nat} (hY : xv_ok Y cc Ts own) (hd : decode cc pc = .ok (.if_icmp .ge off, 3)) (ht : (pc : Int) + off = (t : Int)) (hp : pc + 3 = pc') (k1 : xv_D Y ce sl Q tg t L st M d1) (k2 : xv_D Y ce sl Q tg pc' L st M d2) : xv_D Y ce sl Q tg pc L (xi y :: xi x :: st) M (xv_cmp x y (y ≤ x) d1 d2) := by
  subst hp
  obtain ⟨⟨p, l, e, R, s⟩, ⟨m, args, below, meth, c⟩, Dm, cy, b, nL, fl⟩ := Y
  intro hh H locs ls hP hz hS hl
  obtain ⟨⟨h1, h2⟩, hh⟩ := xv_g_some hh
  have hx := xv_inb_in h1
  have hy := xv_inb_in h2
  have hiff := xv_le hy hx
  refine lv_icmp_ge hY.1 hY.2.1 hd ht (fun q => ?_) (fun q => ?_)
  · rw [if_pos (by first | exact hiff.mp q | exact fun z => q (hiff.mpr z))] at hh
    exact k1 hh H locs ls hP hz hS hl
  · rw [if_neg (by first | exact fun z => q (hiff.mpr z) | exact fun z => z (hiff.mp q))] at hh
    exact k2 hh H locs ls hP hz hS hl
theorem xv_if_ge {x : Int} {off : Int} {t : Nat} (hY : xv_ok Y cc Ts own) (hd : decode cc pc = .ok (.ifCond .ge off, 3)) (ht : (pc : Int) + off = (t : Int)) (hp : pc + 3 = pc') (k1 : xv_D Y ce sl Q tg t L st M d1) (k2 : xv_D Y ce sl Q tg pc' L st M d2) : xv_D Y ce sl Q tg pc L (xi x :: st) M (xv_cmp x 0 (0 ≤ x) d1 d2) := by
  subst hp
  obtain ⟨⟨p, l, e, R, s⟩, ⟨m, args, below, meth, c⟩, Dm, cy, b, nL, fl⟩ := Y
  intro hh H locs ls hP hz hS hl
  obtain ⟨⟨h1, h2⟩, hh⟩ := xv_g_some hh
  have hx := xv_inb_in h1
  have hy := xv_inb_in h2
  have hiff := xv_le hy hx
  refine lv_if_ge hY.1 hY.2.1 hd ht (fun q => ?_) (fun q => ?_)
  · rw [if_pos (by first | exact hiff.mp q | exact fun z => q (hiff.mpr z))] at hh
    exact k1 hh H locs ls hP hz hS hl
  · rw [if_neg (by first | exact fun z => q (hiff.mpr z) | exact fun z => z (hiff.mp q))] at hh
    exact k2 hh H locs ls hP hz hS hl
theorem xv_icmp_gt {x y : Int} {off : Int} {t : Nat} (hY : xv_ok Y cc Ts own) (hd : decode cc pc = .ok (.if_icmp .gt off, 3)) (ht : (pc : Int) + off = (t : Int)) (hp : pc + 3 = pc') (k1 : xv_D Y ce sl Q tg t L st M d1) (k2 : xv_D Y ce sl Q tg pc' L st M d2) : xv_D Y ce sl Q tg pc L (xi y :: xi x :: st) M (xv_cmp x y (y < x) d1 d2) := by
  subst hp
  obtain ⟨⟨p, l, e, R, s⟩, ⟨m, args, below, meth, c⟩, Dm, cy, b, nL, fl⟩ := Y
  intro hh H locs ls hP hz hS hl
  obtain ⟨⟨h1, h2⟩, hh⟩ := xv_g_some hh
  have hx := xv_inb_in h1
  have hy := xv_inb_in h2
  have hiff := xv_lt hy hx
  refine lv_icmp_gt hY.1 hY.2.1 hd ht (fun q => ?_) (fun q => ?_)
  · rw [if_pos (by first | exact hiff.mp q | exact fun z => q (hiff.mpr z))] at hh
    exact k1 hh H locs ls hP hz hS hl
  · rw [if_neg (by first | exact fun z => q (hiff.mpr z) | exact fun z => z (hiff.mp q))] at hh
    exact k2 hh H locs ls hP hz hS hl
theorem xv_if_gt {x : Int} {off : Int} {t : Nat} (hY : xv_ok Y cc Ts own) (hd : decode cc pc = .ok (.ifCond .gt off, 3)) (ht : (pc : Int) + off = (t : Int)) (hp : pc + 3 = pc') (k1 : xv_D Y ce sl Q tg t L st M d1) (k2 : xv_D Y ce sl Q tg pc' L st M d2) : xv_D Y ce sl Q tg pc L (xi x :: st) M (xv_cmp x 0 (0 < x) d1 d2) := by
  subst hp
  obtain ⟨⟨p, l, e, R, s⟩, ⟨m, args, below, meth, c⟩, Dm, cy, b, nL, fl⟩ := Y
  intro hh H locs ls hP hz hS hl
  obtain ⟨⟨h1, h2⟩, hh⟩ := xv_g_some hh
  have hx := xv_inb_in h1
  have hy := xv_inb_in h2
  have hiff := xv_lt hy hx
  refine lv_if_gt hY.1 hY.2.1 hd ht (fun q => ?_) (fun q => ?_)
  · rw [if_pos (by first | exact hiff.mp q | exact fun z => q (hiff.mpr z))] at hh
    exact k1 hh H locs ls hP hz hS hl
  · rw [if_neg (by first | exact fun z => q (hiff.mpr z) | exact fun z => z (hiff.mp q))] at hh
    exact k2 hh H locs ls hP hz hS hl
theorem xv_icmp_le {x y : Int} {off : Int} {t : Nat} (hY : xv_ok Y cc Ts own) (hd : decode cc pc = .ok (.if_icmp .le off, 3)) (ht : (pc : Int) + off = (t : Int)) (hp : pc + 3 = pc') (k1 : xv_D Y ce sl Q tg t L st M d1) (k2 : xv_D Y ce sl Q tg pc' L st M d2) : xv_D Y ce sl Q tg pc L (xi y :: xi x :: st) M (xv_cmp x y (x ≤ y) d1 d2) := by
  subst hp
  obtain ⟨⟨p, l, e, R, s⟩, ⟨m, args, below, meth, c⟩, Dm, cy, b, nL, fl⟩ := Y
  intro hh H locs ls hP hz hS hl
  obtain ⟨⟨h1, h2⟩, hh⟩ := xv_g_some hh
  have hx := xv_inb_in h1
  have hy := xv_inb_in h2
  have hiff := xv_le hx hy
  refine lv_icmp_le hY.1 hY.2.1 hd ht (fun q => ?_) (fun q => ?_)
  · rw [if_pos (by first | exact hiff.mp q | exact fun z => q (hiff.mpr z))] at hh
    exact k1 hh H locs ls hP hz hS hl
  · rw [if_neg (by first | exact fun z => q (hiff.mpr z) | exact fun z => z (hiff.mp q))] at hh
    exact k2 hh H locs ls hP hz hS hl
theorem xv_if_le {x : Int} {off : Int} {t : Nat} (hY : xv_ok Y cc Ts own) (hd : decode cc pc = .ok (.ifCond .le off, 3)) (ht : (pc : Int) + off = (t : Int)) (hp : pc + 3 = pc') (k1 : xv_D Y ce sl Q tg t L st M d1) (k2 : xv_D Y ce sl Q tg pc' L st M d2) : xv_D Y ce sl Q tg pc L (xi x :: st) M (xv_cmp x 0 (x ≤ 0) d1 d2) := by
  subst hp
  obtain ⟨⟨p, l, e, R, s⟩, ⟨m, args, below, meth, c⟩, Dm, cy, b, nL, fl⟩ := Y
  intro hh H locs ls hP hz hS hl
  obtain ⟨⟨h1, h2⟩, hh⟩ := xv_g_some hh
  have hx := xv_inb_in h1
  have hy := xv_inb_in h2
  have hiff := xv_le hx hy
  refine lv_if_le hY.1 hY.2.1 hd ht (fun q => ?_) (fun q => ?_)
  · rw [if_pos (by first | exact hiff.mp q | exact fun z => q (hiff.mpr z))] at hh
    exact k1 hh H locs ls hP hz hS hl
  · rw [if_neg (by first | exact fun z => q (hiff.mpr z) | exact fun z => z (hiff.mp q))] at hh
    exact k2 hh H locs ls hP hz hS hl
theorem xv_ifnull {x : Nat} {off : Int} {t : Nat} (hY : xv_ok Y cc Ts own) (hd : decode cc pc = .ok (.ifnull off, 3)) (ht : (pc : Int) + off = (t : Int)) (hp : pc + 3 = pc') (k1 : xv_D Y ce sl Q tg t L st M d1) (k2 : xv_D Y ce sl Q tg pc' L st M d2) : xv_D Y ce sl Q tg pc L (xr x :: st) M (xv_if (x = 0) d1 d2) := by
  subst hp
  obtain ⟨⟨p, l, e, R, s⟩, ⟨m, args, below, meth, c⟩, Dm, cy, b, nL, fl⟩ := Y
  intro hh H locs ls hP hz hS hl
  simp only [List.map_cons, xv_val]
  unfold xv_if at hh
  by_cases h0 : x = 0
  · rw [if_pos h0] at hh
    subst h0
    rw [xv_r_0]
    exact lv_ifnullN hY.1 hY.2.1 hd ht (k1 hh H locs ls hP hz hS hl)
  · rw [if_neg h0] at hh
    rw [xv_r_s h0]
    exact lv_ifnull hY.1 hY.2.1 hd (k2 hh H locs ls hP hz hS hl)
theorem xv_ifnonnull {x : Nat} {off : Int} {t : Nat} (hY : xv_ok Y cc Ts own) (hd : decode cc pc = .ok (.ifnonnull off, 3)) (ht : (pc : Int) + off = (t : Int)) (hp : pc + 3 = pc') (k1 : xv_D Y ce sl Q tg t L st M d1) (k2 : xv_D Y ce sl Q tg pc' L st M d2) : xv_D Y ce sl Q tg pc L (xr x :: st) M (xv_if (x = 0) d2 d1) := by
  subst hp
  obtain ⟨⟨p, l, e, R, s⟩, ⟨m, args, below, meth, c⟩, Dm, cy, b, nL, fl⟩ := Y
  intro hh H locs ls hP hz hS hl
  simp only [List.map_cons, xv_val]
  unfold xv_if at hh
  by_cases h0 : x = 0
  · rw [if_pos h0] at hh
    subst h0
    rw [xv_r_0]
    exact lv_ifnonnullN hY.1 hY.2.1 hd (k2 hh H locs ls hP hz hS hl)
  · rw [if_neg h0] at hh
    rw [xv_r_s h0]
    exact lv_ifnonnull hY.1 hY.2.1 hd ht (k1 hh H locs ls hP hz hS hl)
theorem xv_swIn {z : Int} {dflt lo hi off : Int} {offs : Array Int} {len t : Nat} (hY : xv_ok Y cc Ts own) (hd : decode cc pc = .ok (.tableswitch dflt lo hi offs, len)) (hz : xv_in z) (h1 : ¬ z < lo) (h2 : ¬ hi < z) (ho : offs[(z - lo).toNat]? = some off) (ht : (pc : Int) + off = (t : Int)) (k : xv_D Y ce sl Q tg t L st M d) : xv_D Y ce sl Q tg pc L (xi z :: st) M d := by
  obtain ⟨⟨p, l, e, R, s⟩, ⟨m, args, below, meth, c⟩, Dm, cy, b, nL, fl⟩ := Y
  intro hh H locs ls hP hzz hS hl
  exact lv_tableIn hY.1 hY.2.1 hd (by rw [xv_toInt hz]; exact h1) (by rw [xv_toInt hz]; exact h2) (by rw [xv_toInt hz]; exact ho) ht (k hh H locs ls hP hzz hS hl)
theorem xv_swOut {z : Int} {dflt lo hi : Int} {offs : Array Int} {len t : Nat} (hY : xv_ok Y cc Ts own) (hd : decode cc pc = .ok (.tableswitch dflt lo hi offs, len)) (hz : xv_in z) (h1 : z < lo ∨ hi < z) (ht : (pc : Int) + dflt = (t : Int)) (k : xv_D Y ce sl Q tg t L st M d) : xv_D Y ce sl Q tg pc L (xi z :: st) M d := by
  obtain ⟨⟨p, l, e, R, s⟩, ⟨m, args, below, meth, c⟩, Dm, cy, b, nL, fl⟩ := Y
  intro hh H locs ls hP hzz hS hl
  exact lv_tableOut hY.1 hY.2.1 hd (by rw [xv_toInt hz]; exact h1) ht (k hh H locs ls hP hzz hS hl)
theorem xv_byg {P : Prop} [Decidable P] (k : P → xv_D Y ce sl Q tg pc L st M d) : xv_D Y ce sl Q tg pc L st M (xv_g P d) := fun hh => (k (xv_g_some hh).1) (xv_g_some hh).2
theorem xv_byif {P : Prop} [Decidable P] (k1 : P → xv_D Y ce sl Q tg pc L st M d1) (k2 : ¬ P → xv_D Y ce sl Q tg pc L st M d2) : xv_D Y ce sl Q tg pc L st M (xv_if P d1 d2) := by
  intro hh
  unfold xv_if at hh
  by_cases h : P
  · rw [if_pos h] at hh; exact k1 h hh
  · rw [if_neg h] at hh; exact k2 h hh
theorem xv_mk (bs : List Bool) (hL : xv_mask bs L = L') (k : xv_D Y ce sl Q tg pc L' st M d) : xv_D Y ce sl Q tg pc L st M d := by
  subst hL
  intro hh H locs ls hP hz hS hl
  exact k hh H locs ls hP hz hS (hl.mask bs)
/-- a loop: at its head, for every state of it -/
theorem xv_loop {σ : Type} {F : (σ → Option T) → σ → Option T} (fL : σ → List (Option xv_v)) (fM : σ → xv_M) (h : ∀ (f : σ → Option T), (∀ x, xv_D Y ce sl Q tg pc (fL x) st (fM x) (f x)) → ∀ x, xv_D Y ce sl Q tg pc (fL x) st (fM x) (F f x)) : ∀ (n : Nat) (x : σ), xv_D Y ce sl Q tg pc (fL x) st (fM x) (xv_fix F n x)
  | 0, x => fun hh => by cases hh
  | n + 1, x => h _ (xv_loop fL fM h n) x

end XV
end
section
/-! ## fields and arrays -/
theorem xv_obj {b : Nat} {cy : Nat → ClassId} {M : xv_M} {r ci : Nat} (h : (xv_kd M r).1 = ci) (hc : ci < 13) : r ≠ 0 ∧ (xv_W b cy M)[r - 1]? = some (b + r, .inr (ci, xv_fs b ci (M.2.1 r) (M.2.2.1 r) (M.2.2.2 r))) := by
  have h9 : (xv_kd M r).1 ≠ 99 := by omega
  refine ⟨(xv_kd_lt h9).1, ?_⟩
  rw [xv_W_get h9]
  unfold xv_E
  rw [if_pos (by omega), h]
theorem xv_arI {b : Nat} {cy : Nat → ClassId} {M : xv_M} {r t : Nat} (h : (xv_kd M r).1 = t) (ht : t = 13 ∨ t = 14 ∨ t = 16) : r ≠ 0 ∧ (xv_W b cy M)[r - 1]? = some (b + r, .inl (cy t, (xv_kd M r).2, .inl (fun j => Int32.ofInt (M.2.1 r j)))) := by
  have h9 : (xv_kd M r).1 ≠ 99 := by omega
  refine ⟨(xv_kd_lt h9).1, ?_⟩
  rw [xv_W_get h9]
  unfold xv_E
  rw [if_neg (by omega), if_neg (by omega), if_neg (by omega), h]
theorem xv_arJ {b : Nat} {cy : Nat → ClassId} {M : xv_M} {r : Nat} (h : (xv_kd M r).1 = 15) : r ≠ 0 ∧ (xv_W b cy M)[r - 1]? = some (b + r, .inl (cy 15, (xv_kd M r).2, .inr (.inl (M.2.2.1 r)))) := by
  have h9 : (xv_kd M r).1 ≠ 99 := by omega
  refine ⟨(xv_kd_lt h9).1, ?_⟩
  rw [xv_W_get h9]
  unfold xv_E
  rw [if_neg (by omega), if_pos h]
theorem xv_arP {b : Nat} {cy : Nat → ClassId} {M : xv_M} {r t : Nat} (h : (xv_kd M r).1 = t) (ht : t = 17 ∨ t = 18) : r ≠ 0 ∧ (xv_W b cy M)[r - 1]? = some (b + r, .inl (cy t, (xv_kd M r).2, .inr (.inr (.inr (.inr (fun j => xv_R b (M.2.2.2 r j))))))) := by
  have h9 : (xv_kd M r).1 ≠ 99 := by omega
  refine ⟨(xv_kd_lt h9).1, ?_⟩
  rw [xv_W_get h9]
  unfold xv_E
  rw [if_neg (by omega), if_neg (by omega), if_pos (by omega), h]
/-- field reads: int, long, reference; writes -/
def xv_gI {T : Type} (M : xv_M) (c r j : Nat) (f : Int → Option T) : Option T := if (xv_kd M r).1 = c then f (xv_I M r j) else none
def xv_gJ {T : Type} (M : xv_M) (c r j : Nat) (f : Int64 → Option T) : Option T := if (xv_kd M r).1 = c then f (xv_J M r j) else none
def xv_gP {T : Type} (M : xv_M) (c r j : Nat) (f : Nat → Option T) : Option T := if (xv_kd M r).1 = c then f (xv_P M r j) else none
def xv_pI {T : Type} (M : xv_M) (c r j : Nat) (v : Int) (f : xv_M → Option T) : Option T := if (xv_kd M r).1 = c then f (xv_sI M r j v) else none
def xv_pZ {T : Type} (M : xv_M) (c r j : Nat) (v : Int) (f : xv_M → Option T) : Option T := if (xv_kd M r).1 = c ∧ (v = 0 ∨ v = 1) then f (xv_sI M r j v) else none
def xv_pJ {T : Type} (M : xv_M) (c r j : Nat) (v : Int64) (f : xv_M → Option T) : Option T := if (xv_kd M r).1 = c then f (xv_sJ M r j v) else none
def xv_pP {T : Type} (M : xv_M) (c r j : Nat) (v : Nat) (f : xv_M → Option T) : Option T := if (xv_kd M r).1 = c then f (xv_sP M r j v) else none
/-- an array's place is there -/
def xv_ab (M : xv_M) (t r : Nat) (i : Int) : Prop := (xv_kd M r).1 = t ∧ 0 ≤ i ∧ i < ((xv_kd M r).2 : Int) ∧ i ≤ 2147483647
def xv_abb (M : xv_M) (t r : Nat) (i : Int) : Bool := decide ((xv_kd M r).1 = t) && (decide (0 ≤ i) && (decide (i < ((xv_kd M r).2 : Int)) && decide (i ≤ 2147483647)))
theorem xv_abb_ab {M : xv_M} {t r : Nat} {i : Int} (h : xv_abb M t r i = true) : xv_ab M t r i := by
  unfold xv_abb at h
  simp only [Bool.and_eq_true, decide_eq_true_eq] at h
  exact h
theorem xv_ab_abb {M : xv_M} {t r : Nat} {i : Int} (h : xv_ab M t r i) : xv_abb M t r i = true := by
  unfold xv_abb
  simp only [Bool.and_eq_true, decide_eq_true_eq]
  exact h
theorem xv_ab_ix {M : xv_M} {t r : Nat} {i : Int} (h : xv_ab M t r i) : vp_in (Int32.ofInt i) (xv_kd M r).2 ∧ (Int32.ofInt i).toNatClampNeg = i.toNat := by
  obtain ⟨-, h1, h2, h3⟩ := h
  have hin : xv_in i := ⟨by omega, by omega⟩
  have ht := xv_toInt hin
  refine ⟨vp_in_iff.mpr (by rw [ht]; exact ⟨h1, h2⟩), ?_⟩
  show (Int32.ofInt i).toInt.toNat = i.toNat
  rw [ht]
def xv_aI {T : Type} (M : xv_M) (t r : Nat) (i : Int) (f : Int → Option T) : Option T := if xv_abb M t r i = true then f (xv_I M r i.toNat) else none
def xv_aJ {T : Type} (M : xv_M) (r : Nat) (i : Int) (f : Int64 → Option T) : Option T := if xv_abb M 15 r i = true then f (xv_J M r i.toNat) else none
def xv_aP {T : Type} (M : xv_M) (t r : Nat) (i : Int) (f : Nat → Option T) : Option T := if xv_abb M t r i = true then f (xv_P M r i.toNat) else none
def xv_wI {T : Type} (M : xv_M) (r : Nat) (i v : Int) (f : xv_M → Option T) : Option T := if xv_abb M 14 r i = true then f (xv_sI M r i.toNat v) else none
def xv_wZ {T : Type} (M : xv_M) (r : Nat) (i v : Int) (f : xv_M → Option T) : Option T := if xv_abb M 16 r i = true ∧ (v = 0 ∨ v = 1) then f (xv_sI M r i.toNat v) else none
def xv_wC {T : Type} (M : xv_M) (r : Nat) (i v : Int) (f : xv_M → Option T) : Option T := if xv_abb M 13 r i = true ∧ (0 ≤ v ∧ v ≤ 65535) then f (xv_sI M r i.toNat v) else none
def xv_wJ {T : Type} (M : xv_M) (r : Nat) (i : Int) (v : Int64) (f : xv_M → Option T) : Option T := if xv_abb M 15 r i = true then f (xv_sJ M r i.toNat v) else none
def xv_wP {T : Type} (M : xv_M) (r : Nat) (i : Int) (v : Nat) (f : xv_M → Option T) : Option T := if xv_abb M 17 r i = true ∧ (xv_kd M v).1 = 6 then f (xv_sP M r i.toNat v) else none
def xv_len {T : Type} (M : xv_M) (t r : Nat) (f : Int → Option T) : Option T := if (xv_kd M r).1 = t then f ((xv_kd M r).2 : Int) else none
/-- arraycopy of ints, of longs -/
def xv_cp {T : Type} (M : xv_M) (t r0 : Nat) (sp : Int) (r1 : Nat) (dp n : Int) (c : xv_M) (f : xv_M → Option T) : Option T := if (xv_kd M r0).1 = t ∧ (xv_kd M r1).1 = t ∧ 0 ≤ sp ∧ 0 ≤ dp ∧ 0 ≤ n ∧ sp + n ≤ ((xv_kd M r0).2 : Int) ∧ dp + n ≤ ((xv_kd M r1).2 : Int) ∧ sp ≤ 1000000 ∧ dp ≤ 1000000 ∧ n ≤ 1000000 then f c else none
theorem xv_up_self {α : Type} (f : Nat → Nat → α) (r j : Nat) (v : α) : xv_up f r j v r j = v := by simp [xv_up]
theorem xv_up_row {α : Type} (f : Nat → Nat → α) {r i : Nat} (j : Nat) (v : α) (h : i ≠ r) : xv_up f r j v i = f i := by
  funext k
  simp [xv_up, h]
theorem xv_up_ne {α : Type} (f : Nat → Nat → α) (r j : Nat) (v : α) {i : Nat} (h : i ≠ j) : xv_up f r j v r i = f r i := by simp [xv_up, h]
theorem xv_rw_row {α : Type} (f : Nat → Nat → α) {r i : Nat} (g : Nat → α) (h : i ≠ r) : xv_rw f r g i = f i := by
  funext k
  simp [xv_rw, h]
theorem xv_rw_self {α : Type} (f : Nat → Nat → α) (r : Nat) (g : Nat → α) : xv_rw f r g r = g := by
  funext k
  simp [xv_rw]
theorem xv_G.moved {Dm : va_G} {cy : Nat → ClassId} {s U : State} (hW : s.WarmedH U.vm) (h : xv_G Dm cy s) : xv_G Dm cy U := ⟨va_K.moved hW.alike h.1, fun q hq => va_Nw.warmM hW (h.2.1 q hq), va_AO.moved hW.alike h.2.2.1, over_moved hW.alike h.2.2.2⟩
theorem xv_nar_c {v : Int} (h : 0 ≤ v ∧ v ≤ 65535) : vp_nar .char (Int32.ofInt v) = Int32.ofInt v := by
  have e : Int32.ofInt v = nI v.toNat := by
    show Int32.ofInt v = Int32.ofNat v.toNat
    rw [← Int32.ofInt_eq_ofNat]
    congr 1
    omega
  rw [e]
  have h1 := (pk_charN (q := v.toNat) (by omega)).1
  unfold vp_nar
  rw [h1]
theorem xv_nar_z {v : Int} (h : v = 0 ∨ v = 1) : vp_nar .boolean (Int32.ofInt v) = Int32.ofInt v := by
  rcases h with rfl | rfl <;> rfl
section XH
variable {T : Type} {Y : xv_Y} {cc : ByteArray} {Ts : List Cond} {own : String} {ce sl : Nat} {Q : State → Prop} {tg : T} {pc pc' : Nat} {L L' : List (Option xv_v)} {st : List xv_v} {M : xv_M} {d d1 d2 : Option T}

theorem xv_getI {ci j index N r : Nat} {C : String} {TT : u_T} {f : Int → Option T} (hY : xv_ok Y cc Ts own) (hd : decode cc pc = .ok (.getfield index, 3)) (hp : pc + 3 = pc') (hc : vwCl[ci]? = some (C, TT, N)) (hN : N = xv_N ci) (hci : ci < 13) (hin : ∀ w ∈ u_ws C TT N, w ∈ Ts) (hj : j < N) (ht : xv_ty ci j = 0) (hl9 : Cond.fieldLink own index (TT j).1 (TT j).2.1 (TT j).2.2.1 ∈ Ts) (k : ∀ x : Int, xv_D Y ce sl Q tg pc' L (xi x :: st) M (f x)) : xv_D Y ce sl Q tg pc L (xr r :: st) M (xv_gI M ci r j f) := by
  subst hp
  obtain ⟨⟨p, l, e, R, s⟩, ⟨m, args, below, meth, c⟩, Dm, cy, b, nL, fl⟩ := Y
  intro hh H locs ls hP hz hS hl
  unfold xv_gI at hh
  by_cases h : (xv_kd M r).1 = ci
  · rw [if_pos h] at hh
    obtain ⟨h0, he⟩ := xv_obj (b := b) (cy := cy) h hci
    simp only [List.map_cons, xv_val]
    rw [xv_r_s h0]
    refine va_get (v := xv_i (xv_I M r j)) hY.1 hY.2.1 hY.2.2.2.2.1 hin hY.2.2.2.1 hY.2.2.2.2.2.1.1 hP (r - 1) he hc j hj (hY.2.2.2.2.1 _ hl9) (fun _ h9 => h9) (by rw [xv_fs_get (by rw [← hN]; exact hj)]; simp [xv_sv, ht, xv_I]) hd ?_
    exact k _ hh H locs ls hP hz hS hl
  · rw [if_neg h] at hh
    cases hh
theorem xv_getJ {ci j index N r : Nat} {C : String} {TT : u_T} {f : Int64 → Option T} (hY : xv_ok Y cc Ts own) (hd : decode cc pc = .ok (.getfield index, 3)) (hp : pc + 3 = pc') (hc : vwCl[ci]? = some (C, TT, N)) (hN : N = xv_N ci) (hci : ci < 13) (hin : ∀ w ∈ u_ws C TT N, w ∈ Ts) (hj : j < N) (ht : xv_ty ci j = 1) (hl9 : Cond.fieldLink own index (TT j).1 (TT j).2.1 (TT j).2.2.1 ∈ Ts) (k : ∀ x : Int64, xv_D Y ce sl Q tg pc' L (xl x :: st) M (f x)) : xv_D Y ce sl Q tg pc L (xr r :: st) M (xv_gJ M ci r j f) := by
  subst hp
  obtain ⟨⟨p, l, e, R, s⟩, ⟨m, args, below, meth, c⟩, Dm, cy, b, nL, fl⟩ := Y
  intro hh H locs ls hP hz hS hl
  unfold xv_gJ at hh
  by_cases h : (xv_kd M r).1 = ci
  · rw [if_pos h] at hh
    obtain ⟨h0, he⟩ := xv_obj (b := b) (cy := cy) h hci
    simp only [List.map_cons, xv_val]
    rw [xv_r_s h0]
    refine va_get (v := Value.long (xv_J M r j)) hY.1 hY.2.1 hY.2.2.2.2.1 hin hY.2.2.2.1 hY.2.2.2.2.2.1.1 hP (r - 1) he hc j hj (hY.2.2.2.2.1 _ hl9) (fun _ h9 => h9) (by rw [xv_fs_get (by rw [← hN]; exact hj)]; simp [xv_sv, ht, xv_J]) hd ?_
    exact k _ hh H locs ls hP hz hS hl
  · rw [if_neg h] at hh
    cases hh
theorem xv_getP {ci j index N r : Nat} {C : String} {TT : u_T} {f : Nat → Option T} (hY : xv_ok Y cc Ts own) (hd : decode cc pc = .ok (.getfield index, 3)) (hp : pc + 3 = pc') (hc : vwCl[ci]? = some (C, TT, N)) (hN : N = xv_N ci) (hci : ci < 13) (hin : ∀ w ∈ u_ws C TT N, w ∈ Ts) (hj : j < N) (ht : xv_ty ci j = 2) (hl9 : Cond.fieldLink own index (TT j).1 (TT j).2.1 (TT j).2.2.1 ∈ Ts) (k : ∀ x : Nat, xv_D Y ce sl Q tg pc' L (xr x :: st) M (f x)) : xv_D Y ce sl Q tg pc L (xr r :: st) M (xv_gP M ci r j f) := by
  subst hp
  obtain ⟨⟨p, l, e, R, s⟩, ⟨m, args, below, meth, c⟩, Dm, cy, b, nL, fl⟩ := Y
  intro hh H locs ls hP hz hS hl
  unfold xv_gP at hh
  by_cases h : (xv_kd M r).1 = ci
  · rw [if_pos h] at hh
    obtain ⟨h0, he⟩ := xv_obj (b := b) (cy := cy) h hci
    simp only [List.map_cons, xv_val]
    rw [xv_r_s h0]
    refine va_get (v := xv_r b (xv_P M r j)) hY.1 hY.2.1 hY.2.2.2.2.1 hin hY.2.2.2.1 hY.2.2.2.2.2.1.1 hP (r - 1) he hc j hj (hY.2.2.2.2.1 _ hl9) (fun _ h9 => h9) (by rw [xv_fs_get (by rw [← hN]; exact hj)]; simp [xv_sv, ht, xv_P]) hd ?_
    exact k _ hh H locs ls hP hz hS hl
  · rw [if_neg h] at hh
    cases hh
theorem xv_putG {M' : xv_M} {v : xv_v} {ci j index N r : Nat} {C : String} {TT : u_T} {ty0 : Nat → FieldType} (hY : xv_ok Y cc Ts own) (hd : decode cc pc = .ok (.putfield index, 3)) (hc : vwCl[ci]? = some (C, TT, N)) (hN : N = xv_N ci) (hci : ci < 13) (hin : ∀ w ∈ u_ws C TT N, w ∈ Ts) (hj : j < N) (hl9 : Cond.fieldLink own index (TT j).1 (TT j).2.1 (TT j).2.2.1 ∈ Ts)
    (hty : ∀ k, k < N → parseFieldDescriptor (TT k).2.2.1 = some (ty0 k)) (hnm : ∀ a, a < N → ∀ b, b < N → a ≠ b → (TT a).2.1 ≠ (TT b).2.1) (hfin : (TT j).2.2.2 = false ∨ ((TT j).2.2.2 = true ∧ Y.2.1.2.2.2.1.name = "<init>" ∧ (TT j).1 = own))
    (hn : narrow (ty0 j) (xv_val Y.2.2.2.2.1 v) = xv_val Y.2.2.2.2.1 v) (hfit : fits (ty0 j) (xv_val Y.2.2.2.2.1 v) = true) (h : (xv_kd M r).1 = ci) (hM : M'.1 = M.1) (ho : ∀ i, i ≠ r → M'.2.1 i = M.2.1 i ∧ M'.2.2.1 i = M.2.2.1 i ∧ M'.2.2.2 i = M.2.2.2 i)
    (hfs : (xv_fs Y.2.2.2.2.1 ci (M.2.1 r) (M.2.2.1 r) (M.2.2.2 r)).set j (xv_val Y.2.2.2.2.1 v) = xv_fs Y.2.2.2.2.1 ci (M'.2.1 r) (M'.2.2.1 r) (M'.2.2.2 r)) (k : xv_V Y ce sl Q (pc + 3) L st M') : xv_V Y ce sl Q pc L (v :: xr r :: st) M := by
  obtain ⟨⟨p, l, e, R, s⟩, ⟨m, args, below, meth, c⟩, Dm, cy, b, nL, fl⟩ := Y
  intro H locs ls hP hz hS hl
  obtain ⟨h0, he⟩ := xv_obj (b := b) (cy := cy) h hci
  have hD : va_D (fun q => b < q) (xv_W b cy M) := xv_W_D
  have hK := hY.2.2.2.2.2.1.1
  have hts := hY.2.2.2.2.1
  have hown := hY.2.2.2.1
  have hlink := hts _ hl9
  have hl2 : j < (xv_fs b ci (M.2.1 r) (M.2.2.1 r) (M.2.2.2 r)).length := by rw [xv_fs_len, ← hN]; exact hj
  have hE : (xv_W b cy M).set (r - 1) (b + r, .inr (ci, (xv_fs b ci (M.2.1 r) (M.2.2.1 r) (M.2.2.2 r)).set j (xv_val b v))) = xv_W b cy M' := xv_W_set (by omega) hM (by rw [hfs]; unfold xv_E; rw [if_pos (by omega), h]) ho
  simp only [List.map_cons]
  show W _ _ _ _ _ _ _ _ _ _ _ _ _ _ _ (F0 m pc ls (xv_val b v :: xv_r b r :: _))
  rw [xv_r_s h0]
  have hap := va_apart (own := own) hts hin ty0 hty hnm hK hc
  obtain ⟨q, h1, cell, q1, q2, q3, q4⟩ := hP (r - 1) _ he
  have hr : q = (C, TT, N) := Option.some.inj (h1.symm.trans hc)
  subst hr
  obtain ⟨hSl, hfc, kC, hkC, hkind⟩ := hK.1 ci _ hc
  obtain ⟨cf, kf, fi, f, hi, hsl⟩ := hSl j hj
  have hlay := hts _ (hin _ (u_in_lay hj))
  unfold u_lay at hlay
  have hst := (u_facts hfc hkC (u_lays hts hin hj) hi).1
  have fin : ∀ H' : Heap, H'[b + r]? = some (cell.setSlot f.slot (xv_val b v)) → H'.size = H.size → (∀ q, q ≠ b + r → H'[q]? = H[q]?) → W p l e R s m args below meth c H' (locs ++ [⟨b + r, f.slot⟩]) ce sl Q (F0 m (pc + 3) ls (st.map (xv_val b))) := by
    intro H' e1 e2 e3
    rw [hsl] at e1 ⊢
    refine k H' _ ls ?_ (fun hf => by rw [e2, hM]; exact hz hf) (hS.put e2 e3 (hD.2 (r - 1) _ he)) hl
    rw [← hE]
    exact hP.set hD he ⟨_, hc, t_OB.to (V := updV (vp_V (xv_fs b ci (M.2.1 r) (M.2.2.1 r) (M.2.2.2 r))) j (xv_val b v)) ⟨_, e1, q2, q3, t_set q4 hap hj _⟩ (fun i _ => vp_updV_set hl2 _ i)⟩ e3
  rcases hfin with hfin | ⟨hfin, hin2, hdecl⟩
  · rw [if_neg (by rw [hfin]; decide)] at hlay
    have h6 := u_store hfc hkC hkind hlay hi (hty j hj) hn hfit
    exact W.putK hY.1 hY.2.1 (f := f) ⟨hown, hlink, ⟨_, _, _, hi⟩, hst⟩ (by rw [q2]; exact h6) q1 q3 (by rw [hsl]; exact k2_hasslot (q4 j hj)) rfl rfl hd fin
  · rw [if_pos hfin] at hlay
    have hcf : m.cls = cf := by
      obtain ⟨_, _, c', _, _, _, -, -, hf', -, -, -, hown2, -⟩ := Cond.laysFinal_spec hlay
      have e1 : c' = cf := by have := hi.symm.trans hf'; simp at this; exact this.1.symm
      rw [hdecl] at hown2
      rw [← e1]; exact Option.some.inj (hown.symm.trans hown2)
    have h6 := u_fits hfc hkC hkind (Or.inr hlay) hi (hty j hj) hn hfit
    exact W.putFinK hY.1 hY.2.1 hown hlink hi hst hcf hin2 (by rw [q2]; exact h6) q1 q3 (by rw [hsl]; exact k2_hasslot (q4 j hj)) rfl rfl hd fin
theorem xv_putI {ci j index N r : Nat} {v : Int} {C : String} {TT : u_T} {ty0 : Nat → FieldType} {f : xv_M → Option T} (hY : xv_ok Y cc Ts own) (hd : decode cc pc = .ok (.putfield index, 3)) (hp : pc + 3 = pc') (hc : vwCl[ci]? = some (C, TT, N)) (hN : N = xv_N ci) (hci : ci < 13) (hin : ∀ w ∈ u_ws C TT N, w ∈ Ts) (hj : j < N) (ht : xv_ty ci j = 0) (hl9 : Cond.fieldLink own index (TT j).1 (TT j).2.1 (TT j).2.2.1 ∈ Ts)
    (hty : ∀ k, k < N → parseFieldDescriptor (TT k).2.2.1 = some (ty0 k)) (hnm : ∀ a, a < N → ∀ b, b < N → a ≠ b → (TT a).2.1 ≠ (TT b).2.1) (hfin : (TT j).2.2.2 = false ∨ ((TT j).2.2.2 = true ∧ Y.2.1.2.2.2.1.name = "<init>" ∧ (TT j).1 = own)) (h9 : ty0 j = .int) (k : ∀ M' : xv_M, xv_D Y ce sl Q tg pc' L st M' (f M')) : xv_D Y ce sl Q tg pc L (xi v :: xr r :: st) M (xv_pI M ci r j v f) := by
  subst hp
  intro hh
  unfold xv_pI at hh
  by_cases h : (xv_kd M r).1 = ci
  · rw [if_pos h] at hh
    refine xv_putG (M' := xv_sI M r j v) hY hd hc hN hci hin hj hl9 hty hnm hfin (by rw [h9]; rfl) (by rw [h9]; rfl) h rfl (fun i hi => ?_) ?_ (k _ hh)
    · simp [xv_sI, xv_up_row _ _ _ hi]
    · refine xv_fs_set (by rw [← hN]; exact hj) (by simp [xv_sv, ht, xv_val, xv_sI, xv_up_self]) (fun i hi => ?_)
      simp [xv_sI, xv_up_ne _ _ _ _ hi]
  · rw [if_neg h] at hh
    cases hh
theorem xv_putZ {ci j index N r : Nat} {v : Int} {C : String} {TT : u_T} {ty0 : Nat → FieldType} {f : xv_M → Option T} (hY : xv_ok Y cc Ts own) (hd : decode cc pc = .ok (.putfield index, 3)) (hp : pc + 3 = pc') (hc : vwCl[ci]? = some (C, TT, N)) (hN : N = xv_N ci) (hci : ci < 13) (hin : ∀ w ∈ u_ws C TT N, w ∈ Ts) (hj : j < N) (ht : xv_ty ci j = 0) (hl9 : Cond.fieldLink own index (TT j).1 (TT j).2.1 (TT j).2.2.1 ∈ Ts)
    (hty : ∀ k, k < N → parseFieldDescriptor (TT k).2.2.1 = some (ty0 k)) (hnm : ∀ a, a < N → ∀ b, b < N → a ≠ b → (TT a).2.1 ≠ (TT b).2.1) (hfin : (TT j).2.2.2 = false ∨ ((TT j).2.2.2 = true ∧ Y.2.1.2.2.2.1.name = "<init>" ∧ (TT j).1 = own)) (h9 : ty0 j = .boolean) (k : ∀ M' : xv_M, xv_D Y ce sl Q tg pc' L st M' (f M')) : xv_D Y ce sl Q tg pc L (xi v :: xr r :: st) M (xv_pZ M ci r j v f) := by
  subst hp
  intro hh
  unfold xv_pZ at hh
  by_cases h : (xv_kd M r).1 = ci ∧ (v = 0 ∨ v = 1)
  · rw [if_pos h] at hh
    refine xv_putG (M' := xv_sI M r j v) hY hd hc hN hci hin hj hl9 hty hnm hfin (by rw [h9]; rcases h.2 with rfl | rfl <;> rfl) (by rw [h9]; rcases h.2 with rfl | rfl <;> rfl) h.1 rfl (fun i hi => ?_) ?_ (k _ hh)
    · simp [xv_sI, xv_up_row _ _ _ hi]
    · refine xv_fs_set (by rw [← hN]; exact hj) (by simp [xv_sv, ht, xv_val, xv_sI, xv_up_self]) (fun i hi => ?_)
      simp [xv_sI, xv_up_ne _ _ _ _ hi]
  · rw [if_neg h] at hh
    cases hh
theorem xv_putJ {ci j index N r : Nat} {v : Int64} {C : String} {TT : u_T} {ty0 : Nat → FieldType} {f : xv_M → Option T} (hY : xv_ok Y cc Ts own) (hd : decode cc pc = .ok (.putfield index, 3)) (hp : pc + 3 = pc') (hc : vwCl[ci]? = some (C, TT, N)) (hN : N = xv_N ci) (hci : ci < 13) (hin : ∀ w ∈ u_ws C TT N, w ∈ Ts) (hj : j < N) (ht : xv_ty ci j = 1) (hl9 : Cond.fieldLink own index (TT j).1 (TT j).2.1 (TT j).2.2.1 ∈ Ts)
    (hty : ∀ k, k < N → parseFieldDescriptor (TT k).2.2.1 = some (ty0 k)) (hnm : ∀ a, a < N → ∀ b, b < N → a ≠ b → (TT a).2.1 ≠ (TT b).2.1) (hfin : (TT j).2.2.2 = false ∨ ((TT j).2.2.2 = true ∧ Y.2.1.2.2.2.1.name = "<init>" ∧ (TT j).1 = own)) (h9 : ty0 j = .long) (k : ∀ M' : xv_M, xv_D Y ce sl Q tg pc' L st M' (f M')) : xv_D Y ce sl Q tg pc L (xl v :: xr r :: st) M (xv_pJ M ci r j v f) := by
  subst hp
  intro hh
  unfold xv_pJ at hh
  by_cases h : (xv_kd M r).1 = ci
  · rw [if_pos h] at hh
    refine xv_putG (M' := xv_sJ M r j v) hY hd hc hN hci hin hj hl9 hty hnm hfin (by rw [h9]; rfl) (by rw [h9]; rfl) h rfl (fun i hi => ?_) ?_ (k _ hh)
    · simp [xv_sJ, xv_up_row _ _ _ hi]
    · refine xv_fs_set (by rw [← hN]; exact hj) (by simp [xv_sv, ht, xv_val, xv_sJ, xv_up_self]) (fun i hi => ?_)
      simp [xv_sJ, xv_up_ne _ _ _ _ hi]
  · rw [if_neg h] at hh
    cases hh
theorem xv_putP {ci j index N r : Nat} {v : Nat} {C : String} {TT : u_T} {ty0 : Nat → FieldType} {f : xv_M → Option T} (hY : xv_ok Y cc Ts own) (hd : decode cc pc = .ok (.putfield index, 3)) (hp : pc + 3 = pc') (hc : vwCl[ci]? = some (C, TT, N)) (hN : N = xv_N ci) (hci : ci < 13) (hin : ∀ w ∈ u_ws C TT N, w ∈ Ts) (hj : j < N) (ht : xv_ty ci j = 2) (hl9 : Cond.fieldLink own index (TT j).1 (TT j).2.1 (TT j).2.2.1 ∈ Ts)
    (hty : ∀ k, k < N → parseFieldDescriptor (TT k).2.2.1 = some (ty0 k)) (hnm : ∀ a, a < N → ∀ b, b < N → a ≠ b → (TT a).2.1 ≠ (TT b).2.1) (hfin : (TT j).2.2.2 = false ∨ ((TT j).2.2.2 = true ∧ Y.2.1.2.2.2.1.name = "<init>" ∧ (TT j).1 = own)) (h9 : (∃ n, ty0 j = .object n) ∨ ∃ t, ty0 j = .array t) (k : ∀ M' : xv_M, xv_D Y ce sl Q tg pc' L st M' (f M')) : xv_D Y ce sl Q tg pc L (xr v :: xr r :: st) M (xv_pP M ci r j v f) := by
  subst hp
  intro hh
  unfold xv_pP at hh
  by_cases h : (xv_kd M r).1 = ci
  · rw [if_pos h] at hh
    refine xv_putG (M' := xv_sP M r j v) hY hd hc hN hci hin hj hl9 hty hnm hfin (by rcases h9 with ⟨n, h9⟩ | ⟨t, h9⟩ <;> rw [h9] <;> simp only [xv_val] <;> by_cases h3 : v = 0 <;> first | (subst h3; rfl) | (rw [xv_r_s h3]; rfl)) (by rcases h9 with ⟨n, h9⟩ | ⟨t, h9⟩ <;> rw [h9] <;> simp only [xv_val] <;> by_cases h3 : v = 0 <;> first | (subst h3; rfl) | (rw [xv_r_s h3]; rfl)) h rfl (fun i hi => ?_) ?_ (k _ hh)
    · simp [xv_sP, xv_up_row _ _ _ hi]
    · refine xv_fs_set (by rw [← hN]; exact hj) (by simp [xv_sv, ht, xv_val, xv_sP, xv_up_self]) (fun i hi => ?_)
      simp [xv_sP, xv_up_ne _ _ _ _ hi]
  · rw [if_neg h] at hh
    cases hh
theorem xv_iald {r : Nat} {i : Int} {f : Int → Option T} (hY : xv_ok Y cc Ts own) (hd : decode cc pc = .ok (.iaload, 1)) (hp : pc + 1 = pc') (k : ∀ x : Int, xv_D Y ce sl Q tg pc' L (xi x :: st) M (f x)) : xv_D Y ce sl Q tg pc L (xi i :: xr r :: st) M (xv_aI M 14 r i f) := by
  subst hp
  obtain ⟨⟨p, l, e, R, s⟩, ⟨m, args, below, meth, c⟩, Dm, cy, b, nL, fl⟩ := Y
  intro hh H locs ls hP hz hS hl
  unfold xv_aI at hh
  by_cases h : xv_abb M 14 r i = true
  · rw [if_pos h] at hh
    have ha := xv_abb_ab h
    obtain ⟨h0, he⟩ := xv_arI (b := b) (cy := cy) ha.1 (by decide)
    obtain ⟨hx, hn⟩ := xv_ab_ix ha
    simp only [List.map_cons, xv_val]
    rw [xv_r_s h0]
    refine va_iald hY.1 hY.2.1 hY.2.2.2.2.2.1.1 hP (r - 1) 1 he rfl hx hd ?_
    rw [hn]
    exact k _ hh H locs ls hP hz hS hl
  · rw [if_neg h] at hh
    cases hh
theorem xv_cald {r : Nat} {i : Int} {f : Int → Option T} (hY : xv_ok Y cc Ts own) (hd : decode cc pc = .ok (.caload, 1)) (hp : pc + 1 = pc') (k : ∀ x : Int, xv_D Y ce sl Q tg pc' L (xi x :: st) M (f x)) : xv_D Y ce sl Q tg pc L (xi i :: xr r :: st) M (xv_aI M 13 r i f) := by
  subst hp
  obtain ⟨⟨p, l, e, R, s⟩, ⟨m, args, below, meth, c⟩, Dm, cy, b, nL, fl⟩ := Y
  intro hh H locs ls hP hz hS hl
  unfold xv_aI at hh
  by_cases h : xv_abb M 13 r i = true
  · rw [if_pos h] at hh
    have ha := xv_abb_ab h
    obtain ⟨h0, he⟩ := xv_arI (b := b) (cy := cy) ha.1 (by decide)
    obtain ⟨hx, hn⟩ := xv_ab_ix ha
    simp only [List.map_cons, xv_val]
    rw [xv_r_s h0]
    refine va_cald hY.1 hY.2.1 hY.2.2.2.2.2.1.1 hP (r - 1) 0 he rfl hx hd ?_
    rw [hn]
    exact k _ hh H locs ls hP hz hS hl
  · rw [if_neg h] at hh
    cases hh
theorem xv_zald {r : Nat} {i : Int} {f : Int → Option T} (hY : xv_ok Y cc Ts own) (hd : decode cc pc = .ok (.baload, 1)) (hp : pc + 1 = pc') (k : ∀ x : Int, xv_D Y ce sl Q tg pc' L (xi x :: st) M (f x)) : xv_D Y ce sl Q tg pc L (xi i :: xr r :: st) M (xv_aI M 16 r i f) := by
  subst hp
  obtain ⟨⟨p, l, e, R, s⟩, ⟨m, args, below, meth, c⟩, Dm, cy, b, nL, fl⟩ := Y
  intro hh H locs ls hP hz hS hl
  unfold xv_aI at hh
  by_cases h : xv_abb M 16 r i = true
  · rw [if_pos h] at hh
    have ha := xv_abb_ab h
    obtain ⟨h0, he⟩ := xv_arI (b := b) (cy := cy) ha.1 (by decide)
    obtain ⟨hx, hn⟩ := xv_ab_ix ha
    simp only [List.map_cons, xv_val]
    rw [xv_r_s h0]
    refine va_zald hY.1 hY.2.1 hY.2.2.2.2.2.1.1 hP (r - 1) 3 he rfl hx hd ?_
    rw [hn]
    exact k _ hh H locs ls hP hz hS hl
  · rw [if_neg h] at hh
    cases hh
theorem xv_lald {r : Nat} {i : Int} {f : Int64 → Option T} (hY : xv_ok Y cc Ts own) (hd : decode cc pc = .ok (.laload, 1)) (hp : pc + 1 = pc') (k : ∀ x : Int64, xv_D Y ce sl Q tg pc' L (xl x :: st) M (f x)) : xv_D Y ce sl Q tg pc L (xi i :: xr r :: st) M (xv_aJ M r i f) := by
  subst hp
  obtain ⟨⟨p, l, e, R, s⟩, ⟨m, args, below, meth, c⟩, Dm, cy, b, nL, fl⟩ := Y
  intro hh H locs ls hP hz hS hl
  unfold xv_aJ at hh
  by_cases h : xv_abb M 15 r i = true
  · rw [if_pos h] at hh
    have ha := xv_abb_ab h
    obtain ⟨h0, he⟩ := xv_arJ (b := b) (cy := cy) ha.1
    obtain ⟨hx, hn⟩ := xv_ab_ix ha
    simp only [List.map_cons, xv_val]
    rw [xv_r_s h0]
    refine va_lald hY.1 hY.2.1 hY.2.2.2.2.2.1.1 hP (r - 1) 2 he rfl hx hd ?_
    rw [hn]
    exact k _ hh H locs ls hP hz hS hl
  · rw [if_neg h] at hh
    cases hh
theorem xv_aaldS {r : Nat} {i : Int} {f : Nat → Option T} (hY : xv_ok Y cc Ts own) (hd : decode cc pc = .ok (.aaload, 1)) (hp : pc + 1 = pc') (k : ∀ x : Nat, xv_D Y ce sl Q tg pc' L (xr x :: st) M (f x)) : xv_D Y ce sl Q tg pc L (xi i :: xr r :: st) M (xv_aP M 17 r i f) := by
  subst hp
  obtain ⟨⟨p, l, e, R, s⟩, ⟨m, args, below, meth, c⟩, Dm, cy, b, nL, fl⟩ := Y
  intro hh H locs ls hP hz hS hl
  unfold xv_aP at hh
  by_cases h : xv_abb M 17 r i = true
  · rw [if_pos h] at hh
    have ha := xv_abb_ab h
    obtain ⟨h0, he⟩ := xv_arP (b := b) (cy := cy) ha.1 (by decide)
    obtain ⟨hx, hn⟩ := xv_ab_ix ha
    simp only [List.map_cons, xv_val]
    rw [xv_r_s h0]
    have hlt : (Int32.ofInt i).toNatClampNeg < (xv_kd M r).2 := Nat.not_le.mp fun q => hx (Or.inr q)
    refine W.aald (v := va_rf (xv_R b (M.2.2.2 r (Int32.ofInt i).toNatClampNeg))) (ty := .object "MiddleSpans$State") hY.1 hY.2.1 (hP (r - 1) _ he) ((hY.2.2.2.2.2.1.1.2 4 _ rfl).1 (xv_kd M r).2 (fun j => va_rf (xv_R b (M.2.2.2 r j)))) rfl (fun q => by cases q) (by show ¬ (_ < 0 ∨ (arrV _ _ _).slots.size ≤ _); rw [arrV_size]; exact hx) (by show (arrV _ _ _).slots[_]? = _; rw [arrV_read _ _ hlt]) rfl rfl hd ?_
    rw [hn]
    exact k _ hh H locs ls hP hz hS hl
  · rw [if_neg h] at hh
    cases hh
theorem xv_aaldI {r : Nat} {i : Int} {f : Nat → Option T} (hY : xv_ok Y cc Ts own) (hd : decode cc pc = .ok (.aaload, 1)) (hp : pc + 1 = pc') (k : ∀ x : Nat, xv_D Y ce sl Q tg pc' L (xr x :: st) M (f x)) : xv_D Y ce sl Q tg pc L (xi i :: xr r :: st) M (xv_aP M 18 r i f) := by
  subst hp
  obtain ⟨⟨p, l, e, R, s⟩, ⟨m, args, below, meth, c⟩, Dm, cy, b, nL, fl⟩ := Y
  intro hh H locs ls hP hz hS hl
  unfold xv_aP at hh
  by_cases h : xv_abb M 18 r i = true
  · rw [if_pos h] at hh
    have ha := xv_abb_ab h
    obtain ⟨h0, he⟩ := xv_arP (b := b) (cy := cy) ha.1 (by decide)
    obtain ⟨hx, hn⟩ := xv_ab_ix ha
    simp only [List.map_cons, xv_val]
    rw [xv_r_s h0]
    have hlt : (Int32.ofInt i).toNatClampNeg < (xv_kd M r).2 := Nat.not_le.mp fun q => hx (Or.inr q)
    refine W.aald (v := va_rf (xv_R b (M.2.2.2 r (Int32.ofInt i).toNatClampNeg))) (ty := .array .int) hY.1 hY.2.1 (hP (r - 1) _ he) ((hY.2.2.2.2.2.1.1.2 5 _ rfl).1 (xv_kd M r).2 (fun j => va_rf (xv_R b (M.2.2.2 r j)))) rfl (fun q => by cases q) (by show ¬ (_ < 0 ∨ (arrV _ _ _).slots.size ≤ _); rw [arrV_size]; exact hx) (by show (arrV _ _ _).slots[_]? = _; rw [arrV_read _ _ hlt]) rfl rfl hd ?_
    rw [hn]
    exact k _ hh H locs ls hP hz hS hl
  · rw [if_neg h] at hh
    cases hh
theorem xv_iast {r : Nat} {i v : Int} {f : xv_M → Option T} (hY : xv_ok Y cc Ts own) (hfl : Y.2.2.2.2.2.2 = false) (hd : decode cc pc = .ok (.iastore, 1)) (hp : pc + 1 = pc') (k : ∀ M' : xv_M, xv_D Y ce sl Q tg pc' L st M' (f M')) : xv_D Y ce sl Q tg pc L (xi v :: xi i :: xr r :: st) M (xv_wI M r i v f) := by
  subst hp
  obtain ⟨⟨p, l, e, R, s⟩, ⟨m, args, below, meth, c⟩, Dm, cy, b, nL, fl⟩ := Y
  intro hh H locs ls hP hz hS hl
  unfold xv_wI at hh
  by_cases h : xv_abb M 14 r i = true
  · rw [if_pos h] at hh
    have ha := xv_abb_ab h
    obtain ⟨h0, he⟩ := xv_arI (b := b) (cy := cy) ha.1 (by decide)
    obtain ⟨hx, hn⟩ := xv_ab_ix ha
    simp only [List.map_cons, xv_val]
    rw [xv_r_s h0]
    refine va_iast hY.1 hY.2.1 hY.2.2.2.2.2.1.1 hP xv_W_D hS (r - 1) 1 he rfl hx hd (fun H1 locs1 hP1 hD1 hS1 => ?_)
    refine k _ hh H1 locs1 ls ?_ (fun q => by rw [show fl = false from hfl] at q; cases q) hS1 hl
    rw [hn] at hP1
    have hset : (xv_W b cy M).set (r - 1) (b + r, .inl (cy 14, (xv_kd M r).2, .inl (upd (fun j => Int32.ofInt (M.2.1 r j)) i.toNat (Int32.ofInt v)))) = xv_W b cy (xv_sI M r i.toNat v) := by
      refine xv_W_set (by have := ha.1; omega) rfl ?_ (fun j hj => by simp [xv_sI, xv_up_row _ _ _ hj])
      unfold xv_E
      rw [if_neg (by have := ha.1; omega), if_neg (by have := ha.1; omega), if_neg (by have := ha.1; omega), ha.1]
      congr 4
      funext j
      by_cases hj : j = i.toNat <;> simp [upd, xv_sI, xv_up, hj]
    show va_P Dm vwCl (xv_W b cy (xv_sI M r i.toNat v)) H1
    rw [← hset]
    exact hP1
  · rw [if_neg h] at hh
    cases hh
theorem xv_zast {r : Nat} {i v : Int} {f : xv_M → Option T} (hY : xv_ok Y cc Ts own) (hfl : Y.2.2.2.2.2.2 = false) (hd : decode cc pc = .ok (.bastore, 1)) (hp : pc + 1 = pc') (k : ∀ M' : xv_M, xv_D Y ce sl Q tg pc' L st M' (f M')) : xv_D Y ce sl Q tg pc L (xi v :: xi i :: xr r :: st) M (xv_wZ M r i v f) := by
  subst hp
  obtain ⟨⟨p, l, e, R, s⟩, ⟨m, args, below, meth, c⟩, Dm, cy, b, nL, fl⟩ := Y
  intro hh H locs ls hP hz hS hl
  unfold xv_wZ at hh
  by_cases h : xv_abb M 16 r i = true ∧ (v = 0 ∨ v = 1)
  · rw [if_pos h] at hh
    have ha := xv_abb_ab h.1
    obtain ⟨h0, he⟩ := xv_arI (b := b) (cy := cy) ha.1 (by decide)
    obtain ⟨hx, hn⟩ := xv_ab_ix ha
    simp only [List.map_cons, xv_val]
    rw [xv_r_s h0]
    refine va_zast hY.1 hY.2.1 hY.2.2.2.2.2.1.1 hP xv_W_D hS (r - 1) 3 he rfl hx hd (fun H1 locs1 hP1 hD1 hS1 => ?_)
    refine k _ hh H1 locs1 ls ?_ (fun q => by rw [show fl = false from hfl] at q; cases q) hS1 hl
    rw [hn] at hP1
    rw [xv_nar_z h.2] at hP1
    have hset : (xv_W b cy M).set (r - 1) (b + r, .inl (cy 16, (xv_kd M r).2, .inl (upd (fun j => Int32.ofInt (M.2.1 r j)) i.toNat (Int32.ofInt v)))) = xv_W b cy (xv_sI M r i.toNat v) := by
      refine xv_W_set (by have := ha.1; omega) rfl ?_ (fun j hj => by simp [xv_sI, xv_up_row _ _ _ hj])
      unfold xv_E
      rw [if_neg (by have := ha.1; omega), if_neg (by have := ha.1; omega), if_neg (by have := ha.1; omega), ha.1]
      congr 4
      funext j
      by_cases hj : j = i.toNat <;> simp [upd, xv_sI, xv_up, hj]
    show va_P Dm vwCl (xv_W b cy (xv_sI M r i.toNat v)) H1
    rw [← hset]
    exact hP1
  · rw [if_neg h] at hh
    cases hh
theorem xv_cast {r : Nat} {i v : Int} {f : xv_M → Option T} (hY : xv_ok Y cc Ts own) (hfl : Y.2.2.2.2.2.2 = false) (hd : decode cc pc = .ok (.castore, 1)) (hp : pc + 1 = pc') (k : ∀ M' : xv_M, xv_D Y ce sl Q tg pc' L st M' (f M')) : xv_D Y ce sl Q tg pc L (xi v :: xi i :: xr r :: st) M (xv_wC M r i v f) := by
  subst hp
  obtain ⟨⟨p, l, e, R, s⟩, ⟨m, args, below, meth, c⟩, Dm, cy, b, nL, fl⟩ := Y
  intro hh H locs ls hP hz hS hl
  unfold xv_wC at hh
  by_cases h : xv_abb M 13 r i = true ∧ (0 ≤ v ∧ v ≤ 65535)
  · rw [if_pos h] at hh
    have ha := xv_abb_ab h.1
    obtain ⟨h0, he⟩ := xv_arI (b := b) (cy := cy) ha.1 (by decide)
    obtain ⟨hx, hn⟩ := xv_ab_ix ha
    simp only [List.map_cons, xv_val]
    rw [xv_r_s h0]
    refine va_cast hY.1 hY.2.1 hY.2.2.2.2.2.1.1 hP xv_W_D hS (r - 1) 0 he rfl hx hd (fun H1 locs1 hP1 hD1 hS1 => ?_)
    refine k _ hh H1 locs1 ls ?_ (fun q => by rw [show fl = false from hfl] at q; cases q) hS1 hl
    rw [hn] at hP1
    rw [xv_nar_c h.2] at hP1
    have hset : (xv_W b cy M).set (r - 1) (b + r, .inl (cy 13, (xv_kd M r).2, .inl (upd (fun j => Int32.ofInt (M.2.1 r j)) i.toNat (Int32.ofInt v)))) = xv_W b cy (xv_sI M r i.toNat v) := by
      refine xv_W_set (by have := ha.1; omega) rfl ?_ (fun j hj => by simp [xv_sI, xv_up_row _ _ _ hj])
      unfold xv_E
      rw [if_neg (by have := ha.1; omega), if_neg (by have := ha.1; omega), if_neg (by have := ha.1; omega), ha.1]
      congr 4
      funext j
      by_cases hj : j = i.toNat <;> simp [upd, xv_sI, xv_up, hj]
    show va_P Dm vwCl (xv_W b cy (xv_sI M r i.toNat v)) H1
    rw [← hset]
    exact hP1
  · rw [if_neg h] at hh
    cases hh
theorem xv_last {r : Nat} {i : Int} {v : Int64} {f : xv_M → Option T} (hY : xv_ok Y cc Ts own) (hfl : Y.2.2.2.2.2.2 = false) (hd : decode cc pc = .ok (.lastore, 1)) (hp : pc + 1 = pc') (k : ∀ M' : xv_M, xv_D Y ce sl Q tg pc' L st M' (f M')) : xv_D Y ce sl Q tg pc L (xl v :: xi i :: xr r :: st) M (xv_wJ M r i v f) := by
  subst hp
  obtain ⟨⟨p, l, e, R, s⟩, ⟨m, args, below, meth, c⟩, Dm, cy, b, nL, fl⟩ := Y
  intro hh H locs ls hP hz hS hl
  unfold xv_wJ at hh
  by_cases h : xv_abb M 15 r i = true
  · rw [if_pos h] at hh
    have ha := xv_abb_ab h
    obtain ⟨h0, he⟩ := xv_arJ (b := b) (cy := cy) ha.1
    obtain ⟨hx, hn⟩ := xv_ab_ix ha
    simp only [List.map_cons, xv_val]
    rw [xv_r_s h0]
    refine va_last hY.1 hY.2.1 hY.2.2.2.2.2.1.1 hP xv_W_D hS (r - 1) 2 he rfl hx hd (fun H1 locs1 hP1 hD1 hS1 => ?_)
    refine k _ hh H1 locs1 ls ?_ (fun q => by rw [show fl = false from hfl] at q; cases q) hS1 hl
    rw [hn] at hP1
    have hset : (xv_W b cy M).set (r - 1) (b + r, .inl (cy 15, (xv_kd M r).2, .inr (.inl (vp_updL (M.2.2.1 r) i.toNat v)))) = xv_W b cy (xv_sJ M r i.toNat v) := by
      refine xv_W_set (by have := ha.1; omega) rfl ?_ (fun j hj => by simp [xv_sJ, xv_up_row _ _ _ hj])
      unfold xv_E
      rw [if_neg (by have := ha.1; omega), if_pos ha.1]
      congr 5
      funext j
      by_cases hj : j = i.toNat <;> simp [vp_updL, xv_sJ, xv_up, hj]
    show va_P Dm vwCl (xv_W b cy (xv_sJ M r i.toNat v)) H1
    rw [← hset]
    exact hP1
  · rw [if_neg h] at hh
    cases hh
theorem xv_aast {r v : Nat} {i : Int} {f : xv_M → Option T} (hY : xv_ok Y cc Ts own) (hd : decode cc pc = .ok (.aastore, 1)) (hp : pc + 1 = pc') (k : ∀ M' : xv_M, xv_D Y ce sl Q tg pc' L st M' (f M')) : xv_D Y ce sl Q tg pc L (xr v :: xi i :: xr r :: st) M (xv_wP M r i v f) := by
  subst hp
  obtain ⟨⟨p, l, e, R, s⟩, ⟨m, args, below, meth, c⟩, Dm, cy, b, nL, fl⟩ := Y
  intro hh H locs ls hP hz hS hl
  unfold xv_wP at hh
  by_cases h : xv_abb M 17 r i = true ∧ (xv_kd M v).1 = 6
  · rw [if_pos h] at hh
    have ha := xv_abb_ab h.1
    obtain ⟨h0, he⟩ := xv_arP (b := b) (cy := cy) ha.1 (by decide)
    obtain ⟨v0, hv⟩ := xv_obj (b := b) (cy := cy) h.2 (by decide)
    obtain ⟨hx, hn⟩ := xv_ab_ix ha
    have hD : va_D (fun q => b < q) (xv_W b cy M) := xv_W_D
    have hK := hY.2.2.2.2.2.1.1
    simp only [List.map_cons, xv_val]
    rw [xv_r_s h0, xv_r_s v0]
    have hlt : (Int32.ofInt i).toNatClampNeg < (xv_kd M r).2 := Nat.not_le.mp fun q => hx (Or.inr q)
    have hi0 : ¬ (Int32.ofInt i) < 0 := fun q => hx (Or.inl q)
    obtain ⟨r', hr', cellV, g1, g2, g3, -⟩ := hP (v - 1) _ hv
    have hcls := (hK.1 6 _ rfl).2
    obtain ⟨kA, comp, k1, k2, k3, -⟩ := (hK.2 4 _ rfl).2
    have hcomp : comp = Dm.1 6 := Option.some.inj (k3.symm.trans hcls.1)
    subst hcomp
    obtain ⟨kC, hkC, -⟩ := hcls.2
    refine W.aast hY.1 hY.2.1 (hP (r - 1) _ he) (fun q h => by cases h) (fun h => by cases h) k1 k2 rfl hkC ⟨hi0, by show _ < (arrV _ _ _).slots.size; rw [arrV_size]; exact hlt⟩ g1 (fun q h => by rw [g3] at h; cases h) (by rw [g2]; exact hkC) (by rw [g2]; exact va_assign hcls) rfl rfl hd fun H1 e1 z1 oq => ?_
    refine k _ hh H1 _ ls ?_ (fun q => by rw [z1]; exact hz q) (hS.put z1 oq (hD.2 (r - 1) _ he)) hl
    have hset : (xv_W b cy M).set (r - 1) (b + r, .inl (cy 17, (xv_kd M r).2, .inr (.inr (.inr (.inr (va_up (fun j => xv_R b (M.2.2.2 r j)) i.toNat (some (b + v)))))))) = xv_W b cy (xv_sP M r i.toNat v) := by
      refine xv_W_set (by have := ha.1; omega) rfl ?_ (fun j hj => by simp [xv_sP, xv_up_row _ _ _ hj])
      unfold xv_E
      rw [if_neg (by have := ha.1; omega), if_neg (by have := ha.1; omega), if_pos (by have := ha.1; omega), ha.1]
      congr 7
      funext j
      by_cases hj : j = i.toNat
      · subst hj
        simp [va_up, xv_sP, xv_up, xv_R, v0]
      · simp [va_up, xv_sP, xv_up, hj]
    show va_P Dm vwCl (xv_W b cy (xv_sP M r i.toNat v)) H1
    rw [← hset]
    refine hP.set hD he ?_ oq
    show H1[b + r]? = some (vp_cell _ _)
    rw [e1]
    rw [vp_cell_q, vp_cell_q, arrV_store]
    congr 2
    funext q
    rw [hn]
    by_cases hq : q = i.toNat
    · subst hq
      simp [updV, va_up, va_rf]
    · simp [updV, va_up, hq]
  · rw [if_neg h] at hh
    cases hh
theorem xv_alenI {r : Nat} {f : Int → Option T} (hY : xv_ok Y cc Ts own) (hd : decode cc pc = .ok (.arraylength, 1)) (hp : pc + 1 = pc') (k : ∀ x : Int, xv_D Y ce sl Q tg pc' L (xi x :: st) M (f x)) : xv_D Y ce sl Q tg pc L (xr r :: st) M (xv_len M 14 r f) := by
  subst hp
  obtain ⟨⟨p, l, e, R, s⟩, ⟨m, args, below, meth, c⟩, Dm, cy, b, nL, fl⟩ := Y
  intro hh H locs ls hP hz hS hl
  unfold xv_len at hh
  by_cases h : (xv_kd M r).1 = 14
  · rw [if_pos h] at hh
    obtain ⟨h0, he⟩ := xv_arI (b := b) (cy := cy) h (by decide)
    simp only [List.map_cons, xv_val]
    rw [xv_r_s h0]
    refine va_alen (v := Int32.ofInt ((xv_kd M r).2 : Int)) hY.1 hY.2.1 hY.2.2.2.2.2.1.1 hP (r - 1) 1 he rfl (by rw [Int32.ofInt_eq_ofNat]) hd ?_
    exact k _ hh H locs ls hP hz hS hl
  · rw [if_neg h] at hh
    cases hh
theorem xv_alenJ {r : Nat} {f : Int → Option T} (hY : xv_ok Y cc Ts own) (hd : decode cc pc = .ok (.arraylength, 1)) (hp : pc + 1 = pc') (k : ∀ x : Int, xv_D Y ce sl Q tg pc' L (xi x :: st) M (f x)) : xv_D Y ce sl Q tg pc L (xr r :: st) M (xv_len M 15 r f) := by
  subst hp
  obtain ⟨⟨p, l, e, R, s⟩, ⟨m, args, below, meth, c⟩, Dm, cy, b, nL, fl⟩ := Y
  intro hh H locs ls hP hz hS hl
  unfold xv_len at hh
  by_cases h : (xv_kd M r).1 = 15
  · rw [if_pos h] at hh
    obtain ⟨h0, he⟩ := xv_arJ (b := b) (cy := cy) h 
    simp only [List.map_cons, xv_val]
    rw [xv_r_s h0]
    refine va_alen (v := Int32.ofInt ((xv_kd M r).2 : Int)) hY.1 hY.2.1 hY.2.2.2.2.2.1.1 hP (r - 1) 2 he rfl (by rw [Int32.ofInt_eq_ofNat]) hd ?_
    exact k _ hh H locs ls hP hz hS hl
  · rw [if_neg h] at hh
    cases hh
end XH
end
section
/-! ## contracts, calls, ends -/
def xv_Pw (Dm : va_G) (cy : Nat → ClassId) (b : Nat) (fl : Bool) (M : xv_M) (t : State) : Prop := va_P Dm vwCl (xv_W b cy M) t.heap ∧ (fl = true → t.heap.size = b + 1 + M.1.length)
def xv_qI (fl : Bool) (tg : Int × xv_M) (Dm : va_G) (cy : Nat → ClassId) (b : Nat) : Array Value → State → Outcome → State → Prop := va_Qi (fun z (_ : Unit) => z = Int32.ofInt tg.1) (fun _ t => xv_Pw Dm cy b fl tg.2 t) (fun q => b < q)
def xv_qJ (fl : Bool) (tg : Int64 × xv_M) (Dm : va_G) (cy : Nat → ClassId) (b : Nat) : Array Value → State → Outcome → State → Prop := va_Ql (fun z (_ : Unit) => z = tg.1) (fun _ t => xv_Pw Dm cy b fl tg.2 t) (fun q => b < q)
def xv_qP (fl : Bool) (tg : Nat × xv_M) (Dm : va_G) (cy : Nat → ClassId) (b : Nat) : Array Value → State → Outcome → State → Prop := va_Qq (fun z (_ : Unit) => z = xv_R b tg.1) (fun _ t => xv_Pw Dm cy b fl tg.2 t) (fun q => b < q)
def xv_qV (fl : Bool) (tg : Unit × xv_M) (Dm : va_G) (cy : Nat → ClassId) (b : Nat) : Array Value → State → Outcome → State → Prop := va_Qv (fun (_ : Unit) => True) (fun _ t => xv_Pw Dm cy b fl tg.2 t) (fun q => b < q)
def xv_pre (fl : Bool) (av : List xv_v) (M : xv_M) (Dm : va_G) (cy : Nat → ClassId) (b : Nat) : Array Value → State → Prop := va_Pc (av.map (xv_val b)) (fun U => xv_G Dm cy U ∧ xv_Pw Dm cy b fl M U ∧ b < U.heap.size)
/-- a method's contract: from the memory M it comes to the answer's memory -/
def xv_Met (l : Launch) (y : MethodName) (ws : List Cond) (rm : Room) (mc ms : Nat) (fl : Bool) (av : List xv_v) (M : xv_M) (Qc : va_G → (Nat → ClassId) → Nat → Array Value → State → Outcome → State → Prop) : Prop :=
  ∀ (Dm : va_G) (cy : Nat → ClassId) (b : Nat), Met l y ws rm (xv_pre fl av M Dm cy b) (Qc Dm cy b) mc ms (fun q => b < q)
abbrev xv_Qe (Y : xv_Y) (mc ms : Nat) (Qc : va_G → (Nat → ClassId) → Nat → Array Value → State → Outcome → State → Prop) : State → Prop := MQ Y.2.1.2.2.1 (Qc Y.2.2.1 Y.2.2.2.1 Y.2.2.2.2.1) Y.2.1.2.1 Y.1.2.2.2.2 mc ms (fun q => Y.2.2.2.2.1 < q)
theorem xv_enter {T : Type} {l : Launch} {y : MethodName} {ws ws' : List Cond} {rm : Room} {mc ms nL : Nat} {cc : ByteArray} {ret : Option FieldType} {fl : Bool} {av : List xv_v} {M : xv_M} {Qc : va_G → (Nat → ClassId) → Nat → Array Value → State → Outcome → State → Prop} {tg : T} {d : Option T} (hw : ws = Cond.code y cc nL ret :: ws') (hpl : plainName y.cls = true) (hlen : (av.map xv_c).sum ≤ nL) (hdef : d = some tg)
    (body : ∀ Y : xv_Y, xv_ok Y cc ws y.cls → Y.1.2.1 = l → Y.1.2.2.2.1 = rm → Y.2.2.2.2.2.1 = nL → Y.2.2.2.2.2.2 = fl → Y.2.1.2.2.2.1.sig.returnType = ret → Y.2.1.2.2.2.1.name = y.name → xv_D Y 0 0 (xv_Qe Y mc ms Qc) tg 0 (xv_L0 av nL) [] M d) : xv_Met l y ws rm mc ms fl av M Qc := by
  intro Dm cy b
  refine Met.ofW (cc := cc) (maxL := nL) (ret := ret) hpl hw ?_
  intro p e s m args below meth c s₁ B hml hv
  obtain ⟨rfl, hG, hPw, hb⟩ := hv
  have hts := atoms_spec (ws := ws) B.pre
  have hown : s.vm.findClass y.cls = some m.cls := findClass_of_methodNamed B.named
  have hlen2 : (lg_sl (av.map (xv_val b))).length ≤ nL := by rw [xv_sl_len]; exact hlen
  rw [lg_entry_eq]
  exact body ⟨⟨p, l, e, rm, s⟩, ⟨m, (av.map (xv_val b)).toArray, below, meth, c⟩, Dm, cy, b, nL, fl⟩ ⟨B.exec, B.bytes, hml, hown, hts, hG, hb, B.notSynchronized⟩ rfl rfl rfl rfl B.returns (name_of_methodNamed B.named B.method).1 hdef s.heap [] _ hPw.1 hPw.2 va_S.rf (xv_entry b av hlen2)
section XC
variable {T : Type} {Y : xv_Y} {cc : ByteArray} {Ts : List Cond} {own : String} {ce sl : Nat} {Q : State → Prop} {tg : T} {pc pc' : Nat} {L L' : List (Option xv_v)} {st S : List xv_v} {M : xv_M} {d d1 d2 : Option T}

theorem xv_ireti {z : Int} {tg : Int × xv_M} {mc ms : Nat} {fl0 : Bool} (hY : xv_ok Y cc Ts own) (hfl : Y.2.2.2.2.2.2 = fl0) (hd : decode cc pc = .ok (.ireturn, 1)) (hr : Y.2.1.2.2.2.1.sig.returnType = some .int) (hcm : ce ≤ mc) (hsm : sl ≤ ms) : xv_D Y ce sl (xv_Qe Y mc ms (xv_qI fl0 tg)) tg pc L [xi z] M (some (z, M)) := by
  obtain ⟨⟨p, l, e, R, s⟩, ⟨m, args, below, meth, c⟩, Dm, cy, b, nL, fl⟩ := Y
  intro hh H locs ls hP hz hS hl
  cases hh
  have hz2 : fl0 = true → H.size = b + 1 + M.1.length := fun q => hz (hfl.trans q)
  have hlk := hY.2.2.2.2.2.2.2
  refine W.widen hcm hsm ?_
  exact W.iret hY.1 hY.2.1 hr (fun t ht hW => ⟨⟨Int32.ofInt z, (), rfl, rfl, by rw [ht]; exact hP, by rw [ht]; exact hz2⟩, hS.F ht⟩) hS.2.2 hd hlk
theorem xv_lretj {z : Int64} {tg : Int64 × xv_M} {mc ms : Nat} {fl0 : Bool} (hY : xv_ok Y cc Ts own) (hfl : Y.2.2.2.2.2.2 = fl0) (hd : decode cc pc = .ok (.lreturn, 1)) (hr : Y.2.1.2.2.2.1.sig.returnType = some .long) (hcm : ce ≤ mc) (hsm : sl ≤ ms) : xv_D Y ce sl (xv_Qe Y mc ms (xv_qJ fl0 tg)) tg pc L [xl z] M (some (z, M)) := by
  obtain ⟨⟨p, l, e, R, s⟩, ⟨m, args, below, meth, c⟩, Dm, cy, b, nL, fl⟩ := Y
  intro hh H locs ls hP hz hS hl
  cases hh
  have hz2 : fl0 = true → H.size = b + 1 + M.1.length := fun q => hz (hfl.trans q)
  have hlk := hY.2.2.2.2.2.2.2
  refine W.widen hcm hsm ?_
  exact W.lret hY.1 hY.2.1 hr (fun t ht hW => ⟨⟨z, (), rfl, rfl, by rw [ht]; exact hP, by rw [ht]; exact hz2⟩, hS.F ht⟩) hS.2.2 hd hlk
theorem xv_iretz {z : Int} {tg : Int × xv_M} {mc ms : Nat} {fl0 : Bool} (hY : xv_ok Y cc Ts own) (hfl : Y.2.2.2.2.2.2 = fl0) (hd : decode cc pc = .ok (.ireturn, 1)) (hr : Y.2.1.2.2.2.1.sig.returnType = some .boolean) (hcm : ce ≤ mc) (hsm : sl ≤ ms) : xv_D Y ce sl (xv_Qe Y mc ms (xv_qI fl0 tg)) tg pc L [xi z] M (xv_g (z = 0 ∨ z = 1) (some (z, M))) := by
  obtain ⟨⟨p, l, e, R, s⟩, ⟨m, args, below, meth, c⟩, Dm, cy, b, nL, fl⟩ := Y
  intro hh H locs ls hP hz hS hl
  obtain ⟨h01, hh⟩ := xv_g_some hh
  cases hh
  have hz2 : fl0 = true → H.size = b + 1 + M.1.length := fun q => hz (hfl.trans q)
  have hlk := hY.2.2.2.2.2.2.2
  refine W.widen hcm hsm ?_
  exact W.zret hY.1 hY.2.1 hr (by rcases h01 with rfl | rfl <;> rfl) (fun t ht hW => ⟨⟨Int32.ofInt z, (), rfl, rfl, by rw [ht]; exact hP, by rw [ht]; exact hz2⟩, hS.F ht⟩) hS.2.2 hd hlk
theorem xv_aretp {z : Nat} {tg : Nat × xv_M} {mc ms : Nat} {fl0 : Bool} {rt : FieldType} (hY : xv_ok Y cc Ts own) (hfl : Y.2.2.2.2.2.2 = fl0) (hd : decode cc pc = .ok (.areturn, 1)) (hr : Y.2.1.2.2.2.1.sig.returnType = some rt) (hrt : (∃ n, rt = .object n) ∨ ∃ t, rt = .array t) (hcm : ce ≤ mc) (hsm : sl ≤ ms) : xv_D Y ce sl (xv_Qe Y mc ms (xv_qP fl0 tg)) tg pc L [xr z] M (some (z, M)) := by
  obtain ⟨⟨p, l, e, R, s⟩, ⟨m, args, below, meth, c⟩, Dm, cy, b, nL, fl⟩ := Y
  intro hh H locs ls hP hz hS hl
  cases hh
  have hz2 : fl0 = true → H.size = b + 1 + M.1.length := fun q => hz (hfl.trans q)
  have hlk := hY.2.2.2.2.2.2.2
  refine W.widen hcm hsm ?_
  exact W.aret hY.1 hY.2.1 hr hrt (va_rf_or _) (fun t ht hW => ⟨⟨xv_R b z, (), rfl, rfl, by rw [ht]; exact hP, by rw [ht]; exact hz2⟩, hS.F ht⟩) hS.2.2 hd hlk
theorem xv_vretu {tg : Unit × xv_M} {mc ms : Nat} {fl0 : Bool} (hY : xv_ok Y cc Ts own) (hfl : Y.2.2.2.2.2.2 = fl0) (hd : decode cc pc = .ok (.return_, 1)) (hr : Y.2.1.2.2.2.1.sig.returnType = none) (hcm : ce ≤ mc) (hsm : sl ≤ ms) : xv_D Y ce sl (xv_Qe Y mc ms (xv_qV fl0 tg)) tg pc L [] M (some ((), M)) := by
  obtain ⟨⟨p, l, e, R, s⟩, ⟨m, args, below, meth, c⟩, Dm, cy, b, nL, fl⟩ := Y
  intro hh H locs ls hP hz hS hl
  cases hh
  have hz2 : fl0 = true → H.size = b + 1 + M.1.length := fun q => hz (hfl.trans q)
  have hlk := hY.2.2.2.2.2.2.2
  refine W.widen hcm hsm ?_
  exact W.vret hY.1 hY.2.1 hr (fun t ht hW => ⟨⟨(), rfl, trivial, by rw [ht]; exact hP, by rw [ht]; exact hz2⟩, hS.F ht⟩) hS.2.2 hd hlk
theorem xv_call_some {α T : Type} {x : Option (α × xv_M)} {k : α → xv_M → Option T} {t : T} (h : xv_call x k = some t) : ∃ q, x = some q ∧ k q.1 q.2 = some t := by
  unfold xv_call at h
  cases x with
  | none => cases h
  | some q => exact ⟨q, rfl, h⟩
/-- the receiver is an object of the class -/
def xv_rc {α : Type} (M : xv_M) (ci r : Nat) (x : Option α) : Option α := if (xv_kd M r).1 = ci then x else none
theorem xv_rc_some {α : Type} {M : xv_M} {ci r : Nat} {x : Option α} {q : α} (h : xv_rc M ci r x = some q) : (xv_kd M r).1 = ci ∧ x = some q := by
  unfold xv_rc at h
  by_cases hc : (xv_kd M r).1 = ci
  · rw [if_pos hc] at h; exact ⟨hc, h⟩
  · rw [if_neg hc] at h; cases h
theorem xv_blind {fl : Bool} {av : List xv_v} {M : xv_M} {Dm : va_G} {cy : Nat → ClassId} {b : Nat} : FrameBlind (xv_pre fl av M Dm cy b) := by
  intro a U g mk h
  obtain ⟨h1, hG, h2, h3⟩ := h
  exact ⟨h1, ⟨va_K.moved (u := U) (U := U.calling g mk a) (Vm.Alike.refl U.vm) hG.1, fun q hq => va_Nw.same rfl rfl (hG.2.1 q hq), va_AO.moved (u := U) (U := U.calling g mk a) (Vm.Alike.refl U.vm) hG.2.2.1, over_moved (Vm.Alike.refl U.vm) hG.2.2.2⟩, h2, h3⟩
theorem xv_callVI {y : MethodName} {bytes : ByteArray} {maxL mc ms n index : Nat} {ret : Option FieldType} {ws : List Cond} {rm : Room} {av : List xv_v} {f : Int → xv_M → Option T} {C : String} {ci r N : Nat} {TT : u_T} {dy : Option (Int × xv_M)} (hY : xv_ok Y cc Ts own) (hd : decode cc pc = .ok (.invokevirtual index, 3)) (hp : pc + 3 = pc') (hst : S = av.reverse ++ xr r :: st) (hc : vwCl[ci]? = some (C, TT, N)) (hci : ci < 13) (hM : ∀ q, dy = some q → xv_Met Y.1.2.1 y ws rm mc ms Y.2.2.2.2.2.2 (xr r :: av) M (xv_qI Y.2.2.2.2.2.2 q)) (cw : CallW Y.1.2.2.2.1 Y.1.2.2.2.2 Y.2.1.2.1 own C index y bytes maxL ret ws rm mc ms n) (hn : av.length = n) (hrm : (st.map xv_c).sum ≤ 8) (hf : ce + mc ≤ Y.1.2.2.2.1.cells ∧ sl + ms ≤ Y.1.2.2.2.1.slots) (k : ∀ (z : Int) (M' : xv_M), xv_D Y (ce + mc) (sl + ms) Q tg pc' L (xi z :: st) M' (f z M')) : xv_D Y ce sl Q tg pc L S M (xv_call (xv_rc M ci r dy) f) := by
  subst hp
  subst hst
  obtain ⟨⟨p, l, e, R, s⟩, ⟨m, args, below, meth, c⟩, Dm, cy, b, nL, fl⟩ := Y
  intro hh H locs ls hP hz hS hl
  obtain ⟨q, hq, hh⟩ := xv_call_some hh
  obtain ⟨hkd, hq⟩ := xv_rc_some hq
  obtain ⟨h0, he⟩ := xv_obj (b := b) (cy := cy) hkd hci
  have hG := hY.2.2.2.2.2.1
  have hbs : b < s.heap.size := hY.2.2.2.2.2.2.1
  have hA : ∀ q, s.heap.size ≤ q → b < q := fun q h => Nat.lt_of_lt_of_le hbs h
  have hpre : ∀ U : State, U.heap = H → s.WarmedH U.vm → xv_pre fl (xr r :: av) M Dm cy b (((xr r :: av).map (xv_val b)).toArray) U := fun U hU hW => ⟨rfl, hG.moved hW, ⟨by rw [hU]; exact hP, by rw [hU]; exact hz⟩, by rw [hU]; exact Nat.lt_of_lt_of_le hbs hS.1⟩
  have hst2 : (F0 m pc ls ((av.reverse ++ xr r :: st).map (xv_val b))).stack = (av.map (xv_val b)).reverse ++ .ref (b + r) :: st.map (xv_val b) := by
    show (av.reverse ++ xr r :: st).map (xv_val b) = _
    rw [List.map_append, List.map_reverse, List.map_cons]
    show _ ++ xv_r b r :: _ = _
    rw [xv_r_s h0]
  have hpre2 : ∀ U : State, U.heap = H → s.WarmedH U.vm → xv_pre fl (xr r :: av) M Dm cy b ((Value.ref (b + r) :: av.map (xv_val b)).toArray) U := fun U hU hW => by
    have h9 := hpre U hU hW
    rw [List.map_cons] at h9
    rw [show xv_val b (xr r) = .ref (b + r) from xv_r_s h0] at h9
    exact h9
  have hrun := va_runV (e := e) (below := below) (meth := meth) (locs := locs) (g := F0 m pc ls ((av.reverse ++ xr r :: st).map (xv_val b))) (As := av.map (xv_val b)) (rest := st.map (xv_val b)) (b := b + r) ⟨hY.1, hY.2.1, hY.2.2.1, hY.2.2.2.1, hY.2.2.2.2.1⟩ (hM q hq Dm cy b) cw ⟨xv_blind, va_recv hG.1 hP hc he, hpre2⟩ rfl (by rw [List.length_map]; exact hn) hl.1 hst2 (lv_room (by rw [xv_cats]; exact hrm)) hd hf
  refine va_calli hrun hS (fun _ _ h => h) (fun _ h => h) (fun z u t H1 locs1 ht hvm hw hB hz1 hk1 hS1 => ?_)
  subst hw
  exact k q.1 q.2 hh H1 locs1 ls (by rw [← ht]; exact hB.1) (by rw [← ht]; exact hB.2) hS1 hl
theorem xv_callVJ {y : MethodName} {bytes : ByteArray} {maxL mc ms n index : Nat} {ret : Option FieldType} {ws : List Cond} {rm : Room} {av : List xv_v} {f : Int64 → xv_M → Option T} {C : String} {ci r N : Nat} {TT : u_T} {dy : Option (Int64 × xv_M)} (hY : xv_ok Y cc Ts own) (hd : decode cc pc = .ok (.invokevirtual index, 3)) (hp : pc + 3 = pc') (hst : S = av.reverse ++ xr r :: st) (hc : vwCl[ci]? = some (C, TT, N)) (hci : ci < 13) (hM : ∀ q, dy = some q → xv_Met Y.1.2.1 y ws rm mc ms Y.2.2.2.2.2.2 (xr r :: av) M (xv_qJ Y.2.2.2.2.2.2 q)) (cw : CallW Y.1.2.2.2.1 Y.1.2.2.2.2 Y.2.1.2.1 own C index y bytes maxL ret ws rm mc ms n) (hn : av.length = n) (hrm : (st.map xv_c).sum ≤ 8) (hf : ce + mc ≤ Y.1.2.2.2.1.cells ∧ sl + ms ≤ Y.1.2.2.2.1.slots) (k : ∀ (z : Int64) (M' : xv_M), xv_D Y (ce + mc) (sl + ms) Q tg pc' L (xl z :: st) M' (f z M')) : xv_D Y ce sl Q tg pc L S M (xv_call (xv_rc M ci r dy) f) := by
  subst hp
  subst hst
  obtain ⟨⟨p, l, e, R, s⟩, ⟨m, args, below, meth, c⟩, Dm, cy, b, nL, fl⟩ := Y
  intro hh H locs ls hP hz hS hl
  obtain ⟨q, hq, hh⟩ := xv_call_some hh
  obtain ⟨hkd, hq⟩ := xv_rc_some hq
  obtain ⟨h0, he⟩ := xv_obj (b := b) (cy := cy) hkd hci
  have hG := hY.2.2.2.2.2.1
  have hbs : b < s.heap.size := hY.2.2.2.2.2.2.1
  have hA : ∀ q, s.heap.size ≤ q → b < q := fun q h => Nat.lt_of_lt_of_le hbs h
  have hpre : ∀ U : State, U.heap = H → s.WarmedH U.vm → xv_pre fl (xr r :: av) M Dm cy b (((xr r :: av).map (xv_val b)).toArray) U := fun U hU hW => ⟨rfl, hG.moved hW, ⟨by rw [hU]; exact hP, by rw [hU]; exact hz⟩, by rw [hU]; exact Nat.lt_of_lt_of_le hbs hS.1⟩
  have hst2 : (F0 m pc ls ((av.reverse ++ xr r :: st).map (xv_val b))).stack = (av.map (xv_val b)).reverse ++ .ref (b + r) :: st.map (xv_val b) := by
    show (av.reverse ++ xr r :: st).map (xv_val b) = _
    rw [List.map_append, List.map_reverse, List.map_cons]
    show _ ++ xv_r b r :: _ = _
    rw [xv_r_s h0]
  have hpre2 : ∀ U : State, U.heap = H → s.WarmedH U.vm → xv_pre fl (xr r :: av) M Dm cy b ((Value.ref (b + r) :: av.map (xv_val b)).toArray) U := fun U hU hW => by
    have h9 := hpre U hU hW
    rw [List.map_cons] at h9
    rw [show xv_val b (xr r) = .ref (b + r) from xv_r_s h0] at h9
    exact h9
  have hrun := va_runV (e := e) (below := below) (meth := meth) (locs := locs) (g := F0 m pc ls ((av.reverse ++ xr r :: st).map (xv_val b))) (As := av.map (xv_val b)) (rest := st.map (xv_val b)) (b := b + r) ⟨hY.1, hY.2.1, hY.2.2.1, hY.2.2.2.1, hY.2.2.2.2.1⟩ (hM q hq Dm cy b) cw ⟨xv_blind, va_recv hG.1 hP hc he, hpre2⟩ rfl (by rw [List.length_map]; exact hn) hl.1 hst2 (lv_room (by rw [xv_cats]; exact hrm)) hd hf
  refine va_calll hrun hS (fun _ _ h => h) (fun _ h => h) (fun z u t H1 locs1 ht hvm hw hB hz1 hk1 hS1 => ?_)
  subst hw
  exact k q.1 q.2 hh H1 locs1 ls (by rw [← ht]; exact hB.1) (by rw [← ht]; exact hB.2) hS1 hl
theorem xv_callVP {y : MethodName} {bytes : ByteArray} {maxL mc ms n index : Nat} {ret : Option FieldType} {ws : List Cond} {rm : Room} {av : List xv_v} {f : Nat → xv_M → Option T} {C : String} {ci r N : Nat} {TT : u_T} {dy : Option (Nat × xv_M)} (hY : xv_ok Y cc Ts own) (hd : decode cc pc = .ok (.invokevirtual index, 3)) (hp : pc + 3 = pc') (hst : S = av.reverse ++ xr r :: st) (hc : vwCl[ci]? = some (C, TT, N)) (hci : ci < 13) (hM : ∀ q, dy = some q → xv_Met Y.1.2.1 y ws rm mc ms Y.2.2.2.2.2.2 (xr r :: av) M (xv_qP Y.2.2.2.2.2.2 q)) (cw : CallW Y.1.2.2.2.1 Y.1.2.2.2.2 Y.2.1.2.1 own C index y bytes maxL ret ws rm mc ms n) (hn : av.length = n) (hrm : (st.map xv_c).sum ≤ 8) (hf : ce + mc ≤ Y.1.2.2.2.1.cells ∧ sl + ms ≤ Y.1.2.2.2.1.slots) (k : ∀ (z : Nat) (M' : xv_M), xv_D Y (ce + mc) (sl + ms) Q tg pc' L (xr z :: st) M' (f z M')) : xv_D Y ce sl Q tg pc L S M (xv_call (xv_rc M ci r dy) f) := by
  subst hp
  subst hst
  obtain ⟨⟨p, l, e, R, s⟩, ⟨m, args, below, meth, c⟩, Dm, cy, b, nL, fl⟩ := Y
  intro hh H locs ls hP hz hS hl
  obtain ⟨q, hq, hh⟩ := xv_call_some hh
  obtain ⟨hkd, hq⟩ := xv_rc_some hq
  obtain ⟨h0, he⟩ := xv_obj (b := b) (cy := cy) hkd hci
  have hG := hY.2.2.2.2.2.1
  have hbs : b < s.heap.size := hY.2.2.2.2.2.2.1
  have hA : ∀ q, s.heap.size ≤ q → b < q := fun q h => Nat.lt_of_lt_of_le hbs h
  have hpre : ∀ U : State, U.heap = H → s.WarmedH U.vm → xv_pre fl (xr r :: av) M Dm cy b (((xr r :: av).map (xv_val b)).toArray) U := fun U hU hW => ⟨rfl, hG.moved hW, ⟨by rw [hU]; exact hP, by rw [hU]; exact hz⟩, by rw [hU]; exact Nat.lt_of_lt_of_le hbs hS.1⟩
  have hst2 : (F0 m pc ls ((av.reverse ++ xr r :: st).map (xv_val b))).stack = (av.map (xv_val b)).reverse ++ .ref (b + r) :: st.map (xv_val b) := by
    show (av.reverse ++ xr r :: st).map (xv_val b) = _
    rw [List.map_append, List.map_reverse, List.map_cons]
    show _ ++ xv_r b r :: _ = _
    rw [xv_r_s h0]
  have hpre2 : ∀ U : State, U.heap = H → s.WarmedH U.vm → xv_pre fl (xr r :: av) M Dm cy b ((Value.ref (b + r) :: av.map (xv_val b)).toArray) U := fun U hU hW => by
    have h9 := hpre U hU hW
    rw [List.map_cons] at h9
    rw [show xv_val b (xr r) = .ref (b + r) from xv_r_s h0] at h9
    exact h9
  have hrun := va_runV (e := e) (below := below) (meth := meth) (locs := locs) (g := F0 m pc ls ((av.reverse ++ xr r :: st).map (xv_val b))) (As := av.map (xv_val b)) (rest := st.map (xv_val b)) (b := b + r) ⟨hY.1, hY.2.1, hY.2.2.1, hY.2.2.2.1, hY.2.2.2.2.1⟩ (hM q hq Dm cy b) cw ⟨xv_blind, va_recv hG.1 hP hc he, hpre2⟩ rfl (by rw [List.length_map]; exact hn) hl.1 hst2 (lv_room (by rw [xv_cats]; exact hrm)) hd hf
  refine va_callq hrun hS (fun _ _ h => h) (fun _ h => h) (fun z u t H1 locs1 ht hvm hw hB hz1 hk1 hS1 => ?_)
  subst hw
  exact k q.1 q.2 hh H1 locs1 ls (by rw [← ht]; exact hB.1) (by rw [← ht]; exact hB.2) hS1 hl
theorem xv_callVV {y : MethodName} {bytes : ByteArray} {maxL mc ms n index : Nat} {ret : Option FieldType} {ws : List Cond} {rm : Room} {av : List xv_v} {f : Unit → xv_M → Option T} {C : String} {ci r N : Nat} {TT : u_T} {dy : Option (Unit × xv_M)} (hY : xv_ok Y cc Ts own) (hd : decode cc pc = .ok (.invokevirtual index, 3)) (hp : pc + 3 = pc') (hst : S = av.reverse ++ xr r :: st) (hc : vwCl[ci]? = some (C, TT, N)) (hci : ci < 13) (hM : ∀ q, dy = some q → xv_Met Y.1.2.1 y ws rm mc ms Y.2.2.2.2.2.2 (xr r :: av) M (xv_qV Y.2.2.2.2.2.2 q)) (cw : CallW Y.1.2.2.2.1 Y.1.2.2.2.2 Y.2.1.2.1 own C index y bytes maxL ret ws rm mc ms n) (hn : av.length = n) (hrm : (st.map xv_c).sum ≤ 8) (hf : ce + mc ≤ Y.1.2.2.2.1.cells ∧ sl + ms ≤ Y.1.2.2.2.1.slots) (k : ∀ (z : Unit) (M' : xv_M), xv_D Y (ce + mc) (sl + ms) Q tg pc' L (st) M' (f z M')) : xv_D Y ce sl Q tg pc L S M (xv_call (xv_rc M ci r dy) f) := by
  subst hp
  subst hst
  obtain ⟨⟨p, l, e, R, s⟩, ⟨m, args, below, meth, c⟩, Dm, cy, b, nL, fl⟩ := Y
  intro hh H locs ls hP hz hS hl
  obtain ⟨q, hq, hh⟩ := xv_call_some hh
  obtain ⟨hkd, hq⟩ := xv_rc_some hq
  obtain ⟨h0, he⟩ := xv_obj (b := b) (cy := cy) hkd hci
  have hG := hY.2.2.2.2.2.1
  have hbs : b < s.heap.size := hY.2.2.2.2.2.2.1
  have hA : ∀ q, s.heap.size ≤ q → b < q := fun q h => Nat.lt_of_lt_of_le hbs h
  have hpre : ∀ U : State, U.heap = H → s.WarmedH U.vm → xv_pre fl (xr r :: av) M Dm cy b (((xr r :: av).map (xv_val b)).toArray) U := fun U hU hW => ⟨rfl, hG.moved hW, ⟨by rw [hU]; exact hP, by rw [hU]; exact hz⟩, by rw [hU]; exact Nat.lt_of_lt_of_le hbs hS.1⟩
  have hst2 : (F0 m pc ls ((av.reverse ++ xr r :: st).map (xv_val b))).stack = (av.map (xv_val b)).reverse ++ .ref (b + r) :: st.map (xv_val b) := by
    show (av.reverse ++ xr r :: st).map (xv_val b) = _
    rw [List.map_append, List.map_reverse, List.map_cons]
    show _ ++ xv_r b r :: _ = _
    rw [xv_r_s h0]
  have hpre2 : ∀ U : State, U.heap = H → s.WarmedH U.vm → xv_pre fl (xr r :: av) M Dm cy b ((Value.ref (b + r) :: av.map (xv_val b)).toArray) U := fun U hU hW => by
    have h9 := hpre U hU hW
    rw [List.map_cons] at h9
    rw [show xv_val b (xr r) = .ref (b + r) from xv_r_s h0] at h9
    exact h9
  have hrun := va_runV (e := e) (below := below) (meth := meth) (locs := locs) (g := F0 m pc ls ((av.reverse ++ xr r :: st).map (xv_val b))) (As := av.map (xv_val b)) (rest := st.map (xv_val b)) (b := b + r) ⟨hY.1, hY.2.1, hY.2.2.1, hY.2.2.2.1, hY.2.2.2.2.1⟩ (hM q hq Dm cy b) cw ⟨xv_blind, va_recv hG.1 hP hc he, hpre2⟩ rfl (by rw [List.length_map]; exact hn) hl.1 hst2 (lv_room (by rw [xv_cats]; exact hrm)) hd hf
  refine va_callv hrun hS (fun _ _ h => h) (fun _ h => h) (fun u t H1 locs1 ht hvm hw hB hz1 hk1 hS1 => ?_)
  exact k q.1 q.2 hh H1 locs1 ls (by rw [← ht]; exact hB.1) (by rw [← ht]; exact hB.2) hS1 hl
theorem xv_callSI {y : MethodName} {bytes : ByteArray} {maxL mc ms n index : Nat} {ret : Option FieldType} {ws : List Cond} {rm : Room} {av : List xv_v} {f : Int → xv_M → Option T} {dy : Option (Int × xv_M)} (hY : xv_ok Y cc Ts own) (hd : decode cc pc = .ok (.invokestatic index, 3)) (hp : pc + 3 = pc') (hst : S = av.reverse ++ st) (hM : ∀ q, dy = some q → xv_Met Y.1.2.1 y ws rm mc ms Y.2.2.2.2.2.2 (av) M (xv_qI Y.2.2.2.2.2.2 q)) (cw : CallB Y.1.2.2.2.1 Y.1.2.2.2.2 Y.2.1.2.1 own index y bytes maxL ret ws rm mc ms n ∧ (Cond.static y).before Y.2.1.2.1 Y.1.2.2.2.2 = true) (hn : av.length = n) (hrm : (st.map xv_c).sum ≤ 8) (hf : ce + mc ≤ Y.1.2.2.2.1.cells ∧ sl + ms ≤ Y.1.2.2.2.1.slots) (k : ∀ (z : Int) (M' : xv_M), xv_D Y (ce + mc) (sl + ms) Q tg pc' L (xi z :: st) M' (f z M')) : xv_D Y ce sl Q tg pc L S M (xv_call (dy) f) := by
  subst hp
  subst hst
  obtain ⟨⟨p, l, e, R, s⟩, ⟨m, args, below, meth, c⟩, Dm, cy, b, nL, fl⟩ := Y
  intro hh H locs ls hP hz hS hl
  obtain ⟨q, hq, hh⟩ := xv_call_some hh
  have hG := hY.2.2.2.2.2.1
  have hbs : b < s.heap.size := hY.2.2.2.2.2.2.1
  have hA : ∀ q, s.heap.size ≤ q → b < q := fun q h => Nat.lt_of_lt_of_le hbs h
  have hpre : ∀ U : State, U.heap = H → s.WarmedH U.vm → xv_pre fl (av) M Dm cy b (((av).map (xv_val b)).toArray) U := fun U hU hW => ⟨rfl, hG.moved hW, ⟨by rw [hU]; exact hP, by rw [hU]; exact hz⟩, by rw [hU]; exact Nat.lt_of_lt_of_le hbs hS.1⟩
  have hst2 : (F0 m pc ls ((av.reverse ++ st).map (xv_val b))).stack = (av.map (xv_val b)).reverse ++ st.map (xv_val b) := by
    show (av.reverse ++ st).map (xv_val b) = _
    rw [List.map_append, List.map_reverse]
  have hrun := va_runS (e := e) (below := below) (meth := meth) (locs := locs) (g := F0 m pc ls ((av.reverse ++ st).map (xv_val b))) (As := av.map (xv_val b)) (rest := st.map (xv_val b)) ⟨hY.1, hY.2.1, hY.2.2.1, hY.2.2.2.1, hY.2.2.2.2.1⟩ (hM q hq Dm cy b) cw ⟨xv_blind, hpre⟩ rfl (by rw [List.length_map]; exact hn) hl.1 hst2 (lv_room (by rw [xv_cats]; exact hrm)) hd hf
  refine va_calli hrun hS (fun _ _ h => h) (fun _ h => h) (fun z u t H1 locs1 ht hvm hw hB hz1 hk1 hS1 => ?_)
  subst hw
  exact k q.1 q.2 hh H1 locs1 ls (by rw [← ht]; exact hB.1) (by rw [← ht]; exact hB.2) hS1 hl
theorem xv_callSJ {y : MethodName} {bytes : ByteArray} {maxL mc ms n index : Nat} {ret : Option FieldType} {ws : List Cond} {rm : Room} {av : List xv_v} {f : Int64 → xv_M → Option T} {dy : Option (Int64 × xv_M)} (hY : xv_ok Y cc Ts own) (hd : decode cc pc = .ok (.invokestatic index, 3)) (hp : pc + 3 = pc') (hst : S = av.reverse ++ st) (hM : ∀ q, dy = some q → xv_Met Y.1.2.1 y ws rm mc ms Y.2.2.2.2.2.2 (av) M (xv_qJ Y.2.2.2.2.2.2 q)) (cw : CallB Y.1.2.2.2.1 Y.1.2.2.2.2 Y.2.1.2.1 own index y bytes maxL ret ws rm mc ms n ∧ (Cond.static y).before Y.2.1.2.1 Y.1.2.2.2.2 = true) (hn : av.length = n) (hrm : (st.map xv_c).sum ≤ 8) (hf : ce + mc ≤ Y.1.2.2.2.1.cells ∧ sl + ms ≤ Y.1.2.2.2.1.slots) (k : ∀ (z : Int64) (M' : xv_M), xv_D Y (ce + mc) (sl + ms) Q tg pc' L (xl z :: st) M' (f z M')) : xv_D Y ce sl Q tg pc L S M (xv_call (dy) f) := by
  subst hp
  subst hst
  obtain ⟨⟨p, l, e, R, s⟩, ⟨m, args, below, meth, c⟩, Dm, cy, b, nL, fl⟩ := Y
  intro hh H locs ls hP hz hS hl
  obtain ⟨q, hq, hh⟩ := xv_call_some hh
  have hG := hY.2.2.2.2.2.1
  have hbs : b < s.heap.size := hY.2.2.2.2.2.2.1
  have hA : ∀ q, s.heap.size ≤ q → b < q := fun q h => Nat.lt_of_lt_of_le hbs h
  have hpre : ∀ U : State, U.heap = H → s.WarmedH U.vm → xv_pre fl (av) M Dm cy b (((av).map (xv_val b)).toArray) U := fun U hU hW => ⟨rfl, hG.moved hW, ⟨by rw [hU]; exact hP, by rw [hU]; exact hz⟩, by rw [hU]; exact Nat.lt_of_lt_of_le hbs hS.1⟩
  have hst2 : (F0 m pc ls ((av.reverse ++ st).map (xv_val b))).stack = (av.map (xv_val b)).reverse ++ st.map (xv_val b) := by
    show (av.reverse ++ st).map (xv_val b) = _
    rw [List.map_append, List.map_reverse]
  have hrun := va_runS (e := e) (below := below) (meth := meth) (locs := locs) (g := F0 m pc ls ((av.reverse ++ st).map (xv_val b))) (As := av.map (xv_val b)) (rest := st.map (xv_val b)) ⟨hY.1, hY.2.1, hY.2.2.1, hY.2.2.2.1, hY.2.2.2.2.1⟩ (hM q hq Dm cy b) cw ⟨xv_blind, hpre⟩ rfl (by rw [List.length_map]; exact hn) hl.1 hst2 (lv_room (by rw [xv_cats]; exact hrm)) hd hf
  refine va_calll hrun hS (fun _ _ h => h) (fun _ h => h) (fun z u t H1 locs1 ht hvm hw hB hz1 hk1 hS1 => ?_)
  subst hw
  exact k q.1 q.2 hh H1 locs1 ls (by rw [← ht]; exact hB.1) (by rw [← ht]; exact hB.2) hS1 hl
theorem xv_callSV {y : MethodName} {bytes : ByteArray} {maxL mc ms n index : Nat} {ret : Option FieldType} {ws : List Cond} {rm : Room} {av : List xv_v} {f : Unit → xv_M → Option T} {dy : Option (Unit × xv_M)} (hY : xv_ok Y cc Ts own) (hd : decode cc pc = .ok (.invokestatic index, 3)) (hp : pc + 3 = pc') (hst : S = av.reverse ++ st) (hM : ∀ q, dy = some q → xv_Met Y.1.2.1 y ws rm mc ms Y.2.2.2.2.2.2 (av) M (xv_qV Y.2.2.2.2.2.2 q)) (cw : CallB Y.1.2.2.2.1 Y.1.2.2.2.2 Y.2.1.2.1 own index y bytes maxL ret ws rm mc ms n ∧ (Cond.static y).before Y.2.1.2.1 Y.1.2.2.2.2 = true) (hn : av.length = n) (hrm : (st.map xv_c).sum ≤ 8) (hf : ce + mc ≤ Y.1.2.2.2.1.cells ∧ sl + ms ≤ Y.1.2.2.2.1.slots) (k : ∀ (z : Unit) (M' : xv_M), xv_D Y (ce + mc) (sl + ms) Q tg pc' L (st) M' (f z M')) : xv_D Y ce sl Q tg pc L S M (xv_call (dy) f) := by
  subst hp
  subst hst
  obtain ⟨⟨p, l, e, R, s⟩, ⟨m, args, below, meth, c⟩, Dm, cy, b, nL, fl⟩ := Y
  intro hh H locs ls hP hz hS hl
  obtain ⟨q, hq, hh⟩ := xv_call_some hh
  have hG := hY.2.2.2.2.2.1
  have hbs : b < s.heap.size := hY.2.2.2.2.2.2.1
  have hA : ∀ q, s.heap.size ≤ q → b < q := fun q h => Nat.lt_of_lt_of_le hbs h
  have hpre : ∀ U : State, U.heap = H → s.WarmedH U.vm → xv_pre fl (av) M Dm cy b (((av).map (xv_val b)).toArray) U := fun U hU hW => ⟨rfl, hG.moved hW, ⟨by rw [hU]; exact hP, by rw [hU]; exact hz⟩, by rw [hU]; exact Nat.lt_of_lt_of_le hbs hS.1⟩
  have hst2 : (F0 m pc ls ((av.reverse ++ st).map (xv_val b))).stack = (av.map (xv_val b)).reverse ++ st.map (xv_val b) := by
    show (av.reverse ++ st).map (xv_val b) = _
    rw [List.map_append, List.map_reverse]
  have hrun := va_runS (e := e) (below := below) (meth := meth) (locs := locs) (g := F0 m pc ls ((av.reverse ++ st).map (xv_val b))) (As := av.map (xv_val b)) (rest := st.map (xv_val b)) ⟨hY.1, hY.2.1, hY.2.2.1, hY.2.2.2.1, hY.2.2.2.2.1⟩ (hM q hq Dm cy b) cw ⟨xv_blind, hpre⟩ rfl (by rw [List.length_map]; exact hn) hl.1 hst2 (lv_room (by rw [xv_cats]; exact hrm)) hd hf
  refine va_callv hrun hS (fun _ _ h => h) (fun _ h => h) (fun u t H1 locs1 ht hvm hw hB hz1 hk1 hS1 => ?_)
  exact k q.1 q.2 hh H1 locs1 ls (by rw [← ht]; exact hB.1) (by rw [← ht]; exact hB.2) hS1 hl
theorem xv_callSNI {y : MethodName} {bytes : ByteArray} {maxL mc ms n index : Nat} {ret : Option FieldType} {ws : List Cond} {rm : Room} {av : List xv_v} {f : Int → xv_M → Option T} {host : String} {dy : Option (Int × xv_M)} (hY : xv_ok Y cc Ts own) (hd : decode cc pc = .ok (.invokestatic index, 3)) (hp : pc + 3 = pc') (hst : S = av.reverse ++ st) (hM : ∀ q, dy = some q → xv_Met Y.1.2.1 y ws rm mc ms Y.2.2.2.2.2.2 (av) M (xv_qI Y.2.2.2.2.2.2 q)) (cw : va_CN Y.1.2.2.2.1 Y.1.2.2.2.2 Y.2.1.2.1 own index y host bytes maxL ret ws rm mc ms n ∧ (Cond.static y).before Y.2.1.2.1 Y.1.2.2.2.2 = true ∧ True) (hn : av.length = n) (hrm : (st.map xv_c).sum ≤ 8) (hf : ce + mc ≤ Y.1.2.2.2.1.cells ∧ sl + ms ≤ Y.1.2.2.2.1.slots) (k : ∀ (z : Int) (M' : xv_M), xv_D Y (ce + mc) (sl + ms) Q tg pc' L (xi z :: st) M' (f z M')) : xv_D Y ce sl Q tg pc L S M (xv_call (dy) f) := by
  subst hp
  subst hst
  obtain ⟨⟨p, l, e, R, s⟩, ⟨m, args, below, meth, c⟩, Dm, cy, b, nL, fl⟩ := Y
  intro hh H locs ls hP hz hS hl
  obtain ⟨q, hq, hh⟩ := xv_call_some hh
  have hG := hY.2.2.2.2.2.1
  have hbs : b < s.heap.size := hY.2.2.2.2.2.2.1
  have hA : ∀ q, s.heap.size ≤ q → b < q := fun q h => Nat.lt_of_lt_of_le hbs h
  have hpre : ∀ U : State, U.heap = H → s.WarmedH U.vm → xv_pre fl (av) M Dm cy b (((av).map (xv_val b)).toArray) U := fun U hU hW => ⟨rfl, hG.moved hW, ⟨by rw [hU]; exact hP, by rw [hU]; exact hz⟩, by rw [hU]; exact Nat.lt_of_lt_of_le hbs hS.1⟩
  have hst2 : (F0 m pc ls ((av.reverse ++ st).map (xv_val b))).stack = (av.map (xv_val b)).reverse ++ st.map (xv_val b) := by
    show (av.reverse ++ st).map (xv_val b) = _
    rw [List.map_append, List.map_reverse]
  have hrun := va_runSN (e := e) (below := below) (meth := meth) (locs := locs) (g := F0 m pc ls ((av.reverse ++ st).map (xv_val b))) (As := av.map (xv_val b)) (rest := st.map (xv_val b)) ⟨hY.1, hY.2.1, hY.2.2.1, hY.2.2.2.1, hY.2.2.2.2.1⟩ (hM q hq Dm cy b) cw ⟨xv_blind, hpre⟩ rfl (by rw [List.length_map]; exact hn) hl.1 hst2 (lv_room (by rw [xv_cats]; exact hrm)) hd hf
  refine va_calli hrun hS (fun _ _ h => h) (fun _ h => h) (fun z u t H1 locs1 ht hvm hw hB hz1 hk1 hS1 => ?_)
  subst hw
  exact k q.1 q.2 hh H1 locs1 ls (by rw [← ht]; exact hB.1) (by rw [← ht]; exact hB.2) hS1 hl
theorem xv_callSNJ {y : MethodName} {bytes : ByteArray} {maxL mc ms n index : Nat} {ret : Option FieldType} {ws : List Cond} {rm : Room} {av : List xv_v} {f : Int64 → xv_M → Option T} {host : String} {dy : Option (Int64 × xv_M)} (hY : xv_ok Y cc Ts own) (hd : decode cc pc = .ok (.invokestatic index, 3)) (hp : pc + 3 = pc') (hst : S = av.reverse ++ st) (hM : ∀ q, dy = some q → xv_Met Y.1.2.1 y ws rm mc ms Y.2.2.2.2.2.2 (av) M (xv_qJ Y.2.2.2.2.2.2 q)) (cw : va_CN Y.1.2.2.2.1 Y.1.2.2.2.2 Y.2.1.2.1 own index y host bytes maxL ret ws rm mc ms n ∧ (Cond.static y).before Y.2.1.2.1 Y.1.2.2.2.2 = true ∧ True) (hn : av.length = n) (hrm : (st.map xv_c).sum ≤ 8) (hf : ce + mc ≤ Y.1.2.2.2.1.cells ∧ sl + ms ≤ Y.1.2.2.2.1.slots) (k : ∀ (z : Int64) (M' : xv_M), xv_D Y (ce + mc) (sl + ms) Q tg pc' L (xl z :: st) M' (f z M')) : xv_D Y ce sl Q tg pc L S M (xv_call (dy) f) := by
  subst hp
  subst hst
  obtain ⟨⟨p, l, e, R, s⟩, ⟨m, args, below, meth, c⟩, Dm, cy, b, nL, fl⟩ := Y
  intro hh H locs ls hP hz hS hl
  obtain ⟨q, hq, hh⟩ := xv_call_some hh
  have hG := hY.2.2.2.2.2.1
  have hbs : b < s.heap.size := hY.2.2.2.2.2.2.1
  have hA : ∀ q, s.heap.size ≤ q → b < q := fun q h => Nat.lt_of_lt_of_le hbs h
  have hpre : ∀ U : State, U.heap = H → s.WarmedH U.vm → xv_pre fl (av) M Dm cy b (((av).map (xv_val b)).toArray) U := fun U hU hW => ⟨rfl, hG.moved hW, ⟨by rw [hU]; exact hP, by rw [hU]; exact hz⟩, by rw [hU]; exact Nat.lt_of_lt_of_le hbs hS.1⟩
  have hst2 : (F0 m pc ls ((av.reverse ++ st).map (xv_val b))).stack = (av.map (xv_val b)).reverse ++ st.map (xv_val b) := by
    show (av.reverse ++ st).map (xv_val b) = _
    rw [List.map_append, List.map_reverse]
  have hrun := va_runSN (e := e) (below := below) (meth := meth) (locs := locs) (g := F0 m pc ls ((av.reverse ++ st).map (xv_val b))) (As := av.map (xv_val b)) (rest := st.map (xv_val b)) ⟨hY.1, hY.2.1, hY.2.2.1, hY.2.2.2.1, hY.2.2.2.2.1⟩ (hM q hq Dm cy b) cw ⟨xv_blind, hpre⟩ rfl (by rw [List.length_map]; exact hn) hl.1 hst2 (lv_room (by rw [xv_cats]; exact hrm)) hd hf
  refine va_calll hrun hS (fun _ _ h => h) (fun _ h => h) (fun z u t H1 locs1 ht hvm hw hB hz1 hk1 hS1 => ?_)
  subst hw
  exact k q.1 q.2 hh H1 locs1 ls (by rw [← ht]; exact hB.1) (by rw [← ht]; exact hB.2) hS1 hl
theorem xv_callSNV {y : MethodName} {bytes : ByteArray} {maxL mc ms n index : Nat} {ret : Option FieldType} {ws : List Cond} {rm : Room} {av : List xv_v} {f : Unit → xv_M → Option T} {host : String} {dy : Option (Unit × xv_M)} (hY : xv_ok Y cc Ts own) (hd : decode cc pc = .ok (.invokestatic index, 3)) (hp : pc + 3 = pc') (hst : S = av.reverse ++ st) (hM : ∀ q, dy = some q → xv_Met Y.1.2.1 y ws rm mc ms Y.2.2.2.2.2.2 (av) M (xv_qV Y.2.2.2.2.2.2 q)) (cw : va_CN Y.1.2.2.2.1 Y.1.2.2.2.2 Y.2.1.2.1 own index y host bytes maxL ret ws rm mc ms n ∧ (Cond.static y).before Y.2.1.2.1 Y.1.2.2.2.2 = true ∧ True) (hn : av.length = n) (hrm : (st.map xv_c).sum ≤ 8) (hf : ce + mc ≤ Y.1.2.2.2.1.cells ∧ sl + ms ≤ Y.1.2.2.2.1.slots) (k : ∀ (z : Unit) (M' : xv_M), xv_D Y (ce + mc) (sl + ms) Q tg pc' L (st) M' (f z M')) : xv_D Y ce sl Q tg pc L S M (xv_call (dy) f) := by
  subst hp
  subst hst
  obtain ⟨⟨p, l, e, R, s⟩, ⟨m, args, below, meth, c⟩, Dm, cy, b, nL, fl⟩ := Y
  intro hh H locs ls hP hz hS hl
  obtain ⟨q, hq, hh⟩ := xv_call_some hh
  have hG := hY.2.2.2.2.2.1
  have hbs : b < s.heap.size := hY.2.2.2.2.2.2.1
  have hA : ∀ q, s.heap.size ≤ q → b < q := fun q h => Nat.lt_of_lt_of_le hbs h
  have hpre : ∀ U : State, U.heap = H → s.WarmedH U.vm → xv_pre fl (av) M Dm cy b (((av).map (xv_val b)).toArray) U := fun U hU hW => ⟨rfl, hG.moved hW, ⟨by rw [hU]; exact hP, by rw [hU]; exact hz⟩, by rw [hU]; exact Nat.lt_of_lt_of_le hbs hS.1⟩
  have hst2 : (F0 m pc ls ((av.reverse ++ st).map (xv_val b))).stack = (av.map (xv_val b)).reverse ++ st.map (xv_val b) := by
    show (av.reverse ++ st).map (xv_val b) = _
    rw [List.map_append, List.map_reverse]
  have hrun := va_runSN (e := e) (below := below) (meth := meth) (locs := locs) (g := F0 m pc ls ((av.reverse ++ st).map (xv_val b))) (As := av.map (xv_val b)) (rest := st.map (xv_val b)) ⟨hY.1, hY.2.1, hY.2.2.1, hY.2.2.2.1, hY.2.2.2.2.1⟩ (hM q hq Dm cy b) cw ⟨xv_blind, hpre⟩ rfl (by rw [List.length_map]; exact hn) hl.1 hst2 (lv_room (by rw [xv_cats]; exact hrm)) hd hf
  refine va_callv hrun hS (fun _ _ h => h) (fun _ h => h) (fun u t H1 locs1 ht hvm hw hB hz1 hk1 hS1 => ?_)
  exact k q.1 q.2 hh H1 locs1 ls (by rw [← ht]; exact hB.1) (by rw [← ht]; exact hB.2) hS1 hl
theorem xv_callIV {y : MethodName} {bytes : ByteArray} {maxL mc ms n index : Nat} {ret : Option FieldType} {ws : List Cond} {rm : Room} {av : List xv_v} {f : Unit → xv_M → Option T} {r : Nat} {dy : Option (Unit × xv_M)} (hY : xv_ok Y cc Ts own) (hd : decode cc pc = .ok (.invokespecial index, 3)) (hp : pc + 3 = pc') (hst : S = av.reverse ++ xr r :: st) (hM : ∀ q, dy = some q → xv_Met Y.1.2.1 y ws rm mc ms Y.2.2.2.2.2.2 (xr r :: av) M (xv_qV Y.2.2.2.2.2.2 q)) (cw : CallB Y.1.2.2.2.1 Y.1.2.2.2.2 Y.2.1.2.1 own index y bytes maxL none ws rm mc ms n ∧ y.name = "<init>" ∧ (Cond.instanceMethod y).before Y.2.1.2.1 Y.1.2.2.2.2 = true) (hn : av.length = n) (hrm : (st.map xv_c).sum ≤ 8) (hf : ce + mc ≤ Y.1.2.2.2.1.cells ∧ sl + ms ≤ Y.1.2.2.2.1.slots) (k : ∀ (z : Unit) (M' : xv_M), xv_D Y (ce + mc) (sl + ms) Q tg pc' L (st) M' (f z M')) : xv_D Y ce sl Q tg pc L S M (xv_call (xv_g (r ≠ 0) dy) f) := by
  subst hp
  subst hst
  obtain ⟨⟨p, l, e, R, s⟩, ⟨m, args, below, meth, c⟩, Dm, cy, b, nL, fl⟩ := Y
  intro hh H locs ls hP hz hS hl
  obtain ⟨q, hq, hh⟩ := xv_call_some hh
  obtain ⟨h0, hq⟩ := xv_g_some hq
  have hG := hY.2.2.2.2.2.1
  have hbs : b < s.heap.size := hY.2.2.2.2.2.2.1
  have hA : ∀ q, s.heap.size ≤ q → b < q := fun q h => Nat.lt_of_lt_of_le hbs h
  have hpre : ∀ U : State, U.heap = H → s.WarmedH U.vm → xv_pre fl (xr r :: av) M Dm cy b (((xr r :: av).map (xv_val b)).toArray) U := fun U hU hW => ⟨rfl, hG.moved hW, ⟨by rw [hU]; exact hP, by rw [hU]; exact hz⟩, by rw [hU]; exact Nat.lt_of_lt_of_le hbs hS.1⟩
  have hst2 : (F0 m pc ls ((av.reverse ++ xr r :: st).map (xv_val b))).stack = (av.map (xv_val b)).reverse ++ .ref (b + r) :: st.map (xv_val b) := by
    show (av.reverse ++ xr r :: st).map (xv_val b) = _
    rw [List.map_append, List.map_reverse, List.map_cons]
    show _ ++ xv_r b r :: _ = _
    rw [xv_r_s h0]
  have hpre2 : ∀ U : State, U.heap = H → s.WarmedH U.vm → xv_pre fl (xr r :: av) M Dm cy b ((Value.ref (b + r) :: av.map (xv_val b)).toArray) U := fun U hU hW => by
    have h9 := hpre U hU hW
    rw [List.map_cons] at h9
    rw [show xv_val b (xr r) = .ref (b + r) from xv_r_s h0] at h9
    exact h9
  have hrun := va_runI (e := e) (below := below) (meth := meth) (locs := locs) (g := F0 m pc ls ((av.reverse ++ xr r :: st).map (xv_val b))) (As := av.map (xv_val b)) (rest := st.map (xv_val b)) (b := b + r) ⟨hY.1, hY.2.1, hY.2.2.1, hY.2.2.2.1, hY.2.2.2.2.1⟩ (hM q hq Dm cy b) cw ⟨xv_blind, hpre2⟩ rfl (by rw [List.length_map]; exact hn) hl.1 hst2 (lv_room (by rw [xv_cats]; exact hrm)) hd hf
  refine va_callv hrun hS (fun _ _ h => h) (fun _ h => h) (fun u t H1 locs1 ht hvm hw hB hz1 hk1 hS1 => ?_)
  exact k q.1 q.2 hh H1 locs1 ls (by rw [← ht]; exact hB.1) (by rw [← ht]; exact hB.2) hS1 hl
theorem xv_callINV {y : MethodName} {bytes : ByteArray} {maxL mc ms n index : Nat} {ret : Option FieldType} {ws : List Cond} {rm : Room} {av : List xv_v} {f : Unit → xv_M → Option T} {host : String} {r : Nat} {dy : Option (Unit × xv_M)} (hY : xv_ok Y cc Ts own) (hd : decode cc pc = .ok (.invokespecial index, 3)) (hp : pc + 3 = pc') (hst : S = av.reverse ++ xr r :: st) (hM : ∀ q, dy = some q → xv_Met Y.1.2.1 y ws rm mc ms Y.2.2.2.2.2.2 (xr r :: av) M (xv_qV Y.2.2.2.2.2.2 q)) (cw : va_CN Y.1.2.2.2.1 Y.1.2.2.2.2 Y.2.1.2.1 own index y host bytes maxL none ws rm mc ms n ∧ y.name = "<init>" ∧ (Cond.instanceMethod y).before Y.2.1.2.1 Y.1.2.2.2.2 = true) (hn : av.length = n) (hrm : (st.map xv_c).sum ≤ 8) (hf : ce + mc ≤ Y.1.2.2.2.1.cells ∧ sl + ms ≤ Y.1.2.2.2.1.slots) (k : ∀ (z : Unit) (M' : xv_M), xv_D Y (ce + mc) (sl + ms) Q tg pc' L (st) M' (f z M')) : xv_D Y ce sl Q tg pc L S M (xv_call (xv_g (r ≠ 0) dy) f) := by
  subst hp
  subst hst
  obtain ⟨⟨p, l, e, R, s⟩, ⟨m, args, below, meth, c⟩, Dm, cy, b, nL, fl⟩ := Y
  intro hh H locs ls hP hz hS hl
  obtain ⟨q, hq, hh⟩ := xv_call_some hh
  obtain ⟨h0, hq⟩ := xv_g_some hq
  have hG := hY.2.2.2.2.2.1
  have hbs : b < s.heap.size := hY.2.2.2.2.2.2.1
  have hA : ∀ q, s.heap.size ≤ q → b < q := fun q h => Nat.lt_of_lt_of_le hbs h
  have hpre : ∀ U : State, U.heap = H → s.WarmedH U.vm → xv_pre fl (xr r :: av) M Dm cy b (((xr r :: av).map (xv_val b)).toArray) U := fun U hU hW => ⟨rfl, hG.moved hW, ⟨by rw [hU]; exact hP, by rw [hU]; exact hz⟩, by rw [hU]; exact Nat.lt_of_lt_of_le hbs hS.1⟩
  have hst2 : (F0 m pc ls ((av.reverse ++ xr r :: st).map (xv_val b))).stack = (av.map (xv_val b)).reverse ++ .ref (b + r) :: st.map (xv_val b) := by
    show (av.reverse ++ xr r :: st).map (xv_val b) = _
    rw [List.map_append, List.map_reverse, List.map_cons]
    show _ ++ xv_r b r :: _ = _
    rw [xv_r_s h0]
  have hpre2 : ∀ U : State, U.heap = H → s.WarmedH U.vm → xv_pre fl (xr r :: av) M Dm cy b ((Value.ref (b + r) :: av.map (xv_val b)).toArray) U := fun U hU hW => by
    have h9 := hpre U hU hW
    rw [List.map_cons] at h9
    rw [show xv_val b (xr r) = .ref (b + r) from xv_r_s h0] at h9
    exact h9
  have hrun := va_runIN (e := e) (below := below) (meth := meth) (locs := locs) (g := F0 m pc ls ((av.reverse ++ xr r :: st).map (xv_val b))) (As := av.map (xv_val b)) (rest := st.map (xv_val b)) (b := b + r) ⟨hY.1, hY.2.1, hY.2.2.1, hY.2.2.2.1, hY.2.2.2.2.1⟩ (hM q hq Dm cy b) cw ⟨xv_blind, hpre2⟩ rfl (by rw [List.length_map]; exact hn) hl.1 hst2 (lv_room (by rw [xv_cats]; exact hrm)) hd hf
  refine va_callv hrun hS (fun _ _ h => h) (fun _ h => h) (fun u t H1 locs1 ht hvm hw hB hz1 hk1 hS1 => ?_)
  exact k q.1 q.2 hh H1 locs1 ls (by rw [← ht]; exact hB.1) (by rw [← ht]; exact hB.2) hS1 hl
end XC
end
section
/-! ## what is made new; arraycopy; Math -/
def xv_nw {T : Type} (M : xv_M) (k : Nat × Nat) (f : Nat → xv_M → Option T) : Option T := f (M.1.length + 1) (xv_new M k)
def xv_cpI {T : Type} (M : xv_M) (r0 : Nat) (sp : Int) (r1 : Nat) (dp n : Int) (f : xv_M → Option T) : Option T := if (xv_kd M r0).1 = 14 ∧ (xv_kd M r1).1 = 14 ∧ 0 ≤ sp ∧ 0 ≤ dp ∧ 0 ≤ n ∧ sp + n ≤ ((xv_kd M r0).2 : Int) ∧ dp + n ≤ ((xv_kd M r1).2 : Int) ∧ sp ≤ 1000000 ∧ dp ≤ 1000000 ∧ n ≤ 1000000 then f (xv_rI M r1 (va_cpy (xv_I M r0) (xv_I M r1) sp.toNat dp.toNat n.toNat)) else none
def xv_cpJ {T : Type} (M : xv_M) (r0 : Nat) (sp : Int) (r1 : Nat) (dp n : Int) (f : xv_M → Option T) : Option T := if (xv_kd M r0).1 = 15 ∧ (xv_kd M r1).1 = 15 ∧ 0 ≤ sp ∧ 0 ≤ dp ∧ 0 ≤ n ∧ sp + n ≤ ((xv_kd M r0).2 : Int) ∧ dp + n ≤ ((xv_kd M r1).2 : Int) ∧ sp ≤ 1000000 ∧ dp ≤ 1000000 ∧ n ≤ 1000000 then f (xv_rJ M r1 (va_cpy (xv_J M r0) (xv_J M r1) sp.toNat dp.toNat n.toNat)) else none
def xv_abs {T : Type} (x : Int) (f : Int → Option T) : Option T := if xv_inb x = true then f (if 0 ≤ x then x else 0 - x) else none
def xv_max {T : Type} (x y : Int) (f : Int → Option T) : Option T := if xv_inb x = true ∧ xv_inb y = true then f (if x < y then y else x) else none
def xv_min {T : Type} (x y : Int) (f : Int → Option T) : Option T := if xv_inb x = true ∧ xv_inb y = true then f (if y < x then y else x) else none
theorem xv_nat_n {n : Int} (h0 : 0 ≤ n) (h : n ≤ 1000000) : ¬ (Int32.ofInt n) < 0 ∧ (Int32.ofInt n).toNatClampNeg = n.toNat := by
  have hin : xv_in n := ⟨by omega, by omega⟩
  have ht := xv_toInt hin
  refine ⟨fun q => ?_, ?_⟩
  · rw [xv_0, xv_lt hin xv_in0] at q
    omega
  · show (Int32.ofInt n).toInt.toNat = n.toNat
    rw [ht]
theorem xv_cpy_i (f g : Nat → Int) (sp dp n : Nat) : va_cpy (fun j => Int32.ofInt (f j)) (fun j => Int32.ofInt (g j)) sp dp n = fun j => Int32.ofInt (va_cpy f g sp dp n j) := by
  funext j
  unfold va_cpy
  by_cases h : dp ≤ j ∧ j < dp + n
  · rw [if_pos h, if_pos h]
  · rw [if_neg h, if_neg h]
section XN
variable {T : Type} {Y : xv_Y} {cc : ByteArray} {Ts : List Cond} {own : String} {ce sl : Nat} {Q : State → Prop} {tg : T} {pc pc' : Nat} {L L' : List (Option xv_v)} {st S : List xv_v} {M : xv_M} {d d1 d2 : Option T}

theorem xv_newO {ci index N : Nat} {C : String} {TT : u_T} {ty0 : Nat → FieldType} {f : Nat → xv_M → Option T} (hY : xv_ok Y cc Ts own) (hfl : Y.2.2.2.2.2.2 = true) (hd : decode cc pc = .ok (.new index, 3)) (hp : pc + 3 = pc') (hc : vwCl[ci]? = some (C, TT, N)) (hN : N = xv_N ci) (hci : ci < 13) (hin : ∀ w ∈ u_ws C TT N, w ∈ Ts) (hty : ∀ k, k < N → parseFieldDescriptor (TT k).2.2.1 = some (ty0 k)) (hdv : ∀ j, j < N → defaultValue (ty0 j) = xv_sv 0 (xv_ty ci j) 0 0 0)
    (hcl : Cond.classLink own index C ∈ Ts) (hinst : Cond.instantiable C N ∈ Ts) (hini : Cond.initialized C ∈ Ts) (hcells : ce + 1 ≤ Y.1.2.2.2.1.cells) (hslots : sl + N ≤ Y.1.2.2.2.1.slots) (k : ∀ (r : Nat) (M' : xv_M), xv_D Y (ce + 1) (sl + N) Q tg pc' L (xr r :: st) M' (f r M')) : xv_D Y ce sl Q tg pc L st M (xv_nw M (ci, 0) f) := by
  subst hp
  obtain ⟨⟨p, l, e, R, s⟩, ⟨m, args, below, meth, c⟩, Dm, cy, b, nL, fl⟩ := Y
  intro hh H locs ls hP hz hS hl
  have hs : H.size = b + 1 + M.1.length := hz hfl
  have hts := hY.2.2.2.2.1
  have hKn := hY.2.2.2.2.2.1.1.1 ci _ hc
  have hbs : b < s.heap.size := hY.2.2.2.2.2.2.1
  refine W.newcK hY.1 hY.2.1 hY.2.2.2.1 (hts _ hcl) (hts _ hinst) (hts _ hini) rfl hd hcells hslots hKn.2.1 rfl fun H1 kC hkC e1 z1 o1 => ?_
  have hk : ∀ (k : Nat) (x : Nat × va_E), (xv_W b cy M)[k]? = some x → H1[x.1]? = H[x.1]? := fun k x hx => o1 x.1 ((hP k x hx).lt)
  have h2 := k (M.1.length + 1) (xv_new M (ci, 0)) hh H1 locs ls ?_ (fun _ => by rw [z1, hs]; simp [xv_new]; omega) ⟨Nat.le_trans hS.1 (by omega), fun x h1 h2 => (o1 x (Nat.lt_of_lt_of_le h1 hS.1)).trans (hS.2.1 x h1 h2), hS.2.2⟩ hl
  · have e9 : xv_val b (xr (M.1.length + 1)) = .ref H.size := by
      show xv_r b (M.1.length + 1) = _
      have e8 : b + (M.1.length + 1) = b + 1 + M.1.length := by omega
      rw [xv_r_s (by omega), hs, e8]
    simp only [List.map_cons] at h2
    rw [e9] at h2
    exact h2
  · show va_P Dm vwCl (xv_W b cy (xv_new M (ci, 0))) H1
    rw [xv_W_new]
    refine (hP.kept hk).app (fun k x hx => ?_)
    have hzz : k < 1 := (List.getElem?_eq_some_iff.mp hx).1
    rw [show k = 0 by omega] at hx
    cases hx
    unfold xv_E
    rw [if_pos hci]
    refine ⟨_, hc, ?_⟩
    have h5 := u_born ty0 hts hin hKn hkC (by rw [hs] at e1; exact e1) hty
    refine t_OB.to h5 (fun j hj => ?_)
    rw [hdv j hj]
    unfold vp_V
    rw [List.getD_eq_getElem?_getD, xv_fs_get (by rw [← hN]; exact hj)]
    show _ = xv_sv b (xv_ty ci j) 0 0 0
    rfl
theorem xv_newaI {N : Nat} {n : Int} {f : Nat → xv_M → Option T} (hY : xv_ok Y cc Ts own) (hfl : Y.2.2.2.2.2.2 = true) (hd : decode cc pc = .ok (.newarray .int, 2)) (hp : pc + 2 = pc') (hn : n = (N : Int)) (hN : N ≤ 1000000) (harr : Cond.arrayClass .int ∈ Ts) (hcells : ce + 1 ≤ Y.1.2.2.2.1.cells) (hslots : sl + N ≤ Y.1.2.2.2.1.slots) (k : ∀ (r : Nat) (M' : xv_M), xv_D Y (ce + 1) (sl + N) Q tg pc' L (xr r :: st) M' (f r M')) : xv_D Y ce sl Q tg pc L (xi n :: st) M (xv_nw M (14, N) f) := by
  subst hp
  obtain ⟨⟨p, l, e, R, s⟩, ⟨m, args, below, meth, c⟩, Dm, cy, b, nL, fl⟩ := Y
  intro hh H locs ls hP hz hS hl
  have hs : H.size = b + 1 + M.1.length := hz hfl
  have hts := hY.2.2.2.2.1
  obtain ⟨hn0, hn1⟩ := xv_nat_n (n := n) (by omega) (by omega)
  have hn2 : (Int32.ofInt n).toNatClampNeg = N := by rw [hn1, hn]; rfl
  refine va_newaK (atype := .int) hY.1 hY.2.1 (hts _ harr) rfl hd rfl hn0 hn2 (by show N * _ ≤ _; simp only [newarray.typeOf, componentBytes]; omega) hcells hslots rfl fun H1 cA e1 z1 o1 hAr hNm => ?_
  have hcA : cA = cy 14 := by
    have h1 : s.vm.findClass ("[" ++ (FieldType.toString .int)) = some (cy 14) := (hY.2.2.2.2.2.1.1.2 1 _ rfl).2
    exact Option.some.inj (hNm.symm.trans h1)
  subst hcA
  have hk : ∀ (k : Nat) (x : Nat × va_E), (xv_W b cy M)[k]? = some x → H1[x.1]? = H[x.1]? := fun k x hx => o1 x.1 ((hP k x hx).lt)
  have h2 := k (M.1.length + 1) (xv_new M (14, N)) hh H1 locs ls ?_ (fun _ => by rw [z1, hs]; simp [xv_new]; omega) ⟨Nat.le_trans hS.1 (by omega), fun x h1 h2 => (o1 x (Nat.lt_of_lt_of_le h1 hS.1)).trans (hS.2.1 x h1 h2), hS.2.2⟩ hl
  · have e9 : xv_val b (xr (M.1.length + 1)) = .ref H.size := by
      show xv_r b (M.1.length + 1) = _
      have e8 : b + (M.1.length + 1) = b + 1 + M.1.length := by omega
      rw [xv_r_s (by omega), hs, e8]
    simp only [List.map_cons] at h2
    rw [e9] at h2
    exact h2
  · show va_P Dm vwCl (xv_W b cy (xv_new M (14, N))) H1
    rw [xv_W_new]
    refine (hP.kept hk).app (fun k x hx => ?_)
    have hzz : k < 1 := (List.getElem?_eq_some_iff.mp hx).1
    rw [show k = 0 by omega] at hx
    cases hx
    show H1[b + 1 + M.1.length]? = some (vp_cell _ _)
    rw [hs] at e1
    exact e1
theorem xv_newaC {N : Nat} {n : Int} {f : Nat → xv_M → Option T} (hY : xv_ok Y cc Ts own) (hfl : Y.2.2.2.2.2.2 = true) (hd : decode cc pc = .ok (.newarray .char, 2)) (hp : pc + 2 = pc') (hn : n = (N : Int)) (hN : N ≤ 1000000) (harr : Cond.arrayClass .char ∈ Ts) (hcells : ce + 1 ≤ Y.1.2.2.2.1.cells) (hslots : sl + N ≤ Y.1.2.2.2.1.slots) (k : ∀ (r : Nat) (M' : xv_M), xv_D Y (ce + 1) (sl + N) Q tg pc' L (xr r :: st) M' (f r M')) : xv_D Y ce sl Q tg pc L (xi n :: st) M (xv_nw M (13, N) f) := by
  subst hp
  obtain ⟨⟨p, l, e, R, s⟩, ⟨m, args, below, meth, c⟩, Dm, cy, b, nL, fl⟩ := Y
  intro hh H locs ls hP hz hS hl
  have hs : H.size = b + 1 + M.1.length := hz hfl
  have hts := hY.2.2.2.2.1
  obtain ⟨hn0, hn1⟩ := xv_nat_n (n := n) (by omega) (by omega)
  have hn2 : (Int32.ofInt n).toNatClampNeg = N := by rw [hn1, hn]; rfl
  refine va_newaK (atype := .char) hY.1 hY.2.1 (hts _ harr) rfl hd rfl hn0 hn2 (by show N * _ ≤ _; simp only [newarray.typeOf, componentBytes]; omega) hcells hslots rfl fun H1 cA e1 z1 o1 hAr hNm => ?_
  have hcA : cA = cy 13 := by
    have h1 : s.vm.findClass ("[" ++ (FieldType.toString .char)) = some (cy 13) := (hY.2.2.2.2.2.1.1.2 0 _ rfl).2
    exact Option.some.inj (hNm.symm.trans h1)
  subst hcA
  have hk : ∀ (k : Nat) (x : Nat × va_E), (xv_W b cy M)[k]? = some x → H1[x.1]? = H[x.1]? := fun k x hx => o1 x.1 ((hP k x hx).lt)
  have h2 := k (M.1.length + 1) (xv_new M (13, N)) hh H1 locs ls ?_ (fun _ => by rw [z1, hs]; simp [xv_new]; omega) ⟨Nat.le_trans hS.1 (by omega), fun x h1 h2 => (o1 x (Nat.lt_of_lt_of_le h1 hS.1)).trans (hS.2.1 x h1 h2), hS.2.2⟩ hl
  · have e9 : xv_val b (xr (M.1.length + 1)) = .ref H.size := by
      show xv_r b (M.1.length + 1) = _
      have e8 : b + (M.1.length + 1) = b + 1 + M.1.length := by omega
      rw [xv_r_s (by omega), hs, e8]
    simp only [List.map_cons] at h2
    rw [e9] at h2
    exact h2
  · show va_P Dm vwCl (xv_W b cy (xv_new M (13, N))) H1
    rw [xv_W_new]
    refine (hP.kept hk).app (fun k x hx => ?_)
    have hzz : k < 1 := (List.getElem?_eq_some_iff.mp hx).1
    rw [show k = 0 by omega] at hx
    cases hx
    show H1[b + 1 + M.1.length]? = some (vp_cell _ _)
    rw [hs] at e1
    exact e1
theorem xv_newaJ {N : Nat} {n : Int} {f : Nat → xv_M → Option T} (hY : xv_ok Y cc Ts own) (hfl : Y.2.2.2.2.2.2 = true) (hd : decode cc pc = .ok (.newarray .long, 2)) (hp : pc + 2 = pc') (hn : n = (N : Int)) (hN : N ≤ 1000000) (harr : Cond.arrayClass .long ∈ Ts) (hcells : ce + 1 ≤ Y.1.2.2.2.1.cells) (hslots : sl + N ≤ Y.1.2.2.2.1.slots) (k : ∀ (r : Nat) (M' : xv_M), xv_D Y (ce + 1) (sl + N) Q tg pc' L (xr r :: st) M' (f r M')) : xv_D Y ce sl Q tg pc L (xi n :: st) M (xv_nw M (15, N) f) := by
  subst hp
  obtain ⟨⟨p, l, e, R, s⟩, ⟨m, args, below, meth, c⟩, Dm, cy, b, nL, fl⟩ := Y
  intro hh H locs ls hP hz hS hl
  have hs : H.size = b + 1 + M.1.length := hz hfl
  have hts := hY.2.2.2.2.1
  obtain ⟨hn0, hn1⟩ := xv_nat_n (n := n) (by omega) (by omega)
  have hn2 : (Int32.ofInt n).toNatClampNeg = N := by rw [hn1, hn]; rfl
  refine va_newaK (atype := .long) hY.1 hY.2.1 (hts _ harr) rfl hd rfl hn0 hn2 (by show N * _ ≤ _; simp only [newarray.typeOf, componentBytes]; omega) hcells hslots rfl fun H1 cA e1 z1 o1 hAr hNm => ?_
  have hcA : cA = cy 15 := by
    have h1 : s.vm.findClass ("[" ++ (FieldType.toString .long)) = some (cy 15) := (hY.2.2.2.2.2.1.1.2 2 _ rfl).2
    exact Option.some.inj (hNm.symm.trans h1)
  subst hcA
  have hk : ∀ (k : Nat) (x : Nat × va_E), (xv_W b cy M)[k]? = some x → H1[x.1]? = H[x.1]? := fun k x hx => o1 x.1 ((hP k x hx).lt)
  have h2 := k (M.1.length + 1) (xv_new M (15, N)) hh H1 locs ls ?_ (fun _ => by rw [z1, hs]; simp [xv_new]; omega) ⟨Nat.le_trans hS.1 (by omega), fun x h1 h2 => (o1 x (Nat.lt_of_lt_of_le h1 hS.1)).trans (hS.2.1 x h1 h2), hS.2.2⟩ hl
  · have e9 : xv_val b (xr (M.1.length + 1)) = .ref H.size := by
      show xv_r b (M.1.length + 1) = _
      have e8 : b + (M.1.length + 1) = b + 1 + M.1.length := by omega
      rw [xv_r_s (by omega), hs, e8]
    simp only [List.map_cons] at h2
    rw [e9] at h2
    exact h2
  · show va_P Dm vwCl (xv_W b cy (xv_new M (15, N))) H1
    rw [xv_W_new]
    refine (hP.kept hk).app (fun k x hx => ?_)
    have hzz : k < 1 := (List.getElem?_eq_some_iff.mp hx).1
    rw [show k = 0 by omega] at hx
    cases hx
    show H1[b + 1 + M.1.length]? = some (vp_cell _ _)
    rw [hs] at e1
    exact e1
theorem xv_newaZ {N : Nat} {n : Int} {f : Nat → xv_M → Option T} (hY : xv_ok Y cc Ts own) (hfl : Y.2.2.2.2.2.2 = true) (hd : decode cc pc = .ok (.newarray .boolean, 2)) (hp : pc + 2 = pc') (hn : n = (N : Int)) (hN : N ≤ 1000000) (harr : Cond.arrayClass .boolean ∈ Ts) (hcells : ce + 1 ≤ Y.1.2.2.2.1.cells) (hslots : sl + N ≤ Y.1.2.2.2.1.slots) (k : ∀ (r : Nat) (M' : xv_M), xv_D Y (ce + 1) (sl + N) Q tg pc' L (xr r :: st) M' (f r M')) : xv_D Y ce sl Q tg pc L (xi n :: st) M (xv_nw M (16, N) f) := by
  subst hp
  obtain ⟨⟨p, l, e, R, s⟩, ⟨m, args, below, meth, c⟩, Dm, cy, b, nL, fl⟩ := Y
  intro hh H locs ls hP hz hS hl
  have hs : H.size = b + 1 + M.1.length := hz hfl
  have hts := hY.2.2.2.2.1
  obtain ⟨hn0, hn1⟩ := xv_nat_n (n := n) (by omega) (by omega)
  have hn2 : (Int32.ofInt n).toNatClampNeg = N := by rw [hn1, hn]; rfl
  refine va_newaK (atype := .boolean) hY.1 hY.2.1 (hts _ harr) rfl hd rfl hn0 hn2 (by show N * _ ≤ _; simp only [newarray.typeOf, componentBytes]; omega) hcells hslots rfl fun H1 cA e1 z1 o1 hAr hNm => ?_
  have hcA : cA = cy 16 := by
    have h1 : s.vm.findClass ("[" ++ (FieldType.toString .boolean)) = some (cy 16) := (hY.2.2.2.2.2.1.1.2 3 _ rfl).2
    exact Option.some.inj (hNm.symm.trans h1)
  subst hcA
  have hk : ∀ (k : Nat) (x : Nat × va_E), (xv_W b cy M)[k]? = some x → H1[x.1]? = H[x.1]? := fun k x hx => o1 x.1 ((hP k x hx).lt)
  have h2 := k (M.1.length + 1) (xv_new M (16, N)) hh H1 locs ls ?_ (fun _ => by rw [z1, hs]; simp [xv_new]; omega) ⟨Nat.le_trans hS.1 (by omega), fun x h1 h2 => (o1 x (Nat.lt_of_lt_of_le h1 hS.1)).trans (hS.2.1 x h1 h2), hS.2.2⟩ hl
  · have e9 : xv_val b (xr (M.1.length + 1)) = .ref H.size := by
      show xv_r b (M.1.length + 1) = _
      have e8 : b + (M.1.length + 1) = b + 1 + M.1.length := by omega
      rw [xv_r_s (by omega), hs, e8]
    simp only [List.map_cons] at h2
    rw [e9] at h2
    exact h2
  · show va_P Dm vwCl (xv_W b cy (xv_new M (16, N))) H1
    rw [xv_W_new]
    refine (hP.kept hk).app (fun k x hx => ?_)
    have hzz : k < 1 := (List.getElem?_eq_some_iff.mp hx).1
    rw [show k = 0 by omega] at hx
    cases hx
    show H1[b + 1 + M.1.length]? = some (vp_cell _ _)
    rw [hs] at e1
    exact e1
theorem xv_anewS {N index : Nat} {n : Int} {f : Nat → xv_M → Option T} (hY : xv_ok Y cc Ts own) (hfl : Y.2.2.2.2.2.2 = true) (hd : decode cc pc = .ok (.anewarray index, 3)) (hp : pc + 3 = pc') (hn : n = (N : Int)) (hN : N ≤ 1000000) (hcl : Cond.classLink own index "MiddleSpans$State" ∈ Ts) (hcells : ce + 1 ≤ Y.1.2.2.2.1.cells) (hslots : sl + N ≤ Y.1.2.2.2.1.slots) (k : ∀ (r : Nat) (M' : xv_M), xv_D Y (ce + 1) (sl + N) Q tg pc' L (xr r :: st) M' (f r M')) : xv_D Y ce sl Q tg pc L (xi n :: st) M (xv_nw M (17, N) f) := by
  subst hp
  obtain ⟨⟨p, l, e, R, s⟩, ⟨m, args, below, meth, c⟩, Dm, cy, b, nL, fl⟩ := Y
  intro hh H locs ls hP hz hS hl
  have hs : H.size = b + 1 + M.1.length := hz hfl
  have hts := hY.2.2.2.2.1
  obtain ⟨hn0, hn1⟩ := xv_nat_n (n := n) (by omega) (by omega)
  have hn2 : (Int32.ofInt n).toNatClampNeg = N := by rw [hn1, hn]; rfl
  refine W.anew hY.1 hY.2.1 hY.2.2.2.1 (hts _ hcl) (va_AO.use hY.2.2.2.2.2.1.2.2.1) rfl hd rfl hn0 (by rw [hn2]; omega) hcells (by rw [hn2]; exact hslots) fun cA kA comp f1 f2 f3 f4 => ?_
  rw [hn2]
  generalize hH1 : H.push ({ cls := cA, slots := Array.replicate N .null, vm := .none } : Cell) = H1
  have z1 : H1.size = H.size + 1 := by rw [← hH1, Array.size_push]
  have e1 : H1[H.size]? = some (arrV cA N (fun _ => .null)) := by rw [← hH1, Array.getElem?_push_size, ← arrV_new]
  have o1 : ∀ q : Nat, q < H.size → H1[q]? = H[q]? := fun q hq => by rw [← hH1, Array.getElem?_push, if_neg (Nat.ne_of_lt hq)]
  have hcA : cA = cy 17 := by
    obtain ⟨kA9, comp9, g1, g2, g3, g4⟩ := (hY.2.2.2.2.2.1.1.2 4 _ rfl).2
    exact Option.some.inj (f1.symm.trans g4)
  subst hcA
  have hk : ∀ (k : Nat) (x : Nat × va_E), (xv_W b cy M)[k]? = some x → H1[x.1]? = H[x.1]? := fun k x hx => o1 x.1 ((hP k x hx).lt)
  have h2 := k (M.1.length + 1) (xv_new M (17, N)) hh H1 locs ls ?_ (fun _ => by rw [z1, hs]; simp [xv_new]; omega) ⟨Nat.le_trans hS.1 (by omega), fun x h1 h2 => (o1 x (Nat.lt_of_lt_of_le h1 hS.1)).trans (hS.2.1 x h1 h2), hS.2.2⟩ hl
  · have e9 : xv_val b (xr (M.1.length + 1)) = .ref H.size := by
      show xv_r b (M.1.length + 1) = _
      have e8 : b + (M.1.length + 1) = b + 1 + M.1.length := by omega
      rw [xv_r_s (by omega), hs, e8]
    simp only [List.map_cons] at h2
    rw [e9] at h2
    exact h2
  · show va_P Dm vwCl (xv_W b cy (xv_new M (17, N))) H1
    rw [xv_W_new]
    refine (hP.kept hk).app (fun k x hx => ?_)
    have hzz : k < 1 := (List.getElem?_eq_some_iff.mp hx).1
    rw [show k = 0 by omega] at hx
    cases hx
    show H1[b + 1 + M.1.length]? = some (vp_cell _ _)
    rw [hs] at e1
    rw [vp_cell_q]
    exact e1
theorem xv_objInit {index r : Nat} (hY : xv_ok Y cc Ts own) (hd : decode cc pc = .ok (.invokespecial index, 3)) (hp : pc + 3 = pc') (h1 : Cond.methodLink own index Lib.objectInit ∈ Ts) (h2 : Cond.instanceMethod Lib.objectInit ∈ Ts) (h3 : Cond.code Lib.objectInit ⟨#[0xb1]⟩ 1 none ∈ Ts) (hfr : 1 ≤ Y.1.2.2.2.1.frames) (hlo : (st.map xv_c).sum + 12 ≤ Y.1.2.2.2.1.locals) (k : xv_D Y ce sl Q tg pc' L st M d) : xv_D Y ce sl Q tg pc L (xr r :: st) M (xv_g (r ≠ 0) d) := by
  subst hp
  obtain ⟨⟨p, l, e, R, s⟩, ⟨m, args, below, meth, c⟩, Dm, cy, b, nL, fl⟩ := Y
  intro hh H locs ls hP hz hS hl
  obtain ⟨h0, hh⟩ := xv_g_some hh
  have hts := hY.2.2.2.2.1
  refine W.objInit (rest := st.map (xv_val b)) (a := b + r) hY.1 hY.2.1 hY.2.2.2.1 (hts _ h1) (hts _ h2) (hts _ h3) rfl (by rw [hY.2.2.1]; exact hl.1) (by show xv_r b r :: _ = _; rw [xv_r_s h0]) hd hfr (by show 2 * 0 + _ + 12 ≤ _; rw [xv_cats]; omega) ?_
  exact k hh H locs ls hP hz hS hl
theorem xv_copyI {index r0 r1 : Nat} {sp dp n : Int} {f : xv_M → Option T} (hY : xv_ok Y cc Ts own) (hfl : Y.2.2.2.2.2.2 = false) (hd : decode cc pc = .ok (.invokestatic index, 3)) (hp : pc + 3 = pc') (w1 : Cond.methodLink own index arraycopyName ∈ Ts) (w2 : Cond.native arraycopyName ∈ Ts) (w3 : Cond.static arraycopyName ∈ Ts) (w4 : Cond.initialized "java/lang/System" ∈ Ts) (hfr : 1 ≤ Y.1.2.2.2.1.frames) (hlo : (st.map xv_c).sum + (nativeFrameWords "java/lang/System" "arraycopy" 5 + 11) ≤ Y.1.2.2.2.1.locals) (k : ∀ M' : xv_M, xv_D Y ce sl Q tg pc' L st M' (f M')) : xv_D Y ce sl Q tg pc L (xi n :: xi dp :: xr r1 :: xi sp :: xr r0 :: st) M (xv_cpI M r0 sp r1 dp n f) := by
  subst hp
  obtain ⟨⟨p, l, e, R, s⟩, ⟨m, args, below, meth, c⟩, Dm, cy, b, nL, fl⟩ := Y
  intro hh H locs ls hP hz hS hl
  unfold xv_cpI at hh
  by_cases h : (xv_kd M r0).1 = 14 ∧ (xv_kd M r1).1 = 14 ∧ 0 ≤ sp ∧ 0 ≤ dp ∧ 0 ≤ n ∧ sp + n ≤ ((xv_kd M r0).2 : Int) ∧ dp + n ≤ ((xv_kd M r1).2 : Int) ∧ sp ≤ 1000000 ∧ dp ≤ 1000000 ∧ n ≤ 1000000
  · rw [if_pos h] at hh
    have hts := hY.2.2.2.2.1
    obtain ⟨z0, he0⟩ := xv_arI (b := b) (cy := cy) h.1 (by decide)
    obtain ⟨z1, he1⟩ := xv_arI (b := b) (cy := cy) h.2.1 (by decide)
    obtain ⟨s1, s2⟩ := xv_nat_n h.2.2.1 h.2.2.2.2.2.2.2.1
    obtain ⟨d1, d2⟩ := xv_nat_n h.2.2.2.1 h.2.2.2.2.2.2.2.2.1
    obtain ⟨n1, n2⟩ := xv_nat_n h.2.2.2.2.1 h.2.2.2.2.2.2.2.2.2
    simp only [List.map_cons, xv_val]
    rw [xv_r_s z0, xv_r_s z1]
    refine va_copyi (ty := .int) hY.1 hY.2.1 (by rw [hY.2.2.1]; exact hl.1.symm) hY.2.2.2.1 (hts _ w1) (hts _ w2) (hts _ w3) (hts _ w4) hY.2.2.2.2.2.1.1 hP xv_W_D hS (r0 - 1) (r1 - 1) 1 1 he0 he1 rfl rfl rfl s1 d1 n1 (by rw [s2, n2]; omega) (by rw [d2, n2]; omega) (fun _ _ => rfl) hfr (by rw [xv_cats]; exact hlo) hd (fun H1 locs1 hP1 hD1 hS1 => ?_)
    refine k _ hh H1 locs1 ls ?_ (fun q => by rw [show fl = false from hfl] at q; cases q) hS1 hl
    rw [s2, d2, n2] at hP1
    have hset : (xv_W b cy M).set (r1 - 1) (b + r1, .inl (cy 14, (xv_kd M r1).2, .inl (va_cpy (fun j => Int32.ofInt (M.2.1 r0 j)) (fun j => Int32.ofInt (M.2.1 r1 j)) sp.toNat dp.toNat n.toNat))) = xv_W b cy (xv_rI M r1 (va_cpy (xv_I M r0) (xv_I M r1) sp.toNat dp.toNat n.toNat)) := by
      refine xv_W_set (by omega) rfl ?_ (fun j hj => by simp [xv_rI, xv_rw_row _ _ hj])
      unfold xv_E
      rw [if_neg (by omega), if_neg (by omega), if_neg (by omega), h.2.1, xv_cpy_i]
      congr 4
      funext j
      simp [xv_rI, xv_rw_self]
      rfl
    show va_P Dm vwCl (xv_W b cy (xv_rI M r1 _)) H1
    rw [← hset]
    exact hP1
  · rw [if_neg h] at hh
    cases hh
theorem xv_copyJ {index r0 r1 : Nat} {sp dp n : Int} {f : xv_M → Option T} (hY : xv_ok Y cc Ts own) (hfl : Y.2.2.2.2.2.2 = false) (hd : decode cc pc = .ok (.invokestatic index, 3)) (hp : pc + 3 = pc') (w1 : Cond.methodLink own index arraycopyName ∈ Ts) (w2 : Cond.native arraycopyName ∈ Ts) (w3 : Cond.static arraycopyName ∈ Ts) (w4 : Cond.initialized "java/lang/System" ∈ Ts) (hfr : 1 ≤ Y.1.2.2.2.1.frames) (hlo : (st.map xv_c).sum + (nativeFrameWords "java/lang/System" "arraycopy" 5 + 11) ≤ Y.1.2.2.2.1.locals) (k : ∀ M' : xv_M, xv_D Y ce sl Q tg pc' L st M' (f M')) : xv_D Y ce sl Q tg pc L (xi n :: xi dp :: xr r1 :: xi sp :: xr r0 :: st) M (xv_cpJ M r0 sp r1 dp n f) := by
  subst hp
  obtain ⟨⟨p, l, e, R, s⟩, ⟨m, args, below, meth, c⟩, Dm, cy, b, nL, fl⟩ := Y
  intro hh H locs ls hP hz hS hl
  unfold xv_cpJ at hh
  by_cases h : (xv_kd M r0).1 = 15 ∧ (xv_kd M r1).1 = 15 ∧ 0 ≤ sp ∧ 0 ≤ dp ∧ 0 ≤ n ∧ sp + n ≤ ((xv_kd M r0).2 : Int) ∧ dp + n ≤ ((xv_kd M r1).2 : Int) ∧ sp ≤ 1000000 ∧ dp ≤ 1000000 ∧ n ≤ 1000000
  · rw [if_pos h] at hh
    have hts := hY.2.2.2.2.1
    obtain ⟨z0, he0⟩ := xv_arJ (b := b) (cy := cy) h.1
    obtain ⟨z1, he1⟩ := xv_arJ (b := b) (cy := cy) h.2.1
    obtain ⟨s1, s2⟩ := xv_nat_n h.2.2.1 h.2.2.2.2.2.2.2.1
    obtain ⟨d1, d2⟩ := xv_nat_n h.2.2.2.1 h.2.2.2.2.2.2.2.2.1
    obtain ⟨n1, n2⟩ := xv_nat_n h.2.2.2.2.1 h.2.2.2.2.2.2.2.2.2
    simp only [List.map_cons, xv_val]
    rw [xv_r_s z0, xv_r_s z1]
    refine va_copyl (ty := .long) hY.1 hY.2.1 (by rw [hY.2.2.1]; exact hl.1.symm) hY.2.2.2.1 (hts _ w1) (hts _ w2) (hts _ w3) (hts _ w4) hY.2.2.2.2.2.1.1 hP xv_W_D hS (r0 - 1) (r1 - 1) 2 2 he0 he1 rfl rfl rfl s1 d1 n1 (by rw [s2, n2]; omega) (by rw [d2, n2]; omega) (fun _ _ => rfl) hfr (by rw [xv_cats]; exact hlo) hd (fun H1 locs1 hP1 hD1 hS1 => ?_)
    refine k _ hh H1 locs1 ls ?_ (fun q => by rw [show fl = false from hfl] at q; cases q) hS1 hl
    rw [s2, d2, n2] at hP1
    have hset : (xv_W b cy M).set (r1 - 1) (b + r1, .inl (cy 15, (xv_kd M r1).2, .inr (.inl (va_cpy (M.2.2.1 r0) (M.2.2.1 r1) sp.toNat dp.toNat n.toNat)))) = xv_W b cy (xv_rJ M r1 (va_cpy (xv_J M r0) (xv_J M r1) sp.toNat dp.toNat n.toNat)) := by
      refine xv_W_set (by omega) rfl ?_ (fun j hj => by simp [xv_rJ, xv_rw_row _ _ hj])
      unfold xv_E
      rw [if_neg (by omega), if_pos h.2.1]
      congr 5
      simp only [xv_rJ, xv_rw_self]
      rfl
    show va_P Dm vwCl (xv_W b cy (xv_rJ M r1 _)) H1
    rw [← hset]
    exact hP1
  · rw [if_neg h] at hh
    cases hh
theorem xv_mmax {index : Nat} {x y : Int} {f : Int → Option T} (hY : xv_ok Y cc Ts own) (hd : decode cc pc = .ok (.invokestatic index, 3)) (hp : pc + 3 = pc') (w1 : Cond.methodLink own index Lib.Math.max.name ∈ Ts) (w2 : Cond.static Lib.Math.max.name ∈ Ts) (w3 : Cond.initialized "java/lang/Math" ∈ Ts) (w4 : Cond.code Lib.Math.max.name Lib.Math.max.code 2 (some .int) ∈ Ts) (hfr : 1 ≤ Y.1.2.2.2.1.frames) (hlo : (st.map xv_c).sum + 13 ≤ Y.1.2.2.2.1.locals) (hce : ce ≤ Y.1.2.2.2.1.cells) (hsl : sl ≤ Y.1.2.2.2.1.slots) (k : ∀ z : Int, xv_D Y ce sl Q tg pc' L (xi z :: st) M (f z)) : xv_D Y ce sl Q tg pc L (xi y :: xi x :: st) M (xv_max x y f) := by
  subst hp
  obtain ⟨⟨p, l, e, R, s⟩, ⟨m, args, below, meth, c⟩, Dm, cy, b, nL, fl⟩ := Y
  intro hh H locs ls hP hz hS hl
  unfold xv_max at hh
  by_cases h : xv_inb x = true ∧ xv_inb y = true
  · rw [if_pos h] at hh
    have hts := hY.2.2.2.2.1
    have h2 := k _ hh H locs ls hP hz hS hl
    simp only [List.map_cons, xv_val] at h2 ⊢
    refine va_mmax hY.1 hY.2.1 (by rw [hY.2.2.1]; exact hl.1.symm) hY.2.2.2.1 (hts _ w1) (hts _ w2) (hts _ w3) (hts _ w4) hfr (by rw [xv_cats]; exact hlo) hce hsl hd ?_
    have hlt := xv_lt (xv_inb_in h.1) (xv_inb_in h.2)
    by_cases hc : x < y
    · rw [if_pos hc] at h2
      rw [if_pos (hlt.mpr hc)]
      exact h2
    · rw [if_neg hc] at h2
      rw [if_neg (fun q => hc (hlt.mp q))]
      exact h2
  · rw [if_neg h] at hh
    cases hh
theorem xv_mmin {index : Nat} {x y : Int} {f : Int → Option T} (hY : xv_ok Y cc Ts own) (hd : decode cc pc = .ok (.invokestatic index, 3)) (hp : pc + 3 = pc') (w1 : Cond.methodLink own index Lib.Math.min.name ∈ Ts) (w2 : Cond.static Lib.Math.min.name ∈ Ts) (w3 : Cond.initialized "java/lang/Math" ∈ Ts) (w4 : Cond.code Lib.Math.min.name Lib.Math.min.code 2 (some .int) ∈ Ts) (hfr : 1 ≤ Y.1.2.2.2.1.frames) (hlo : (st.map xv_c).sum + 13 ≤ Y.1.2.2.2.1.locals) (hce : ce ≤ Y.1.2.2.2.1.cells) (hsl : sl ≤ Y.1.2.2.2.1.slots) (k : ∀ z : Int, xv_D Y ce sl Q tg pc' L (xi z :: st) M (f z)) : xv_D Y ce sl Q tg pc L (xi y :: xi x :: st) M (xv_min x y f) := by
  subst hp
  obtain ⟨⟨p, l, e, R, s⟩, ⟨m, args, below, meth, c⟩, Dm, cy, b, nL, fl⟩ := Y
  intro hh H locs ls hP hz hS hl
  unfold xv_min at hh
  by_cases h : xv_inb x = true ∧ xv_inb y = true
  · rw [if_pos h] at hh
    have hts := hY.2.2.2.2.1
    have h2 := k _ hh H locs ls hP hz hS hl
    simp only [List.map_cons, xv_val] at h2 ⊢
    refine va_mmin hY.1 hY.2.1 (by rw [hY.2.2.1]; exact hl.1.symm) hY.2.2.2.1 (hts _ w1) (hts _ w2) (hts _ w3) (hts _ w4) hfr (by rw [xv_cats]; exact hlo) hce hsl hd ?_
    have hlt := xv_lt (xv_inb_in h.2) (xv_inb_in h.1)
    by_cases hc : y < x
    · rw [if_pos hc] at h2
      rw [if_pos (hlt.mpr hc)]
      exact h2
    · rw [if_neg hc] at h2
      rw [if_neg (fun q => hc (hlt.mp q))]
      exact h2
  · rw [if_neg h] at hh
    cases hh
theorem xv_mabs {index : Nat} {x : Int} {f : Int → Option T} (hY : xv_ok Y cc Ts own) (hd : decode cc pc = .ok (.invokestatic index, 3)) (hp : pc + 3 = pc') (w1 : Cond.methodLink own index Lib.Math.abs.name ∈ Ts) (w2 : Cond.static Lib.Math.abs.name ∈ Ts) (w3 : Cond.initialized "java/lang/Math" ∈ Ts) (w4 : Cond.code Lib.Math.abs.name Lib.Math.abs.code 1 (some .int) ∈ Ts) (hfr : 1 ≤ Y.1.2.2.2.1.frames) (hlo : (st.map xv_c).sum + 13 ≤ Y.1.2.2.2.1.locals) (hce : ce ≤ Y.1.2.2.2.1.cells) (hsl : sl ≤ Y.1.2.2.2.1.slots) (k : ∀ z : Int, xv_D Y ce sl Q tg pc' L (xi z :: st) M (f z)) : xv_D Y ce sl Q tg pc L (xi x :: st) M (xv_abs x f) := by
  subst hp
  obtain ⟨⟨p, l, e, R, s⟩, ⟨m, args, below, meth, c⟩, Dm, cy, b, nL, fl⟩ := Y
  intro hh H locs ls hP hz hS hl
  unfold xv_abs at hh
  by_cases h : xv_inb x = true
  · rw [if_pos h] at hh
    have hts := hY.2.2.2.2.1
    have h2 := k _ hh H locs ls hP hz hS hl
    simp only [List.map_cons, xv_val] at h2 ⊢
    refine va_mabs hY.1 hY.2.1 (by rw [hY.2.2.1]; exact hl.1.symm) hY.2.2.2.1 (hts _ w1) (hts _ w2) (hts _ w3) (hts _ w4) hfr (by rw [xv_cats]; exact hlo) hce hsl hd ?_
    have hle : (0 : Int32) ≤ Int32.ofInt x ↔ 0 ≤ x := xv_le xv_in0 (xv_inb_in h)
    by_cases hc : 0 ≤ x
    · rw [if_pos hc] at h2
      rw [if_pos (hle.mpr hc)]
      exact h2
    · rw [if_neg hc] at h2
      rw [if_neg (fun q => hc (hle.mp q)), xv_0, xv_sub]
      exact h2
  · rw [if_neg h] at hh
    cases hh
end XN
theorem xv_dv0 : ∀ j, j < 1 → defaultValue (tyX0 j) = xv_sv 0 (xv_ty 0 j) 0 0 0
  | 0, _ => rfl
  | j + 1, h => absurd h (by omega)
theorem xv_dv1 : ∀ j, j < 2 → defaultValue (tyX1 j) = xv_sv 0 (xv_ty 1 j) 0 0 0
  | 0, _ => rfl
  | 1, _ => rfl
  | j + 2, h => absurd h (by omega)
theorem xv_dv2 : ∀ j, j < 3 → defaultValue (tyX2 j) = xv_sv 0 (xv_ty 2 j) 0 0 0
  | 0, _ => rfl
  | 1, _ => rfl
  | 2, _ => rfl
  | j + 3, h => absurd h (by omega)
theorem xv_dv3 : ∀ j, j < 6 → defaultValue (tyX3 j) = xv_sv 0 (xv_ty 3 j) 0 0 0
  | 0, _ => rfl
  | 1, _ => rfl
  | 2, _ => rfl
  | 3, _ => rfl
  | 4, _ => rfl
  | 5, _ => rfl
  | j + 6, h => absurd h (by omega)
theorem xv_dv4 : ∀ j, j < 6 → defaultValue (tyX4 j) = xv_sv 0 (xv_ty 4 j) 0 0 0
  | 0, _ => rfl
  | 1, _ => rfl
  | 2, _ => rfl
  | 3, _ => rfl
  | 4, _ => rfl
  | 5, _ => rfl
  | j + 6, h => absurd h (by omega)
theorem xv_dv5 : ∀ j, j < 8 → defaultValue (tyX5 j) = xv_sv 0 (xv_ty 5 j) 0 0 0
  | 0, _ => rfl
  | 1, _ => rfl
  | 2, _ => rfl
  | 3, _ => rfl
  | 4, _ => rfl
  | 5, _ => rfl
  | 6, _ => rfl
  | 7, _ => rfl
  | j + 8, h => absurd h (by omega)
theorem xv_dv6 : ∀ j, j < 4 → defaultValue (tyX6 j) = xv_sv 0 (xv_ty 6 j) 0 0 0
  | 0, _ => rfl
  | 1, _ => rfl
  | 2, _ => rfl
  | 3, _ => rfl
  | j + 4, h => absurd h (by omega)
theorem xv_dv7 : ∀ j, j < 2 → defaultValue (tyX7 j) = xv_sv 0 (xv_ty 7 j) 0 0 0
  | 0, _ => rfl
  | 1, _ => rfl
  | j + 2, h => absurd h (by omega)
theorem xv_dv8 : ∀ j, j < 5 → defaultValue (tyX8 j) = xv_sv 0 (xv_ty 8 j) 0 0 0
  | 0, _ => rfl
  | 1, _ => rfl
  | 2, _ => rfl
  | 3, _ => rfl
  | 4, _ => rfl
  | j + 5, h => absurd h (by omega)
theorem xv_dv9 : ∀ j, j < 9 → defaultValue (tyX9 j) = xv_sv 0 (xv_ty 9 j) 0 0 0
  | 0, _ => rfl
  | 1, _ => rfl
  | 2, _ => rfl
  | 3, _ => rfl
  | 4, _ => rfl
  | 5, _ => rfl
  | 6, _ => rfl
  | 7, _ => rfl
  | 8, _ => rfl
  | j + 9, h => absurd h (by omega)
theorem xv_dv10 : ∀ j, j < 4 → defaultValue (tyX10 j) = xv_sv 0 (xv_ty 10 j) 0 0 0
  | 0, _ => rfl
  | 1, _ => rfl
  | 2, _ => rfl
  | 3, _ => rfl
  | j + 4, h => absurd h (by omega)
theorem xv_dv11 : ∀ j, j < 6 → defaultValue (tyX11 j) = xv_sv 0 (xv_ty 11 j) 0 0 0
  | 0, _ => rfl
  | 1, _ => rfl
  | 2, _ => rfl
  | 3, _ => rfl
  | 4, _ => rfl
  | 5, _ => rfl
  | j + 6, h => absurd h (by omega)
theorem xv_dv12 : ∀ j, j < 18 → defaultValue (tyX12 j) = xv_sv 0 (xv_ty 12 j) 0 0 0
  | 0, _ => rfl
  | 1, _ => rfl
  | 2, _ => rfl
  | 3, _ => rfl
  | 4, _ => rfl
  | 5, _ => rfl
  | 6, _ => rfl
  | 7, _ => rfl
  | 8, _ => rfl
  | 9, _ => rfl
  | 10, _ => rfl
  | 11, _ => rfl
  | 12, _ => rfl
  | 13, _ => rfl
  | 14, _ => rfl
  | 15, _ => rfl
  | 16, _ => rfl
  | 17, _ => rfl
  | j + 18, h => absurd h (by omega)
end
section
/-! ## new int[6][60]: the outer array, its six rows behind it -/
def xv_mn6 (M : xv_M) : xv_M := (M.1 ++ ((18, 6) :: List.replicate 6 (14, 60)), fun r j => if r ≤ M.1.length then M.2.1 r j else 0, fun r j => if r ≤ M.1.length then M.2.2.1 r j else 0, fun r j => if r ≤ M.1.length then M.2.2.2 r j else if r = M.1.length + 1 ∧ j < 6 then M.1.length + 2 + j else 0)
def xv_mnw {T : Type} (M : xv_M) (f : Nat → xv_M → Option T) : Option T := f (M.1.length + 1) (xv_mn6 M)
theorem xv_outer (c : ClassId) (N h0 : Nat) : ∀ i : Nat, Jvm.Free.Multi.outerC c N h0 i = arrV c N (fun j => va_rf (if j < i then some (h0 + 1 + j) else none))
  | 0 => by
    show ({ cls := c, slots := Array.replicate N .null, vm := .none } : Cell) = _
    rw [arrV_new]
    refine congrArg (arrV c N) (funext fun j => ?_)
    simp [va_rf]
  | i + 1 => by
    show (Jvm.Free.Multi.outerC c N h0 i).setSlot i (.ref (h0 + 1 + i)) = _
    rw [xv_outer c N h0 i, arrV_store]
    refine congrArg (arrV c N) (funext fun j => ?_)
    by_cases e : j = i
    · subst e
      simp [updV, va_rf]
    · by_cases h : j < i
      · simp [updV, e, h, Nat.lt_succ_of_lt h]
      · simp [updV, e, h, show ¬ j < i + 1 by omega]
section XMN
variable {T : Type} {Y : xv_Y} {cc : ByteArray} {Ts : List Cond} {own : String} {ce sl : Nat} {Q : State → Prop} {tg : T} {pc pc' : Nat} {L L' : List (Option xv_v)} {st S : List xv_v} {M : xv_M} {d d1 d2 : Option T}
theorem xv_multi {index : Nat} {f : Nat → xv_M → Option T} (hY : xv_ok Y cc Ts own) (hfl : Y.2.2.2.2.2.2 = true) (hd : decode cc pc = .ok (.multianewarray index 2, 4)) (hp : pc + 4 = pc') (hcl : Cond.classLink own index "[[I" ∈ Ts) (harr : Cond.arrayClass .int ∈ Ts) (hcells : ce + 7 ≤ Y.1.2.2.2.1.cells) (hslots : sl + 366 ≤ Y.1.2.2.2.1.slots) (k : ∀ (r : Nat) (M' : xv_M), xv_D Y (ce + 7) (sl + 366) Q tg pc' L (xr r :: st) M' (f r M')) : xv_D Y ce sl Q tg pc L (xi 60 :: xi 6 :: st) M (xv_mnw M f) := by
  subst hp
  obtain ⟨⟨p, l, e, R, s⟩, ⟨m, args, below, meth, c⟩, Dm, cy, b, nL, fl⟩ := Y
  intro hh H locs ls hP hz hS hl
  have hs : H.size = b + 1 + M.1.length := hz hfl
  have hts := hY.2.2.2.2.1
  intro T0 hT Xs
  have hn : (Int32.ofInt 6).toNatClampNeg = 6 := by decide
  have hk : (Int32.ofInt 60).toNatClampNeg = 60 := by decide
  have hbb : c.code = cc := hY.2.1
  obtain ⟨vm₁, cA, comp, -, fA, fC, hO, -, X', step⟩ := Xs.multianewarray2F hY.1 hY.2.2.2.1 (ty := .int) (hts _ hcl) hY.2.2.2.2.2.1.2.2.2 (hts _ harr) (g := F0 m pc ls (.int (Int32.ofInt 60) :: .int (Int32.ofInt 6) :: st.map (xv_val b))) rfl (by rw [hbb]; exact hd) rfl (by decide) (by decide) (by rw [hn]; decide) (by rw [hk]; decide) (by rw [hk]; decide) rfl rfl (by rw [hn]; exact hcells) (by rw [hn, hk]; exact hslots)
  rw [hn, hk] at X' step
  have eA : cA = cy 18 := Option.some.inj (fA.symm.trans (hY.2.2.2.2.2.1.1.2 5 _ rfl).2)
  have eC : comp = cy 14 := Option.some.inj (fC.symm.trans (hY.2.2.2.2.2.1.1.2 1 _ rfl).2)
  subst eA
  subst eC
  generalize hF : Jvm.Free.Multi.fill (T0.setVm vm₁) (cy 18) (cy 14) 6 60 (defaultValue .int) 6 = F at X' step
  have hTh : (T0.setVm vm₁).heap = H := hT
  obtain ⟨f1, f2, -, -⟩ := Jvm.Free.Multi.fill_facts (T0.setVm vm₁) (cy 18) (cy 14) 6 60 (defaultValue .int) 6
  rw [hF, hTh] at f1 f2
  have hold : ∀ x : Nat, x < H.size → F.heap[x]? = H[x]? := fun x hx => by
    have := Jvm.Free.Multi.fill_old (T0.setVm vm₁) (cy 18) (cy 14) 6 60 (defaultValue .int) (a := x) (by rw [hTh]; exact hx) 6
    rw [hF, hTh] at this
    exact this
  have hrow : ∀ j : Nat, j < 6 → F.heap[H.size + 1 + j]? = some (Jvm.Free.Multi.innerC (cy 14) 60 (defaultValue .int)) := fun j hj => by
    have := Jvm.Free.Multi.fill_inner (T0.setVm vm₁) (cy 18) (cy 14) 6 60 (defaultValue .int) 6 j hj
    rw [hF, hTh] at this
    exact this
  rw [xv_outer] at f2
  have hlen : (xv_mn6 M).1.length = M.1.length + 7 := by simp [xv_mn6]
  have hP2 : va_P Dm vwCl (xv_W b cy (xv_mn6 M)) F.heap := by
    intro i q hq
    have hi : i < M.1.length + 7 := by
      have := (List.getElem?_eq_some_iff.mp hq).1
      rw [xv_W_len, hlen] at this
      exact this
    rw [xv_W_at (by rw [hlen]; exact hi)] at hq
    cases hq
    by_cases h1 : i < M.1.length
    · have e1 : (xv_mn6 M).1.getD i (99, 0) = M.1.getD i (99, 0) := by
        simp [xv_mn6, List.getD_eq_getElem?_getD, List.getElem?_append_left h1]
      have g1 : (xv_mn6 M).2.1 (i + 1) = M.2.1 (i + 1) := by funext j; simp [xv_mn6]; omega
      have g2 : (xv_mn6 M).2.2.1 (i + 1) = M.2.2.1 (i + 1) := by funext j; simp [xv_mn6]; omega
      have g3 : (xv_mn6 M).2.2.2 (i + 1) = M.2.2.2 (i + 1) := by funext j; simp [xv_mn6]; omega
      rw [e1, g1, g2, g3]
      exact (hP i _ (xv_W_at h1)).kept (hold _ ((hP i _ (xv_W_at h1)).lt))
    · by_cases h2 : i = M.1.length
      · subst h2
        have e1 : (xv_mn6 M).1.getD M.1.length (99, 0) = (18, 6) := by
          simp [xv_mn6, List.getD_eq_getElem?_getD]
        have e2 : b + (M.1.length + 1) = H.size := by rw [hs]; omega
        rw [e1, e2]
        show F.heap[H.size]? = some (vp_cell _ _)
        rw [f2]
        show some _ = some (vp_cell (cy 18) (6, .inr (.inr (.inr (.inr (fun j => xv_R b ((xv_mn6 M).2.2.2 (M.1.length + 1) j)))))))
        rw [vp_cell_q]
        refine congrArg some (congrArg (arrV (cy 18) 6) (funext fun j => congrArg va_rf ?_))
        have hv : (xv_mn6 M).2.2.2 (M.1.length + 1) j = if j < 6 then M.1.length + 2 + j else 0 := by
          show (if M.1.length + 1 ≤ M.1.length then _ else if M.1.length + 1 = M.1.length + 1 ∧ j < 6 then _ else 0) = _
          rw [if_neg (by omega)]
          by_cases hj : j < 6
          · rw [if_pos ⟨rfl, hj⟩, if_pos hj]
          · rw [if_neg (fun q => hj q.2), if_neg hj]
        rw [hv]
        by_cases hj : j < 6
        · rw [if_pos hj, if_pos hj]
          have e5 : H.size + 1 + j = b + (M.1.length + 2 + j) := by omega
          rw [e5]
          show _ = if M.1.length + 2 + j = 0 then none else some (b + (M.1.length + 2 + j))
          rw [if_neg (by omega)]
        · rw [if_neg hj, if_neg hj]
          rfl
      · have e1 : (xv_mn6 M).1.getD i (99, 0) = (14, 60) := by
          simp only [xv_mn6, List.getD_eq_getElem?_getD]
          rw [List.getElem?_append_right (by omega)]
          obtain ⟨u, hu⟩ : ∃ u, i - M.1.length = u + 1 := ⟨i - M.1.length - 1, by omega⟩
          rw [hu, List.getElem?_cons_succ, List.getElem?_replicate]
          rw [if_pos (by omega)]
          rfl
        have e2 : b + (i + 1) = H.size + 1 + (i - M.1.length - 1) := by rw [hs]; omega
        have g1 : (xv_mn6 M).2.1 (i + 1) = fun _ => 0 := by funext j; simp [xv_mn6]; omega
        rw [e1, e2, g1]
        show F.heap[H.size + 1 + (i - M.1.length - 1)]? = some (vp_cell _ _)
        rw [hrow _ (by omega)]
        show some _ = some (vp_cell (cy 14) (60, .inl (fun _ => Int32.ofInt 0)))
        rw [vp_cell_i]
        show some ({ cls := cy 14, slots := Array.replicate 60 (defaultValue .int), vm := .none } : Cell) = _
        rw [arrV_new]
        rfl
  have e9 : xv_val b (xr (M.1.length + 1)) = .ref H.size := by
    show xv_r b (M.1.length + 1) = _
    have e8 : b + (M.1.length + 1) = b + 1 + M.1.length := by omega
    rw [xv_r_s (by omega), hs, e8]
  have h2 := k (M.1.length + 1) (xv_mn6 M) hh F.heap locs ls hP2 (fun _ => by show F.heap.size = b + 1 + (xv_mn6 M).1.length; rw [f1, hlen, hs]; omega) ⟨by rw [f1]; have := hS.1; omega, fun x h1 h2 => (hold x (Nat.lt_of_lt_of_le h1 hS.1)).trans (hS.2.1 x h1 h2), hS.2.2⟩ hl
  simp only [List.map_cons] at h2
  rw [e9] at h2
  obtain ⟨t, a1, b1⟩ := h2 F rfl X'
  refine ⟨t, step t ?_, b1⟩
  have e : T0.heap.size = H.size := by rw [hT]
  rw [e]
  exact a1
end XMN
end
