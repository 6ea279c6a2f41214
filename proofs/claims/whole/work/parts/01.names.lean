-- ===== PART A: goes FIRST, ahead of the names: the tables' words, and 'selects' of the private methods out of them =====
/-- a private method of a class that the tables say can be made, by its rows of tables_1 -/
def lw_okq (q : MethodName × Nat) : Prop := (q.1.cls ≠ "java/lang/invoke/MethodHandle" ∧ q.1.cls ≠ "java/lang/invoke/VarHandle") ∧ Cond.instantiable q.1.cls q.2 ∈ tables_1 ∧ Cond.privateMethod q.1 ∈ tables_1 ∧ Cond.instanceMethod q.1 ∈ tables_1
theorem lw_p0 : lw_okq (⟨"AspenLine$Reader", "readToken", "()V"⟩, 8) := ⟨⟨by decide +kernel, by decide +kernel⟩, List.mem_of_getElem? (i := 108) (by decide +kernel), List.mem_of_getElem? (i := 260) (by decide +kernel), List.mem_of_getElem? (i := 261) (by decide +kernel)⟩
theorem lw_p1 : lw_okq (⟨"AspenLine$Reader", "endOfRun", "(III)I"⟩, 8) := ⟨⟨by decide +kernel, by decide +kernel⟩, List.mem_of_getElem? (i := 108) (by decide +kernel), List.mem_of_getElem? (i := 264) (by decide +kernel), List.mem_of_getElem? (i := 265) (by decide +kernel)⟩
theorem lw_p2 : lw_okq (⟨"AspenLine$Reader", "setToken", "(II)V"⟩, 8) := ⟨⟨by decide +kernel, by decide +kernel⟩, List.mem_of_getElem? (i := 108) (by decide +kernel), List.mem_of_getElem? (i := 268) (by decide +kernel), List.mem_of_getElem? (i := 269) (by decide +kernel)⟩
theorem lw_p3 : lw_okq (⟨"AspenLine$Reader", "fail", "(I)V"⟩, 8) := ⟨⟨by decide +kernel, by decide +kernel⟩, List.mem_of_getElem? (i := 108) (by decide +kernel), List.mem_of_getElem? (i := 272) (by decide +kernel), List.mem_of_getElem? (i := 273) (by decide +kernel)⟩
theorem lw_p4 : lw_okq (⟨"AspenLine$Reader", "readLine", "()V"⟩, 8) := ⟨⟨by decide +kernel, by decide +kernel⟩, List.mem_of_getElem? (i := 108) (by decide +kernel), List.mem_of_getElem? (i := 276) (by decide +kernel), List.mem_of_getElem? (i := 277) (by decide +kernel)⟩
theorem lw_p5 : lw_okq (⟨"AspenLine$Reader", "isNamed", "(Ljava/lang/String;)Z"⟩, 8) := ⟨⟨by decide +kernel, by decide +kernel⟩, List.mem_of_getElem? (i := 108) (by decide +kernel), List.mem_of_getElem? (i := 281) (by decide +kernel), List.mem_of_getElem? (i := 282) (by decide +kernel)⟩
theorem lw_p6 : lw_okq (⟨"AspenLine$Reader", "readTree", "(I)V"⟩, 8) := ⟨⟨by decide +kernel, by decide +kernel⟩, List.mem_of_getElem? (i := 108) (by decide +kernel), List.mem_of_getElem? (i := 333) (by decide +kernel), List.mem_of_getElem? (i := 334) (by decide +kernel)⟩
theorem lw_p7 : lw_okq (⟨"AspenLine$Reader", "takeName", "(ZI)V"⟩, 8) := ⟨⟨by decide +kernel, by decide +kernel⟩, List.mem_of_getElem? (i := 108) (by decide +kernel), List.mem_of_getElem? (i := 337) (by decide +kernel), List.mem_of_getElem? (i := 338) (by decide +kernel)⟩
theorem lw_p8 : lw_okq (⟨"AspenLine$Reader", "takeSign", "()V"⟩, 8) := ⟨⟨by decide +kernel, by decide +kernel⟩, List.mem_of_getElem? (i := 108) (by decide +kernel), List.mem_of_getElem? (i := 341) (by decide +kernel), List.mem_of_getElem? (i := 342) (by decide +kernel)⟩
theorem lw_p9 : lw_okq (⟨"AspenLine$Reader", "readRoot", "()V"⟩, 8) := ⟨⟨by decide +kernel, by decide +kernel⟩, List.mem_of_getElem? (i := 108) (by decide +kernel), List.mem_of_getElem? (i := 353) (by decide +kernel), List.mem_of_getElem? (i := 354) (by decide +kernel)⟩
theorem lw_p10 : lw_okq (⟨"AspenLine$Reader", "takeNumber", "(III)I"⟩, 8) := ⟨⟨by decide +kernel, by decide +kernel⟩, List.mem_of_getElem? (i := 108) (by decide +kernel), List.mem_of_getElem? (i := 357) (by decide +kernel), List.mem_of_getElem? (i := 358) (by decide +kernel)⟩
theorem lw_p11 : lw_okq (⟨"AspenLine$Reader", "value", "()I"⟩, 8) := ⟨⟨by decide +kernel, by decide +kernel⟩, List.mem_of_getElem? (i := 108) (by decide +kernel), List.mem_of_getElem? (i := 361) (by decide +kernel), List.mem_of_getElem? (i := 362) (by decide +kernel)⟩
theorem lw_p12 : lw_okq (⟨"AspenLine$Reader", "readWind", "()V"⟩, 8) := ⟨⟨by decide +kernel, by decide +kernel⟩, List.mem_of_getElem? (i := 108) (by decide +kernel), List.mem_of_getElem? (i := 371) (by decide +kernel), List.mem_of_getElem? (i := 372) (by decide +kernel)⟩
theorem lw_p13 : lw_okq (⟨"AspenLine$Reader", "readTalk", "()V"⟩, 8) := ⟨⟨by decide +kernel, by decide +kernel⟩, List.mem_of_getElem? (i := 108) (by decide +kernel), List.mem_of_getElem? (i := 376) (by decide +kernel), List.mem_of_getElem? (i := 377) (by decide +kernel)⟩
theorem lw_p14 : lw_okq (⟨"AspenLine$Grove", "shorten", "(III)Z"⟩, 14) := ⟨⟨by decide +kernel, by decide +kernel⟩, List.mem_of_getElem? (i := 26) (by decide +kernel), List.mem_of_getElem? (i := 431) (by decide +kernel), List.mem_of_getElem? (i := 432) (by decide +kernel)⟩
theorem lw_p15 : lw_okq (⟨"AspenLine$Grove", "hearersWithin", "([II)I"⟩, 14) := ⟨⟨by decide +kernel, by decide +kernel⟩, List.mem_of_getElem? (i := 26) (by decide +kernel), List.mem_of_getElem? (i := 438) (by decide +kernel), List.mem_of_getElem? (i := 439) (by decide +kernel)⟩
def lw_privs_1 : List (MethodName × Nat) := [(⟨"AspenLine$Reader", "readToken", "()V"⟩, 8), (⟨"AspenLine$Reader", "endOfRun", "(III)I"⟩, 8), (⟨"AspenLine$Reader", "setToken", "(II)V"⟩, 8), (⟨"AspenLine$Reader", "fail", "(I)V"⟩, 8), (⟨"AspenLine$Reader", "readLine", "()V"⟩, 8), (⟨"AspenLine$Reader", "isNamed", "(Ljava/lang/String;)Z"⟩, 8), (⟨"AspenLine$Reader", "readTree", "(I)V"⟩, 8), (⟨"AspenLine$Reader", "takeName", "(ZI)V"⟩, 8), (⟨"AspenLine$Reader", "takeSign", "()V"⟩, 8), (⟨"AspenLine$Reader", "readRoot", "()V"⟩, 8), (⟨"AspenLine$Reader", "takeNumber", "(III)I"⟩, 8), (⟨"AspenLine$Reader", "value", "()I"⟩, 8), (⟨"AspenLine$Reader", "readWind", "()V"⟩, 8), (⟨"AspenLine$Reader", "readTalk", "()V"⟩, 8), (⟨"AspenLine$Grove", "shorten", "(III)Z"⟩, 14), (⟨"AspenLine$Grove", "hearersWithin", "([II)I"⟩, 14)]
theorem lw_r1 : ∀ q ∈ lw_privs_1, lw_okq q := List.forall_mem_cons.mpr ⟨lw_p0, List.forall_mem_cons.mpr ⟨lw_p1, List.forall_mem_cons.mpr ⟨lw_p2, List.forall_mem_cons.mpr ⟨lw_p3, List.forall_mem_cons.mpr ⟨lw_p4, List.forall_mem_cons.mpr ⟨lw_p5, List.forall_mem_cons.mpr ⟨lw_p6, List.forall_mem_cons.mpr ⟨lw_p7, List.forall_mem_cons.mpr ⟨lw_p8, List.forall_mem_cons.mpr ⟨lw_p9, List.forall_mem_cons.mpr ⟨lw_p10, List.forall_mem_cons.mpr ⟨lw_p11, List.forall_mem_cons.mpr ⟨lw_p12, List.forall_mem_cons.mpr ⟨lw_p13, List.forall_mem_cons.mpr ⟨lw_p14, List.forall_mem_cons.mpr ⟨lw_p15, fun _ h => absurd h List.not_mem_nil⟩⟩⟩⟩⟩⟩⟩⟩⟩⟩⟩⟩⟩⟩⟩⟩
theorem lw_p16 : lw_okq (⟨"AspenLine", "meanHearers", "(IIIII)J"⟩, 9) := ⟨⟨by decide +kernel, by decide +kernel⟩, List.mem_of_getElem? (i := 18) (by decide +kernel), List.mem_of_getElem? (i := 646) (by decide +kernel), List.mem_of_getElem? (i := 647) (by decide +kernel)⟩
theorem lw_p17 : lw_okq (⟨"AspenLine$Sightings", "fit", "(LAspenLine$Grove;I[I)Z"⟩, 4) := ⟨⟨by decide +kernel, by decide +kernel⟩, List.mem_of_getElem? (i := 162) (by decide +kernel), List.mem_of_getElem? (i := 688) (by decide +kernel), List.mem_of_getElem? (i := 689) (by decide +kernel)⟩
theorem lw_p18 : lw_okq (⟨"AspenLine", "isImage", "(I)Z"⟩, 9) := ⟨⟨by decide +kernel, by decide +kernel⟩, List.mem_of_getElem? (i := 18) (by decide +kernel), List.mem_of_getElem? (i := 725) (by decide +kernel), List.mem_of_getElem? (i := 726) (by decide +kernel)⟩
theorem lw_p19 : lw_okq (⟨"AspenLine", "isKept", "(I)Z"⟩, 9) := ⟨⟨by decide +kernel, by decide +kernel⟩, List.mem_of_getElem? (i := 18) (by decide +kernel), List.mem_of_getElem? (i := 729) (by decide +kernel), List.mem_of_getElem? (i := 730) (by decide +kernel)⟩
theorem lw_p20 : lw_okq (⟨"AspenLine", "isSheet", "(I)Z"⟩, 9) := ⟨⟨by decide +kernel, by decide +kernel⟩, List.mem_of_getElem? (i := 18) (by decide +kernel), List.mem_of_getElem? (i := 741) (by decide +kernel), List.mem_of_getElem? (i := 742) (by decide +kernel)⟩
theorem lw_p21 : lw_okq (⟨"AspenLineModel", "step", "()V"⟩, 27) := ⟨⟨by decide +kernel, by decide +kernel⟩, List.mem_of_getElem? (i := 792) (by decide +kernel), List.mem_of_getElem? (i := 897) (by decide +kernel), List.mem_of_getElem? (i := 898) (by decide +kernel)⟩
theorem lw_p22 : lw_okq (⟨"AspenLineModel", "byteAt", "(I)I"⟩, 27) := ⟨⟨by decide +kernel, by decide +kernel⟩, List.mem_of_getElem? (i := 792) (by decide +kernel), List.mem_of_getElem? (i := 901) (by decide +kernel), List.mem_of_getElem? (i := 902) (by decide +kernel)⟩
theorem lw_p23 : lw_okq (⟨"AspenLineModel", "fails", "(I)V"⟩, 27) := ⟨⟨by decide +kernel, by decide +kernel⟩, List.mem_of_getElem? (i := 792) (by decide +kernel), List.mem_of_getElem? (i := 909) (by decide +kernel), List.mem_of_getElem? (i := 910) (by decide +kernel)⟩
theorem lw_p24 : lw_okq (⟨"AspenLineModel", "readLine", "()V"⟩, 27) := ⟨⟨by decide +kernel, by decide +kernel⟩, List.mem_of_getElem? (i := 792) (by decide +kernel), List.mem_of_getElem? (i := 913) (by decide +kernel), List.mem_of_getElem? (i := 914) (by decide +kernel)⟩
theorem lw_p25 : lw_okq (⟨"AspenLineModel", "nameHere", "()I"⟩, 27) := ⟨⟨by decide +kernel, by decide +kernel⟩, List.mem_of_getElem? (i := 792) (by decide +kernel), List.mem_of_getElem? (i := 917) (by decide +kernel), List.mem_of_getElem? (i := 918) (by decide +kernel)⟩
theorem lw_p26 : lw_okq (⟨"AspenLineModel", "isFull", "(I)Z"⟩, 27) := ⟨⟨by decide +kernel, by decide +kernel⟩, List.mem_of_getElem? (i := 792) (by decide +kernel), List.mem_of_getElem? (i := 922) (by decide +kernel), List.mem_of_getElem? (i := 923) (by decide +kernel)⟩
theorem lw_p27 : lw_okq (⟨"AspenLineModel", "readMore", "(I)V"⟩, 27) := ⟨⟨by decide +kernel, by decide +kernel⟩, List.mem_of_getElem? (i := 792) (by decide +kernel), List.mem_of_getElem? (i := 926) (by decide +kernel), List.mem_of_getElem? (i := 927) (by decide +kernel)⟩
theorem lw_p28 : lw_okq (⟨"AspenLineModel", "readRoot", "()V"⟩, 27) := ⟨⟨by decide +kernel, by decide +kernel⟩, List.mem_of_getElem? (i := 792) (by decide +kernel), List.mem_of_getElem? (i := 930) (by decide +kernel), List.mem_of_getElem? (i := 931) (by decide +kernel)⟩
theorem lw_p29 : lw_okq (⟨"AspenLineModel", "treeHere", "()I"⟩, 27) := ⟨⟨by decide +kernel, by decide +kernel⟩, List.mem_of_getElem? (i := 792) (by decide +kernel), List.mem_of_getElem? (i := 934) (by decide +kernel), List.mem_of_getElem? (i := 935) (by decide +kernel)⟩
theorem lw_p30 : lw_okq (⟨"AspenLineModel", "number", "(II)I"⟩, 27) := ⟨⟨by decide +kernel, by decide +kernel⟩, List.mem_of_getElem? (i := 792) (by decide +kernel), List.mem_of_getElem? (i := 938) (by decide +kernel), List.mem_of_getElem? (i := 939) (by decide +kernel)⟩
theorem lw_p31 : lw_okq (⟨"AspenLineModel", "crossedOn", "(I)I"⟩, 27) := ⟨⟨by decide +kernel, by decide +kernel⟩, List.mem_of_getElem? (i := 792) (by decide +kernel), List.mem_of_getElem? (i := 950) (by decide +kernel), List.mem_of_getElem? (i := 951) (by decide +kernel)⟩
def lw_privs_2 : List (MethodName × Nat) := [(⟨"AspenLine", "meanHearers", "(IIIII)J"⟩, 9), (⟨"AspenLine$Sightings", "fit", "(LAspenLine$Grove;I[I)Z"⟩, 4), (⟨"AspenLine", "isImage", "(I)Z"⟩, 9), (⟨"AspenLine", "isKept", "(I)Z"⟩, 9), (⟨"AspenLine", "isSheet", "(I)Z"⟩, 9), (⟨"AspenLineModel", "step", "()V"⟩, 27), (⟨"AspenLineModel", "byteAt", "(I)I"⟩, 27), (⟨"AspenLineModel", "fails", "(I)V"⟩, 27), (⟨"AspenLineModel", "readLine", "()V"⟩, 27), (⟨"AspenLineModel", "nameHere", "()I"⟩, 27), (⟨"AspenLineModel", "isFull", "(I)Z"⟩, 27), (⟨"AspenLineModel", "readMore", "(I)V"⟩, 27), (⟨"AspenLineModel", "readRoot", "()V"⟩, 27), (⟨"AspenLineModel", "treeHere", "()I"⟩, 27), (⟨"AspenLineModel", "number", "(II)I"⟩, 27), (⟨"AspenLineModel", "crossedOn", "(I)I"⟩, 27)]
theorem lw_r2 : ∀ q ∈ lw_privs_2, lw_okq q := List.forall_mem_cons.mpr ⟨lw_p16, List.forall_mem_cons.mpr ⟨lw_p17, List.forall_mem_cons.mpr ⟨lw_p18, List.forall_mem_cons.mpr ⟨lw_p19, List.forall_mem_cons.mpr ⟨lw_p20, List.forall_mem_cons.mpr ⟨lw_p21, List.forall_mem_cons.mpr ⟨lw_p22, List.forall_mem_cons.mpr ⟨lw_p23, List.forall_mem_cons.mpr ⟨lw_p24, List.forall_mem_cons.mpr ⟨lw_p25, List.forall_mem_cons.mpr ⟨lw_p26, List.forall_mem_cons.mpr ⟨lw_p27, List.forall_mem_cons.mpr ⟨lw_p28, List.forall_mem_cons.mpr ⟨lw_p29, List.forall_mem_cons.mpr ⟨lw_p30, List.forall_mem_cons.mpr ⟨lw_p31, fun _ h => absurd h List.not_mem_nil⟩⟩⟩⟩⟩⟩⟩⟩⟩⟩⟩⟩⟩⟩⟩⟩
theorem lw_p32 : lw_okq (⟨"AspenLineModel", "talksOn", "(I)I"⟩, 27) := ⟨⟨by decide +kernel, by decide +kernel⟩, List.mem_of_getElem? (i := 792) (by decide +kernel), List.mem_of_getElem? (i := 954) (by decide +kernel), List.mem_of_getElem? (i := 955) (by decide +kernel)⟩
theorem lw_p33 : lw_okq (⟨"AspenLineModel", "hearsOn", "(III)I"⟩, 27) := ⟨⟨by decide +kernel, by decide +kernel⟩, List.mem_of_getElem? (i := 792) (by decide +kernel), List.mem_of_getElem? (i := 958) (by decide +kernel), List.mem_of_getElem? (i := 959) (by decide +kernel)⟩
theorem lw_p34 : lw_okq (⟨"AspenLineModel", "waysOn", "(II)V"⟩, 27) := ⟨⟨by decide +kernel, by decide +kernel⟩, List.mem_of_getElem? (i := 792) (by decide +kernel), List.mem_of_getElem? (i := 962) (by decide +kernel), List.mem_of_getElem? (i := 963) (by decide +kernel)⟩
theorem lw_p35 : lw_okq (⟨"AspenLineModel", "hearersOn", "(II)I"⟩, 27) := ⟨⟨by decide +kernel, by decide +kernel⟩, List.mem_of_getElem? (i := 792) (by decide +kernel), List.mem_of_getElem? (i := 966) (by decide +kernel), List.mem_of_getElem? (i := 967) (by decide +kernel)⟩
theorem lw_p36 : lw_okq (⟨"AspenLineModel", "loudOn", "(III)I"⟩, 27) := ⟨⟨by decide +kernel, by decide +kernel⟩, List.mem_of_getElem? (i := 792) (by decide +kernel), List.mem_of_getElem? (i := 970) (by decide +kernel), List.mem_of_getElem? (i := 971) (by decide +kernel)⟩
theorem lw_p37 : lw_okq (⟨"AspenLineModel", "isTree", "(I)Z"⟩, 27) := ⟨⟨by decide +kernel, by decide +kernel⟩, List.mem_of_getElem? (i := 792) (by decide +kernel), List.mem_of_getElem? (i := 981) (by decide +kernel), List.mem_of_getElem? (i := 982) (by decide +kernel)⟩
theorem lw_p38 : lw_okq (⟨"AspenLineModel", "isRoot", "(I)Z"⟩, 27) := ⟨⟨by decide +kernel, by decide +kernel⟩, List.mem_of_getElem? (i := 792) (by decide +kernel), List.mem_of_getElem? (i := 990) (by decide +kernel), List.mem_of_getElem? (i := 991) (by decide +kernel)⟩
theorem lw_p39 : lw_okq (⟨"AspenLineModel", "isTalk", "(I)Z"⟩, 27) := ⟨⟨by decide +kernel, by decide +kernel⟩, List.mem_of_getElem? (i := 792) (by decide +kernel), List.mem_of_getElem? (i := 998) (by decide +kernel), List.mem_of_getElem? (i := 999) (by decide +kernel)⟩
theorem lw_p40 : lw_okq (⟨"AspenLineModel", "puts", "(ZII)I"⟩, 27) := ⟨⟨by decide +kernel, by decide +kernel⟩, List.mem_of_getElem? (i := 792) (by decide +kernel), List.mem_of_getElem? (i := 1018) (by decide +kernel), List.mem_of_getElem? (i := 1019) (by decide +kernel)⟩
theorem lw_p41 : lw_okq (⟨"AspenLineModel", "growsOn", "(IIII)V"⟩, 27) := ⟨⟨by decide +kernel, by decide +kernel⟩, List.mem_of_getElem? (i := 792) (by decide +kernel), List.mem_of_getElem? (i := 1031) (by decide +kernel), List.mem_of_getElem? (i := 1032) (by decide +kernel)⟩
theorem lw_p42 : lw_okq (⟨"AspenLineModel", "books", "(III)I"⟩, 27) := ⟨⟨by decide +kernel, by decide +kernel⟩, List.mem_of_getElem? (i := 792) (by decide +kernel), List.mem_of_getElem? (i := 1048) (by decide +kernel), List.mem_of_getElem? (i := 1049) (by decide +kernel)⟩
theorem lw_p43 : lw_okq (⟨"AspenLineModel", "isSome", "(I)Z"⟩, 27) := ⟨⟨by decide +kernel, by decide +kernel⟩, List.mem_of_getElem? (i := 792) (by decide +kernel), List.mem_of_getElem? (i := 1073) (by decide +kernel), List.mem_of_getElem? (i := 1074) (by decide +kernel)⟩
theorem lw_p44 : lw_okq (⟨"AspenLineModel", "leastOf", "(II)I"⟩, 27) := ⟨⟨by decide +kernel, by decide +kernel⟩, List.mem_of_getElem? (i := 792) (by decide +kernel), List.mem_of_getElem? (i := 1077) (by decide +kernel), List.mem_of_getElem? (i := 1078) (by decide +kernel)⟩
theorem lw_p45 : lw_okq (⟨"AspenLineModel", "cuts", "(I)Z"⟩, 27) := ⟨⟨by decide +kernel, by decide +kernel⟩, List.mem_of_getElem? (i := 792) (by decide +kernel), List.mem_of_getElem? (i := 1093) (by decide +kernel), List.mem_of_getElem? (i := 1094) (by decide +kernel)⟩
theorem lw_p46 : lw_okq (⟨"AspenLineModel", "copies", "(II)V"⟩, 27) := ⟨⟨by decide +kernel, by decide +kernel⟩, List.mem_of_getElem? (i := 792) (by decide +kernel), List.mem_of_getElem? (i := 1097) (by decide +kernel), List.mem_of_getElem? (i := 1098) (by decide +kernel)⟩
theorem lw_p47 : lw_okq (⟨"AspenLineModel", "byBeavers", "(IIIII)J"⟩, 27) := ⟨⟨by decide +kernel, by decide +kernel⟩, List.mem_of_getElem? (i := 792) (by decide +kernel), List.mem_of_getElem? (i := 1126) (by decide +kernel), List.mem_of_getElem? (i := 1127) (by decide +kernel)⟩
def lw_privs_3 : List (MethodName × Nat) := [(⟨"AspenLineModel", "talksOn", "(I)I"⟩, 27), (⟨"AspenLineModel", "hearsOn", "(III)I"⟩, 27), (⟨"AspenLineModel", "waysOn", "(II)V"⟩, 27), (⟨"AspenLineModel", "hearersOn", "(II)I"⟩, 27), (⟨"AspenLineModel", "loudOn", "(III)I"⟩, 27), (⟨"AspenLineModel", "isTree", "(I)Z"⟩, 27), (⟨"AspenLineModel", "isRoot", "(I)Z"⟩, 27), (⟨"AspenLineModel", "isTalk", "(I)Z"⟩, 27), (⟨"AspenLineModel", "puts", "(ZII)I"⟩, 27), (⟨"AspenLineModel", "growsOn", "(IIII)V"⟩, 27), (⟨"AspenLineModel", "books", "(III)I"⟩, 27), (⟨"AspenLineModel", "isSome", "(I)Z"⟩, 27), (⟨"AspenLineModel", "leastOf", "(II)I"⟩, 27), (⟨"AspenLineModel", "cuts", "(I)Z"⟩, 27), (⟨"AspenLineModel", "copies", "(II)V"⟩, 27), (⟨"AspenLineModel", "byBeavers", "(IIIII)J"⟩, 27)]
theorem lw_r3 : ∀ q ∈ lw_privs_3, lw_okq q := List.forall_mem_cons.mpr ⟨lw_p32, List.forall_mem_cons.mpr ⟨lw_p33, List.forall_mem_cons.mpr ⟨lw_p34, List.forall_mem_cons.mpr ⟨lw_p35, List.forall_mem_cons.mpr ⟨lw_p36, List.forall_mem_cons.mpr ⟨lw_p37, List.forall_mem_cons.mpr ⟨lw_p38, List.forall_mem_cons.mpr ⟨lw_p39, List.forall_mem_cons.mpr ⟨lw_p40, List.forall_mem_cons.mpr ⟨lw_p41, List.forall_mem_cons.mpr ⟨lw_p42, List.forall_mem_cons.mpr ⟨lw_p43, List.forall_mem_cons.mpr ⟨lw_p44, List.forall_mem_cons.mpr ⟨lw_p45, List.forall_mem_cons.mpr ⟨lw_p46, List.forall_mem_cons.mpr ⟨lw_p47, fun _ h => absurd h List.not_mem_nil⟩⟩⟩⟩⟩⟩⟩⟩⟩⟩⟩⟩⟩⟩⟩⟩
theorem lw_p48 : lw_okq (⟨"AspenLineModel", "sayersOn", "(I)I"⟩, 27) := ⟨⟨by decide +kernel, by decide +kernel⟩, List.mem_of_getElem? (i := 792) (by decide +kernel), List.mem_of_getElem? (i := 1151) (by decide +kernel), List.mem_of_getElem? (i := 1152) (by decide +kernel)⟩
theorem lw_p49 : lw_okq (⟨"AspenLineModel", "breathsOn", "(II)I"⟩, 27) := ⟨⟨by decide +kernel, by decide +kernel⟩, List.mem_of_getElem? (i := 792) (by decide +kernel), List.mem_of_getElem? (i := 1155) (by decide +kernel), List.mem_of_getElem? (i := 1156) (by decide +kernel)⟩
theorem lw_p50 : lw_okq (⟨"AspenLineModel", "isAsSeen", "(II)Z"⟩, 27) := ⟨⟨by decide +kernel, by decide +kernel⟩, List.mem_of_getElem? (i := 792) (by decide +kernel), List.mem_of_getElem? (i := 1159) (by decide +kernel), List.mem_of_getElem? (i := 1160) (by decide +kernel)⟩
def lw_privs_4 : List (MethodName × Nat) := [(⟨"AspenLineModel", "sayersOn", "(I)I"⟩, 27), (⟨"AspenLineModel", "breathsOn", "(II)I"⟩, 27), (⟨"AspenLineModel", "isAsSeen", "(II)Z"⟩, 27)]
theorem lw_r4 : ∀ q ∈ lw_privs_4, lw_okq q := List.forall_mem_cons.mpr ⟨lw_p48, List.forall_mem_cons.mpr ⟨lw_p49, List.forall_mem_cons.mpr ⟨lw_p50, fun _ h => absurd h List.not_mem_nil⟩⟩⟩
def lw_privs : List (MethodName × Nat) := lw_privs_1 ++ (lw_privs_2 ++ (lw_privs_3 ++ (lw_privs_4)))
def lw_tbl : List Cond := k2_sels lw_privs ++ tables_1
theorem lw_privs_ok : ∀ q ∈ lw_privs, lw_okq q := by
  show ∀ q ∈ lw_privs_1 ++ (lw_privs_2 ++ (lw_privs_3 ++ (lw_privs_4))), lw_okq q
  exact List.forall_mem_append.mpr ⟨lw_r1, List.forall_mem_append.mpr ⟨lw_r2, List.forall_mem_append.mpr ⟨lw_r3, lw_r4⟩⟩⟩
abbrev RX0 : String := "AspenLine$Best"
def TX0 : u_T := fun k => match k with
  | 0 => ("AspenLine$Best", "choice", "I", false)
  | _ => ("AspenLine$Best", "amount", "I", false)
def tyX0 : Nat → FieldType := fun k => match k with
  | 0 => .int
  | _ => .int
theorem nmX0 : ∀ a, a < 2 → ∀ b, b < 2 → a ≠ b → (TX0 a).2.1 ≠ (TX0 b).2.1 := by decide +kernel
theorem tyX0_ok : ∀ k, k < 2 → parseFieldDescriptor (TX0 k).2.2.1 = some (tyX0 k) := by decide +kernel
abbrev cX0_init : ByteArray := prog_2_method_1_code
abbrev yX0_init : MethodName := ⟨"AspenLine$Best", "<init>", "()V"⟩
abbrev cX0_below : ByteArray := prog_2_method_2_code
abbrev yX0_below : MethodName := ⟨"AspenLine$Best", "below", "(I)V"⟩
abbrev cX0_offer : ByteArray := prog_2_method_3_code
abbrev yX0_offer : MethodName := ⟨"AspenLine$Best", "offer", "(II)V"⟩
abbrev cX0_isNone : ByteArray := prog_2_method_4_code
abbrev yX0_isNone : MethodName := ⟨"AspenLine$Best", "isNone", "()Z"⟩
abbrev cX0_told : ByteArray := prog_2_method_5_code
abbrev yX0_told : MethodName := ⟨"AspenLine$Best", "told", "(I)I"⟩
abbrev RX1 : String := "AspenLine$Grove"
def TX1 : u_T := fun k => match k with
  | 0 => ("AspenLine$Grove", "treeCount", "I", false)
  | 1 => ("AspenLine$Grove", "kinds", "[I", true)
  | 2 => ("AspenLine$Grove", "rootCount", "I", false)
  | 3 => ("AspenLine$Grove", "firsts", "[I", true)
  | 4 => ("AspenLine$Grove", "seconds", "[I", true)
  | 5 => ("AspenLine$Grove", "lengths", "[I", true)
  | 6 => ("AspenLine$Grove", "cutBits", "I", false)
  | 7 => ("AspenLine$Grove", "windNow", "I", false)
  | 8 => ("AspenLine$Grove", "talkCount", "I", false)
  | 9 => ("AspenLine$Grove", "hours", "[I", true)
  | 10 => ("AspenLine$Grove", "speakers", "[I", true)
  | 11 => ("AspenLine$Grove", "talkBreaths", "[I", true)
  | 12 => ("AspenLine$Grove", "distances", "[I", true)
  | _ => ("AspenLine$Grove", "heard", "[I", true)
def tyX1 : Nat → FieldType := fun k => match k with
  | 0 => .int
  | 1 => .array .int
  | 2 => .int
  | 3 => .array .int
  | 4 => .array .int
  | 5 => .array .int
  | 6 => .int
  | 7 => .int
  | 8 => .int
  | 9 => .array .int
  | 10 => .array .int
  | 11 => .array .int
  | 12 => .array .int
  | _ => .array .int
theorem nmX1 : ∀ a, a < 14 → ∀ b, b < 14 → a ≠ b → (TX1 a).2.1 ≠ (TX1 b).2.1 := by decide +kernel
theorem tyX1_ok : ∀ k, k < 14 → parseFieldDescriptor (TX1 k).2.2.1 = some (tyX1 k) := by decide +kernel
abbrev cX1_init : ByteArray := prog_3_method_1_code
abbrev yX1_init : MethodName := ⟨"AspenLine$Grove", "<init>", "()V"⟩
abbrev cX1_clear : ByteArray := prog_3_method_2_code
abbrev yX1_clear : MethodName := ⟨"AspenLine$Grove", "clear", "()V"⟩
abbrev cX1_become : ByteArray := prog_3_method_3_code
abbrev yX1_become : MethodName := ⟨"AspenLine$Grove", "become", "(LAspenLine$Grove;)V"⟩
abbrev cX1_addTree : ByteArray := prog_3_method_4_code
abbrev yX1_addTree : MethodName := ⟨"AspenLine$Grove", "addTree", "(I)I"⟩
abbrev cX1_addRoot : ByteArray := prog_3_method_5_code
abbrev yX1_addRoot : MethodName := ⟨"AspenLine$Grove", "addRoot", "(III)I"⟩
abbrev cX1_addTalk : ByteArray := prog_3_method_6_code
abbrev yX1_addTalk : MethodName := ⟨"AspenLine$Grove", "addTalk", "(III)I"⟩
abbrev cX1_keepFirstTalks : ByteArray := prog_3_method_7_code
abbrev yX1_keepFirstTalks : MethodName := ⟨"AspenLine$Grove", "keepFirstTalks", "(I)I"⟩
abbrev cX1_hasTree : ByteArray := prog_3_method_8_code
abbrev yX1_hasTree : MethodName := ⟨"AspenLine$Grove", "hasTree", "(I)Z"⟩
abbrev cX1_hasTrees : ByteArray := prog_3_method_9_code
abbrev yX1_hasTrees : MethodName := ⟨"AspenLine$Grove", "hasTrees", "(I)Z"⟩
abbrev cX1_hasRoot : ByteArray := prog_3_method_10_code
abbrev yX1_hasRoot : MethodName := ⟨"AspenLine$Grove", "hasRoot", "(I)Z"⟩
abbrev cX1_hasTalk : ByteArray := prog_3_method_11_code
abbrev yX1_hasTalk : MethodName := ⟨"AspenLine$Grove", "hasTalk", "(I)Z"⟩
abbrev cX1_allTrees : ByteArray := prog_3_method_12_code
abbrev yX1_allTrees : MethodName := ⟨"AspenLine$Grove", "allTrees", "()I"⟩
abbrev cX1_isWhole : ByteArray := prog_3_method_13_code
abbrev yX1_isWhole : MethodName := ⟨"AspenLine$Grove", "isWhole", "(I)Z"⟩
abbrev cX1_lacksTree : ByteArray := prog_3_method_14_code
abbrev yX1_lacksTree : MethodName := ⟨"AspenLine$Grove", "lacksTree", "()Z"⟩
abbrev cX1_wholeRootsOf : ByteArray := prog_3_method_15_code
abbrev yX1_wholeRootsOf : MethodName := ⟨"AspenLine$Grove", "wholeRootsOf", "(I)I"⟩
abbrev cX1_measure : ByteArray := prog_3_method_16_code
abbrev yX1_measure : MethodName := ⟨"AspenLine$Grove", "measure", "(I)[I"⟩
abbrev cX1_shorten : ByteArray := prog_3_method_17_code
abbrev yX1_shorten : MethodName := ⟨"AspenLine$Grove", "shorten", "(III)Z"⟩
abbrev cX1_treesInReach : ByteArray := prog_3_method_18_code
abbrev yX1_treesInReach : MethodName := ⟨"AspenLine$Grove", "treesInReach", "(I)I"⟩
abbrev cX1_loudness : ByteArray := prog_3_method_19_code
abbrev yX1_loudness : MethodName := ⟨"AspenLine$Grove", "loudness", "(II[I)I"⟩
abbrev cX1_hearers : ByteArray := prog_3_method_20_code
abbrev yX1_hearers : MethodName := ⟨"AspenLine$Grove", "hearers", "(II)I"⟩
abbrev cX1_hearersWithin : ByteArray := prog_3_method_21_code
abbrev yX1_hearersWithin : MethodName := ⟨"AspenLine$Grove", "hearersWithin", "([II)I"⟩
abbrev cX1_leastBreath : ByteArray := prog_3_method_22_code
abbrev yX1_leastBreath : MethodName := ⟨"AspenLine$Grove", "leastBreath", "(III)I"⟩
abbrev cX1_listen : ByteArray := prog_3_method_23_code
abbrev yX1_listen : MethodName := ⟨"AspenLine$Grove", "listen", "()[I"⟩
abbrev cX1_talksHeardAt : ByteArray := prog_3_method_24_code
abbrev yX1_talksHeardAt : MethodName := ⟨"AspenLine$Grove", "talksHeardAt", "(I)I"⟩
abbrev cX1_hearersOfAllTalks : ByteArray := prog_3_method_25_code
abbrev yX1_hearersOfAllTalks : MethodName := ⟨"AspenLine$Grove", "hearersOfAllTalks", "()I"⟩
abbrev cX1_areCrossed : ByteArray := prog_3_method_26_code
abbrev yX1_areCrossed : MethodName := ⟨"AspenLine$Grove", "areCrossed", "(II[I)Z"⟩
abbrev cX1_crossedPairs : ByteArray := prog_3_method_27_code
abbrev yX1_crossedPairs : MethodName := ⟨"AspenLine$Grove", "crossedPairs", "()I"⟩
abbrev RX2 : String := "AspenLine$Reader"
def TX2 : u_T := fun k => match k with
  | 0 => ("AspenLine$Reader", "tape", "LAspenLine$Tape;", true)
  | 1 => ("AspenLine$Reader", "draft", "LAspenLine$Grove;", true)
  | 2 => ("AspenLine$Reader", "fault", "I", false)
  | 3 => ("AspenLine$Reader", "faultPlace", "I", false)
  | 4 => ("AspenLine$Reader", "tokenKind", "I", false)
  | 5 => ("AspenLine$Reader", "tokenStart", "I", false)
  | 6 => ("AspenLine$Reader", "tokenEnd", "I", false)
  | _ => ("AspenLine$Reader", "windTold", "Z", false)
def tyX2 : Nat → FieldType := fun k => match k with
  | 0 => .object "AspenLine$Tape"
  | 1 => .object "AspenLine$Grove"
  | 2 => .int
  | 3 => .int
  | 4 => .int
  | 5 => .int
  | 6 => .int
  | _ => .boolean
theorem nmX2 : ∀ a, a < 8 → ∀ b, b < 8 → a ≠ b → (TX2 a).2.1 ≠ (TX2 b).2.1 := by decide +kernel
theorem tyX2_ok : ∀ k, k < 8 → parseFieldDescriptor (TX2 k).2.2.1 = some (tyX2 k) := by decide +kernel
abbrev cX2_init : ByteArray := prog_4_method_1_code
abbrev yX2_init : MethodName := ⟨"AspenLine$Reader", "<init>", "()V"⟩
abbrev cX2_readWhole : ByteArray := prog_4_method_2_code
abbrev yX2_readWhole : MethodName := ⟨"AspenLine$Reader", "readWhole", "()I"⟩
abbrev cX2_fail : ByteArray := prog_4_method_3_code
abbrev yX2_fail : MethodName := ⟨"AspenLine$Reader", "fail", "(I)V"⟩
abbrev cX2_readLine : ByteArray := prog_4_method_4_code
abbrev yX2_readLine : MethodName := ⟨"AspenLine$Reader", "readLine", "()V"⟩
abbrev cX2_readTree : ByteArray := prog_4_method_5_code
abbrev yX2_readTree : MethodName := ⟨"AspenLine$Reader", "readTree", "(I)V"⟩
abbrev cX2_readRoot : ByteArray := prog_4_method_6_code
abbrev yX2_readRoot : MethodName := ⟨"AspenLine$Reader", "readRoot", "()V"⟩
abbrev cX2_readWind : ByteArray := prog_4_method_7_code
abbrev yX2_readWind : MethodName := ⟨"AspenLine$Reader", "readWind", "()V"⟩
abbrev cX2_readTalk : ByteArray := prog_4_method_8_code
abbrev yX2_readTalk : MethodName := ⟨"AspenLine$Reader", "readTalk", "()V"⟩
abbrev cX2_takeName : ByteArray := prog_4_method_9_code
abbrev yX2_takeName : MethodName := ⟨"AspenLine$Reader", "takeName", "(ZI)V"⟩
abbrev cX2_takeSign : ByteArray := prog_4_method_10_code
abbrev yX2_takeSign : MethodName := ⟨"AspenLine$Reader", "takeSign", "()V"⟩
abbrev cX2_takeNumber : ByteArray := prog_4_method_11_code
abbrev yX2_takeNumber : MethodName := ⟨"AspenLine$Reader", "takeNumber", "(III)I"⟩
abbrev cX2_readToken : ByteArray := prog_4_method_12_code
abbrev yX2_readToken : MethodName := ⟨"AspenLine$Reader", "readToken", "()V"⟩
abbrev cX2_setToken : ByteArray := prog_4_method_13_code
abbrev yX2_setToken : MethodName := ⟨"AspenLine$Reader", "setToken", "(II)V"⟩
abbrev cX2_value : ByteArray := prog_4_method_14_code
abbrev yX2_value : MethodName := ⟨"AspenLine$Reader", "value", "()I"⟩
abbrev cX2_endOfRun : ByteArray := prog_4_method_15_code
abbrev yX2_endOfRun : MethodName := ⟨"AspenLine$Reader", "endOfRun", "(III)I"⟩
abbrev cX2_isNamed : ByteArray := prog_4_method_16_code
abbrev yX2_isNamed : MethodName := ⟨"AspenLine$Reader", "isNamed", "(Ljava/lang/String;)Z"⟩
abbrev RX3 : String := "AspenLine$Sheet"
def TX3 : u_T := fun k => match k with
  | 0 => ("AspenLine$Sheet", "size", "I", false)
  | 1 => ("AspenLine$Sheet", "cells", "[I", true)
  | _ => ("AspenLine$Sheet", "lane", "I", false)
def tyX3 : Nat → FieldType := fun k => match k with
  | 0 => .int
  | 1 => .array .int
  | _ => .int
theorem nmX3 : ∀ a, a < 3 → ∀ b, b < 3 → a ≠ b → (TX3 a).2.1 ≠ (TX3 b).2.1 := by decide +kernel
theorem tyX3_ok : ∀ k, k < 3 → parseFieldDescriptor (TX3 k).2.2.1 = some (tyX3 k) := by decide +kernel
abbrev cX3_init : ByteArray := prog_5_method_1_code
abbrev yX3_init : MethodName := ⟨"AspenLine$Sheet", "<init>", "()V"⟩
abbrev cX3_isNothing : ByteArray := prog_5_method_2_code
abbrev yX3_isNothing : MethodName := ⟨"AspenLine$Sheet", "isNothing", "()Z"⟩
abbrev cX3_renew : ByteArray := prog_5_method_3_code
abbrev yX3_renew : MethodName := ⟨"AspenLine$Sheet", "renew", "(II)V"⟩
abbrev cX3_faultOfCells : ByteArray := prog_5_method_4_code
abbrev yX3_faultOfCells : MethodName := ⟨"AspenLine$Sheet", "faultOfCells", "(II)I"⟩
abbrev cX3_faultOfReading : ByteArray := prog_5_method_5_code
abbrev yX3_faultOfReading : MethodName := ⟨"AspenLine$Sheet", "faultOfReading", "(II)I"⟩
abbrev cX3_put : ByteArray := prog_5_method_6_code
abbrev yX3_put : MethodName := ⟨"AspenLine$Sheet", "put", "(II)V"⟩
abbrev RX4 : String := "AspenLine$Sightings"
def TX4 : u_T := fun k => match k with
  | 0 => ("AspenLine$Sightings", "size", "I", false)
  | 1 => ("AspenLine$Sightings", "places", "[I", true)
  | 2 => ("AspenLine$Sightings", "louds", "[I", true)
  | _ => ("AspenLine$Sightings", "left", "[I", true)
def tyX4 : Nat → FieldType := fun k => match k with
  | 0 => .int
  | 1 => .array .int
  | 2 => .array .int
  | _ => .array .int
theorem nmX4 : ∀ a, a < 4 → ∀ b, b < 4 → a ≠ b → (TX4 a).2.1 ≠ (TX4 b).2.1 := by decide +kernel
theorem tyX4_ok : ∀ k, k < 4 → parseFieldDescriptor (TX4 k).2.2.1 = some (tyX4 k) := by decide +kernel
abbrev cX4_init : ByteArray := prog_6_method_1_code
abbrev yX4_init : MethodName := ⟨"AspenLine$Sightings", "<init>", "()V"⟩
abbrev cX4_add : ByteArray := prog_6_method_2_code
abbrev yX4_add : MethodName := ⟨"AspenLine$Sightings", "add", "(II)I"⟩
abbrev cX4_keepFirst : ByteArray := prog_6_method_3_code
abbrev yX4_keepFirst : MethodName := ⟨"AspenLine$Sightings", "keepFirst", "(I)I"⟩
abbrev cX4_fit : ByteArray := prog_6_method_4_code
abbrev yX4_fit : MethodName := ⟨"AspenLine$Sightings", "fit", "(LAspenLine$Grove;I[I)Z"⟩
abbrev cX4_howManyBreaths : ByteArray := prog_6_method_5_code
abbrev yX4_howManyBreaths : MethodName := ⟨"AspenLine$Sightings", "howManyBreaths", "(LAspenLine$Grove;I)I"⟩
abbrev cX4_leastPossible : ByteArray := prog_6_method_6_code
abbrev yX4_leastPossible : MethodName := ⟨"AspenLine$Sightings", "leastPossible", "(LAspenLine$Grove;I)I"⟩
abbrev cX4_possibleSayers : ByteArray := prog_6_method_7_code
abbrev yX4_possibleSayers : MethodName := ⟨"AspenLine$Sightings", "possibleSayers", "(LAspenLine$Grove;)I"⟩
abbrev cX4_leftAtWorst : ByteArray := prog_6_method_8_code
abbrev yX4_leftAtWorst : MethodName := ⟨"AspenLine$Sightings", "leftAtWorst", "(LAspenLine$Grove;I)I"⟩
abbrev RX5 : String := "AspenLine$Tape"
def TX5 : u_T := fun k => match k with
  | 0 => ("AspenLine$Tape", "size", "I", false)
  | _ => ("AspenLine$Tape", "bytes", "[B", true)
def tyX5 : Nat → FieldType := fun k => match k with
  | 0 => .int
  | _ => .array .byte
theorem nmX5 : ∀ a, a < 2 → ∀ b, b < 2 → a ≠ b → (TX5 a).2.1 ≠ (TX5 b).2.1 := by decide +kernel
theorem tyX5_ok : ∀ k, k < 2 → parseFieldDescriptor (TX5 k).2.2.1 = some (tyX5 k) := by decide +kernel
abbrev cX5_init : ByteArray := prog_7_method_1_code
abbrev yX5_init : MethodName := ⟨"AspenLine$Tape", "<init>", "()V"⟩
abbrev cX5_add : ByteArray := prog_7_method_2_code
abbrev yX5_add : MethodName := ⟨"AspenLine$Tape", "add", "(I)I"⟩
abbrev cX5_keepFirst : ByteArray := prog_7_method_3_code
abbrev yX5_keepFirst : MethodName := ⟨"AspenLine$Tape", "keepFirst", "(I)I"⟩
abbrev RX6 : String := "AspenLine"
def TX6 : u_T := fun k => match k with
  | 0 => ("AspenLine", "live", "LAspenLine$Grove;", true)
  | 1 => ("AspenLine", "trial", "LAspenLine$Grove;", true)
  | 2 => ("AspenLine", "images", "[LAspenLine$Grove;", true)
  | 3 => ("AspenLine", "best", "LAspenLine$Best;", true)
  | 4 => ("AspenLine", "reader", "LAspenLine$Reader;", true)
  | 5 => ("AspenLine", "seen", "LAspenLine$Sightings;", true)
  | 6 => ("AspenLine", "sheets", "[LAspenLine$Sheet;", true)
  | 7 => ("AspenLine", "keptBits", "I", false)
  | _ => ("AspenLine", "readFault", "I", false)
def tyX6 : Nat → FieldType := fun k => match k with
  | 0 => .object "AspenLine$Grove"
  | 1 => .object "AspenLine$Grove"
  | 2 => .array (.object "AspenLine$Grove")
  | 3 => .object "AspenLine$Best"
  | 4 => .object "AspenLine$Reader"
  | 5 => .object "AspenLine$Sightings"
  | 6 => .array (.object "AspenLine$Sheet")
  | 7 => .int
  | _ => .int
theorem nmX6 : ∀ a, a < 9 → ∀ b, b < 9 → a ≠ b → (TX6 a).2.1 ≠ (TX6 b).2.1 := by decide +kernel
theorem tyX6_ok : ∀ k, k < 9 → parseFieldDescriptor (TX6 k).2.2.1 = some (tyX6 k) := by decide +kernel
abbrev cX6_init : ByteArray := prog_1_method_1_code
abbrev yX6_init : MethodName := ⟨"AspenLine", "<init>", "()V"⟩
abbrev cX6_feed : ByteArray := prog_1_method_2_code
abbrev yX6_feed : MethodName := ⟨"AspenLine", "feed", "(I)I"⟩
abbrev cX6_end : ByteArray := prog_1_method_3_code
abbrev yX6_end : MethodName := ⟨"AspenLine", "end", "(I)I"⟩
abbrev cX6_text : ByteArray := prog_1_method_4_code
abbrev yX6_text : MethodName := ⟨"AspenLine", "text", "()I"⟩
abbrev cX6_fault : ByteArray := prog_1_method_5_code
abbrev yX6_fault : MethodName := ⟨"AspenLine", "fault", "()I"⟩
abbrev cX6_rule : ByteArray := prog_1_method_6_code
abbrev yX6_rule : MethodName := ⟨"AspenLine", "rule", "(I)I"⟩
abbrev cX6_tree : ByteArray := prog_1_method_7_code
abbrev yX6_tree : MethodName := ⟨"AspenLine", "tree", "(II)I"⟩
abbrev cX6_root : ByteArray := prog_1_method_8_code
abbrev yX6_root : MethodName := ⟨"AspenLine", "root", "(II)I"⟩
abbrev cX6_talk : ByteArray := prog_1_method_9_code
abbrev yX6_talk : MethodName := ⟨"AspenLine", "talk", "(II)I"⟩
abbrev cX6_far : ByteArray := prog_1_method_10_code
abbrev yX6_far : MethodName := ⟨"AspenLine", "far", "(II)I"⟩
abbrev cX6_loud : ByteArray := prog_1_method_11_code
abbrev yX6_loud : MethodName := ⟨"AspenLine", "loud", "(III)I"⟩
abbrev cX6_graft : ByteArray := prog_1_method_12_code
abbrev yX6_graft : MethodName := ⟨"AspenLine", "graft", "(II)I"⟩
abbrev cX6_stretch : ByteArray := prog_1_method_13_code
abbrev yX6_stretch : MethodName := ⟨"AspenLine", "stretch", "(II)I"⟩
abbrev cX6_grow : ByteArray := prog_1_method_14_code
abbrev yX6_grow : MethodName := ⟨"AspenLine", "grow", "(III)I"⟩
abbrev cX6_cut : ByteArray := prog_1_method_15_code
abbrev yX6_cut : MethodName := ⟨"AspenLine", "cut", "(IZ)I"⟩
abbrev cX6_wind : ByteArray := prog_1_method_16_code
abbrev yX6_wind : MethodName := ⟨"AspenLine", "wind", "(I)I"⟩
abbrev cX6_book : ByteArray := prog_1_method_17_code
abbrev yX6_book : MethodName := ⟨"AspenLine", "book", "(III)I"⟩
abbrev cX6_shift : ByteArray := prog_1_method_18_code
abbrev yX6_shift : MethodName := ⟨"AspenLine", "shift", "(III)I"⟩
abbrev cX6_drop : ByteArray := prog_1_method_19_code
abbrev yX6_drop : MethodName := ⟨"AspenLine", "drop", "(I)I"⟩
abbrev cX6_hears : ByteArray := prog_1_method_20_code
abbrev yX6_hears : MethodName := ⟨"AspenLine", "hears", "(II)I"⟩
abbrev cX6_crossed : ByteArray := prog_1_method_21_code
abbrev yX6_crossed : MethodName := ⟨"AspenLine", "crossed", "(II)I"⟩
abbrev cX6_least : ByteArray := prog_1_method_22_code
abbrev yX6_least : MethodName := ⟨"AspenLine", "least", "(II)I"⟩
abbrev cX6_just : ByteArray := prog_1_method_23_code
abbrev yX6_just : MethodName := ⟨"AspenLine", "just", "(II)I"⟩
abbrev cX6_from : ByteArray := prog_1_method_24_code
abbrev yX6_from : MethodName := ⟨"AspenLine", "from", "(II)I"⟩
abbrev cX6_hush : ByteArray := prog_1_method_25_code
abbrev yX6_hush : MethodName := ⟨"AspenLine", "hush", "(IIII)I"⟩
abbrev cX6_join : ByteArray := prog_1_method_26_code
abbrev yX6_join : MethodName := ⟨"AspenLine", "join", "(IIII)I"⟩
abbrev cX6_dear : ByteArray := prog_1_method_27_code
abbrev yX6_dear : MethodName := ⟨"AspenLine", "dear", "(I)I"⟩
abbrev cX6_hour : ByteArray := prog_1_method_28_code
abbrev yX6_hour : MethodName := ⟨"AspenLine", "hour", "(II)I"⟩
abbrev cX6_kind : ByteArray := prog_1_method_29_code
abbrev yX6_kind : MethodName := ⟨"AspenLine", "kind", "(II)I"⟩
abbrev cX6_calm : ByteArray := prog_1_method_30_code
abbrev yX6_calm : MethodName := ⟨"AspenLine", "calm", "()I"⟩
abbrev cX6_luck : ByteArray := prog_1_method_31_code
abbrev yX6_luck : MethodName := ⟨"AspenLine", "luck", "(IIIII)J"⟩
abbrev cX6_mean : ByteArray := prog_1_method_32_code
abbrev yX6_mean : MethodName := ⟨"AspenLine", "mean", "(IIII)J"⟩
abbrev cX6_meanHearers : ByteArray := prog_1_method_33_code
abbrev yX6_meanHearers : MethodName := ⟨"AspenLine", "meanHearers", "(IIIII)J"⟩
abbrev cX6_see : ByteArray := prog_1_method_34_code
abbrev yX6_see : MethodName := ⟨"AspenLine", "see", "(II)I"⟩
abbrev cX6_forget : ByteArray := prog_1_method_35_code
abbrev yX6_forget : MethodName := ⟨"AspenLine", "forget", "(I)I"⟩
abbrev cX6_sayers : ByteArray := prog_1_method_36_code
abbrev yX6_sayers : MethodName := ⟨"AspenLine", "sayers", "()I"⟩
abbrev cX6_breaths : ByteArray := prog_1_method_37_code
abbrev yX6_breaths : MethodName := ⟨"AspenLine", "breaths", "(II)I"⟩
abbrev cX6_kinds : ByteArray := prog_1_method_38_code
abbrev yX6_kinds : MethodName := ⟨"AspenLine", "kinds", "(I)I"⟩
abbrev cX6_ask : ByteArray := prog_1_method_39_code
abbrev yX6_ask : MethodName := ⟨"AspenLine", "ask", "(I)I"⟩
abbrev cX6_drift : ByteArray := prog_1_method_40_code
abbrev yX6_drift : MethodName := ⟨"AspenLine", "drift", "(III)I"⟩
abbrev cX6_keep : ByteArray := prog_1_method_41_code
abbrev yX6_keep : MethodName := ⟨"AspenLine", "keep", "(I)I"⟩
abbrev cX6_back : ByteArray := prog_1_method_42_code
abbrev yX6_back : MethodName := ⟨"AspenLine", "back", "(I)I"⟩
abbrev cX6_sheet : ByteArray := prog_1_method_43_code
abbrev yX6_sheet : MethodName := ⟨"AspenLine", "sheet", "(III)I"⟩
abbrev cX6_lay : ByteArray := prog_1_method_44_code
abbrev yX6_lay : MethodName := ⟨"AspenLine", "lay", "(III)I"⟩
abbrev cX6_read : ByteArray := prog_1_method_45_code
abbrev yX6_read : MethodName := ⟨"AspenLine", "read", "(IIII)I"⟩
abbrev cX6_torn : ByteArray := prog_1_method_46_code
abbrev yX6_torn : MethodName := ⟨"AspenLine", "torn", "()I"⟩
abbrev cX6_count : ByteArray := prog_1_method_47_code
abbrev yX6_count : MethodName := ⟨"AspenLine", "count", "(I)I"⟩
abbrev cX6_within : ByteArray := prog_1_method_48_code
abbrev yX6_within : MethodName := ⟨"AspenLine", "within", "(III)Z"⟩
abbrev cX6_isBreath : ByteArray := prog_1_method_49_code
abbrev yX6_isBreath : MethodName := ⟨"AspenLine", "isBreath", "(I)Z"⟩
abbrev cX6_isLength : ByteArray := prog_1_method_50_code
abbrev yX6_isLength : MethodName := ⟨"AspenLine", "isLength", "(I)Z"⟩
abbrev cX6_isTenths : ByteArray := prog_1_method_51_code
abbrev yX6_isTenths : MethodName := ⟨"AspenLine", "isTenths", "(I)Z"⟩
abbrev cX6_isEither : ByteArray := prog_1_method_52_code
abbrev yX6_isEither : MethodName := ⟨"AspenLine", "isEither", "(I)Z"⟩
abbrev cX6_isLane : ByteArray := prog_1_method_53_code
abbrev yX6_isLane : MethodName := ⟨"AspenLine", "isLane", "(I)Z"⟩
abbrev cX6_isImage : ByteArray := prog_1_method_54_code
abbrev yX6_isImage : MethodName := ⟨"AspenLine", "isImage", "(I)Z"⟩
abbrev cX6_isKept : ByteArray := prog_1_method_55_code
abbrev yX6_isKept : MethodName := ⟨"AspenLine", "isKept", "(I)Z"⟩
abbrev cX6_isSheet : ByteArray := prog_1_method_56_code
abbrev yX6_isSheet : MethodName := ⟨"AspenLine", "isSheet", "(I)Z"⟩
abbrev cX6_exchange : ByteArray := prog_1_method_57_code
abbrev yX6_exchange : MethodName := ⟨"AspenLine", "exchange", "([III)I"⟩
abbrev cX6_sumOfFirst : ByteArray := prog_1_method_58_code
abbrev yX6_sumOfFirst : MethodName := ⟨"AspenLine", "sumOfFirst", "(I[I)I"⟩
abbrev cX6_power : ByteArray := prog_1_method_59_code
abbrev yX6_power : MethodName := ⟨"AspenLine", "power", "(II)J"⟩
abbrev cX6_commonDivisor : ByteArray := prog_1_method_60_code
abbrev yX6_commonDivisor : MethodName := ⟨"AspenLine", "commonDivisor", "(JJ)J"⟩
abbrev RX7 : String := "AspenLineModel"
def TX7 : u_T := fun k => match k with
  | 0 => ("AspenLineModel", "state", "[I", true)
  | 1 => ("AspenLineModel", "treeMany", "I", false)
  | 2 => ("AspenLineModel", "readPage", "[I", true)
  | 3 => ("AspenLineModel", "readTrees", "I", false)
  | 4 => ("AspenLineModel", "isWindTold", "Z", false)
  | 5 => ("AspenLineModel", "high", "I", false)
  | 6 => ("AspenLineModel", "tape", "[I", true)
  | 7 => ("AspenLineModel", "taped", "I", false)
  | 8 => ("AspenLineModel", "fault", "I", false)
  | 9 => ("AspenLineModel", "broken", "I", false)
  | 10 => ("AspenLineModel", "brokenAt", "I", false)
  | 11 => ("AspenLineModel", "spot", "I", false)
  | 12 => ("AspenLineModel", "here", "I", false)
  | 13 => ("AspenLineModel", "token", "I", false)
  | 14 => ("AspenLineModel", "value", "I", false)
  | 15 => ("AspenLineModel", "ends", "[I", true)
  | 16 => ("AspenLineModel", "letters", "[I", true)
  | 17 => ("AspenLineModel", "ways", "[I", true)
  | 18 => ("AspenLineModel", "heard", "[I", true)
  | 19 => ("AspenLineModel", "seen", "[I", true)
  | 20 => ("AspenLineModel", "seenMany", "I", false)
  | 21 => ("AspenLineModel", "byLoud", "[I", true)
  | 22 => ("AspenLineModel", "isKept", "[Z", true)
  | 23 => ("AspenLineModel", "lanes", "[I", true)
  | 24 => ("AspenLineModel", "lengths", "[I", true)
  | 25 => ("AspenLineModel", "cells", "[I", true)
  | _ => ("AspenLineModel", "torn", "I", false)
def tyX7 : Nat → FieldType := fun k => match k with
  | 0 => .array .int
  | 1 => .int
  | 2 => .array .int
  | 3 => .int
  | 4 => .boolean
  | 5 => .int
  | 6 => .array .int
  | 7 => .int
  | 8 => .int
  | 9 => .int
  | 10 => .int
  | 11 => .int
  | 12 => .int
  | 13 => .int
  | 14 => .int
  | 15 => .array .int
  | 16 => .array .int
  | 17 => .array .int
  | 18 => .array .int
  | 19 => .array .int
  | 20 => .int
  | 21 => .array .int
  | 22 => .array .boolean
  | 23 => .array .int
  | 24 => .array .int
  | 25 => .array .int
  | _ => .int
theorem nmX7 : ∀ a, a < 27 → ∀ b, b < 27 → a ≠ b → (TX7 a).2.1 ≠ (TX7 b).2.1 := by decide +kernel
theorem tyX7_ok : ∀ k, k < 27 → parseFieldDescriptor (TX7 k).2.2.1 = some (tyX7 k) := by decide +kernel
abbrev cX7_init : ByteArray := prog_9_method_1_code
abbrev yX7_init : MethodName := ⟨"AspenLineModel", "<init>", "()V"⟩
abbrev cX7_in : ByteArray := prog_9_method_3_code
abbrev yX7_in : MethodName := ⟨"AspenLineModel", "in", "(JJJ)Z"⟩
abbrev cX7_feed : ByteArray := prog_9_method_4_code
abbrev yX7_feed : MethodName := ⟨"AspenLineModel", "feed", "(I)I"⟩
abbrev cX7_end : ByteArray := prog_9_method_5_code
abbrev yX7_end : MethodName := ⟨"AspenLineModel", "end", "(I)I"⟩
abbrev cX7_byteAt : ByteArray := prog_9_method_6_code
abbrev yX7_byteAt : MethodName := ⟨"AspenLineModel", "byteAt", "(I)I"⟩
abbrev cX7_fails : ByteArray := prog_9_method_7_code
abbrev yX7_fails : MethodName := ⟨"AspenLineModel", "fails", "(I)V"⟩
abbrev cX7_nameHere : ByteArray := prog_9_method_8_code
abbrev yX7_nameHere : MethodName := ⟨"AspenLineModel", "nameHere", "()I"⟩
abbrev cX7_step : ByteArray := prog_9_method_9_code
abbrev yX7_step : MethodName := ⟨"AspenLineModel", "step", "()V"⟩
abbrev cX7_number : ByteArray := prog_9_method_10_code
abbrev yX7_number : MethodName := ⟨"AspenLineModel", "number", "(II)I"⟩
abbrev cX7_treeHere : ByteArray := prog_9_method_11_code
abbrev yX7_treeHere : MethodName := ⟨"AspenLineModel", "treeHere", "()I"⟩
abbrev cX7_readRoot : ByteArray := prog_9_method_12_code
abbrev yX7_readRoot : MethodName := ⟨"AspenLineModel", "readRoot", "()V"⟩
abbrev cX7_readMore : ByteArray := prog_9_method_13_code
abbrev yX7_readMore : MethodName := ⟨"AspenLineModel", "readMore", "(I)V"⟩
abbrev cX7_isFull : ByteArray := prog_9_method_14_code
abbrev yX7_isFull : MethodName := ⟨"AspenLineModel", "isFull", "(I)Z"⟩
abbrev cX7_readLine : ByteArray := prog_9_method_15_code
abbrev yX7_readLine : MethodName := ⟨"AspenLineModel", "readLine", "()V"⟩
abbrev cX7_text : ByteArray := prog_9_method_16_code
abbrev yX7_text : MethodName := ⟨"AspenLineModel", "text", "()I"⟩
abbrev cX7_fault : ByteArray := prog_9_method_17_code
abbrev yX7_fault : MethodName := ⟨"AspenLineModel", "fault", "()I"⟩
abbrev cX7_isTree : ByteArray := prog_9_method_18_code
abbrev yX7_isTree : MethodName := ⟨"AspenLineModel", "isTree", "(I)Z"⟩
abbrev cX7_isRoot : ByteArray := prog_9_method_19_code
abbrev yX7_isRoot : MethodName := ⟨"AspenLineModel", "isRoot", "(I)Z"⟩
abbrev cX7_isTalk : ByteArray := prog_9_method_20_code
abbrev yX7_isTalk : MethodName := ⟨"AspenLineModel", "isTalk", "(I)Z"⟩
abbrev cX7_isBreath : ByteArray := prog_9_method_21_code
abbrev yX7_isBreath : MethodName := ⟨"AspenLineModel", "isBreath", "(I)Z"⟩
abbrev cX7_isSome : ByteArray := prog_9_method_22_code
abbrev yX7_isSome : MethodName := ⟨"AspenLineModel", "isSome", "(I)Z"⟩
abbrev cX7_waysOn : ByteArray := prog_9_method_23_code
abbrev yX7_waysOn : MethodName := ⟨"AspenLineModel", "waysOn", "(II)V"⟩
abbrev cX7_loudOn : ByteArray := prog_9_method_24_code
abbrev yX7_loudOn : MethodName := ⟨"AspenLineModel", "loudOn", "(III)I"⟩
abbrev cX7_hearersOn : ByteArray := prog_9_method_25_code
abbrev yX7_hearersOn : MethodName := ⟨"AspenLineModel", "hearersOn", "(II)I"⟩
abbrev cX7_hearsOn : ByteArray := prog_9_method_26_code
abbrev yX7_hearsOn : MethodName := ⟨"AspenLineModel", "hearsOn", "(III)I"⟩
abbrev cX7_bitsOf : ByteArray := prog_9_method_27_code
abbrev yX7_bitsOf : MethodName := ⟨"AspenLineModel", "bitsOf", "(I)I"⟩
abbrev cX7_talksOn : ByteArray := prog_9_method_28_code
abbrev yX7_talksOn : MethodName := ⟨"AspenLineModel", "talksOn", "(I)I"⟩
abbrev cX7_crossedOn : ByteArray := prog_9_method_29_code
abbrev yX7_crossedOn : MethodName := ⟨"AspenLineModel", "crossedOn", "(I)I"⟩
abbrev cX7_rule : ByteArray := prog_9_method_30_code
abbrev yX7_rule : MethodName := ⟨"AspenLineModel", "rule", "(I)I"⟩
abbrev cX7_tree : ByteArray := prog_9_method_31_code
abbrev yX7_tree : MethodName := ⟨"AspenLineModel", "tree", "(II)I"⟩
abbrev cX7_root : ByteArray := prog_9_method_32_code
abbrev yX7_root : MethodName := ⟨"AspenLineModel", "root", "(II)I"⟩
abbrev cX7_talk : ByteArray := prog_9_method_33_code
abbrev yX7_talk : MethodName := ⟨"AspenLineModel", "talk", "(II)I"⟩
abbrev cX7_far : ByteArray := prog_9_method_34_code
abbrev yX7_far : MethodName := ⟨"AspenLineModel", "far", "(II)I"⟩
abbrev cX7_loud : ByteArray := prog_9_method_35_code
abbrev yX7_loud : MethodName := ⟨"AspenLineModel", "loud", "(III)I"⟩
abbrev cX7_puts : ByteArray := prog_9_method_36_code
abbrev yX7_puts : MethodName := ⟨"AspenLineModel", "puts", "(ZII)I"⟩
abbrev cX7_graft : ByteArray := prog_9_method_37_code
abbrev yX7_graft : MethodName := ⟨"AspenLineModel", "graft", "(II)I"⟩
abbrev cX7_stretch : ByteArray := prog_9_method_38_code
abbrev yX7_stretch : MethodName := ⟨"AspenLineModel", "stretch", "(II)I"⟩
abbrev cX7_growsOn : ByteArray := prog_9_method_39_code
abbrev yX7_growsOn : MethodName := ⟨"AspenLineModel", "growsOn", "(IIII)V"⟩
abbrev cX7_grow : ByteArray := prog_9_method_40_code
abbrev yX7_grow : MethodName := ⟨"AspenLineModel", "grow", "(III)I"⟩
abbrev cX7_cut : ByteArray := prog_9_method_41_code
abbrev yX7_cut : MethodName := ⟨"AspenLineModel", "cut", "(IZ)I"⟩
abbrev cX7_wind : ByteArray := prog_9_method_42_code
abbrev yX7_wind : MethodName := ⟨"AspenLineModel", "wind", "(I)I"⟩
abbrev cX7_books : ByteArray := prog_9_method_43_code
abbrev yX7_books : MethodName := ⟨"AspenLineModel", "books", "(III)I"⟩
abbrev cX7_book : ByteArray := prog_9_method_44_code
abbrev yX7_book : MethodName := ⟨"AspenLineModel", "book", "(III)I"⟩
abbrev cX7_shift : ByteArray := prog_9_method_45_code
abbrev yX7_shift : MethodName := ⟨"AspenLineModel", "shift", "(III)I"⟩
abbrev cX7_drop : ByteArray := prog_9_method_46_code
abbrev yX7_drop : MethodName := ⟨"AspenLineModel", "drop", "(I)I"⟩
abbrev cX7_hears : ByteArray := prog_9_method_47_code
abbrev yX7_hears : MethodName := ⟨"AspenLineModel", "hears", "(II)I"⟩
abbrev cX7_crossed : ByteArray := prog_9_method_48_code
abbrev yX7_crossed : MethodName := ⟨"AspenLineModel", "crossed", "(II)I"⟩
abbrev cX7_leastOf : ByteArray := prog_9_method_49_code
abbrev yX7_leastOf : MethodName := ⟨"AspenLineModel", "leastOf", "(II)I"⟩
abbrev cX7_least : ByteArray := prog_9_method_50_code
abbrev yX7_least : MethodName := ⟨"AspenLineModel", "least", "(II)I"⟩
abbrev cX7_just : ByteArray := prog_9_method_51_code
abbrev yX7_just : MethodName := ⟨"AspenLineModel", "just", "(II)I"⟩
abbrev cX7_from : ByteArray := prog_9_method_52_code
abbrev yX7_from : MethodName := ⟨"AspenLineModel", "from", "(II)I"⟩
abbrev cX7_copies : ByteArray := prog_9_method_53_code
abbrev yX7_copies : MethodName := ⟨"AspenLineModel", "copies", "(II)V"⟩
abbrev cX7_cuts : ByteArray := prog_9_method_54_code
abbrev yX7_cuts : MethodName := ⟨"AspenLineModel", "cuts", "(I)Z"⟩
abbrev cX7_hush : ByteArray := prog_9_method_55_code
abbrev yX7_hush : MethodName := ⟨"AspenLineModel", "hush", "(IIII)I"⟩
abbrev cX7_join : ByteArray := prog_9_method_56_code
abbrev yX7_join : MethodName := ⟨"AspenLineModel", "join", "(IIII)I"⟩
abbrev cX7_dear : ByteArray := prog_9_method_57_code
abbrev yX7_dear : MethodName := ⟨"AspenLineModel", "dear", "(I)I"⟩
abbrev cX7_hour : ByteArray := prog_9_method_58_code
abbrev yX7_hour : MethodName := ⟨"AspenLineModel", "hour", "(II)I"⟩
abbrev cX7_kind : ByteArray := prog_9_method_59_code
abbrev yX7_kind : MethodName := ⟨"AspenLineModel", "kind", "(II)I"⟩
abbrev cX7_calm : ByteArray := prog_9_method_60_code
abbrev yX7_calm : MethodName := ⟨"AspenLineModel", "calm", "()I"⟩
abbrev cX7_lowest : ByteArray := prog_9_method_61_code
abbrev yX7_lowest : MethodName := ⟨"AspenLineModel", "lowest", "(JJI)J"⟩
abbrev cX7_byBeavers : ByteArray := prog_9_method_62_code
abbrev yX7_byBeavers : MethodName := ⟨"AspenLineModel", "byBeavers", "(IIIII)J"⟩
abbrev cX7_luck : ByteArray := prog_9_method_63_code
abbrev yX7_luck : MethodName := ⟨"AspenLineModel", "luck", "(IIIII)J"⟩
abbrev cX7_mean : ByteArray := prog_9_method_64_code
abbrev yX7_mean : MethodName := ⟨"AspenLineModel", "mean", "(IIII)J"⟩
abbrev cX7_see : ByteArray := prog_9_method_65_code
abbrev yX7_see : MethodName := ⟨"AspenLineModel", "see", "(II)I"⟩
abbrev cX7_forget : ByteArray := prog_9_method_66_code
abbrev yX7_forget : MethodName := ⟨"AspenLineModel", "forget", "(I)I"⟩
abbrev cX7_isAsSeen : ByteArray := prog_9_method_67_code
abbrev yX7_isAsSeen : MethodName := ⟨"AspenLineModel", "isAsSeen", "(II)Z"⟩
abbrev cX7_breathsOn : ByteArray := prog_9_method_68_code
abbrev yX7_breathsOn : MethodName := ⟨"AspenLineModel", "breathsOn", "(II)I"⟩
abbrev cX7_sayersOn : ByteArray := prog_9_method_69_code
abbrev yX7_sayersOn : MethodName := ⟨"AspenLineModel", "sayersOn", "(I)I"⟩
abbrev cX7_sayers : ByteArray := prog_9_method_70_code
abbrev yX7_sayers : MethodName := ⟨"AspenLineModel", "sayers", "()I"⟩
abbrev cX7_breaths : ByteArray := prog_9_method_71_code
abbrev yX7_breaths : MethodName := ⟨"AspenLineModel", "breaths", "(II)I"⟩
abbrev cX7_kinds : ByteArray := prog_9_method_72_code
abbrev yX7_kinds : MethodName := ⟨"AspenLineModel", "kinds", "(I)I"⟩
abbrev cX7_ask : ByteArray := prog_9_method_73_code
abbrev yX7_ask : MethodName := ⟨"AspenLineModel", "ask", "(I)I"⟩
abbrev cX7_drift : ByteArray := prog_9_method_74_code
abbrev yX7_drift : MethodName := ⟨"AspenLineModel", "drift", "(III)I"⟩
abbrev cX7_keep : ByteArray := prog_9_method_75_code
abbrev yX7_keep : MethodName := ⟨"AspenLineModel", "keep", "(I)I"⟩
abbrev cX7_back : ByteArray := prog_9_method_76_code
abbrev yX7_back : MethodName := ⟨"AspenLineModel", "back", "(I)I"⟩
abbrev cX7_sheet : ByteArray := prog_9_method_77_code
abbrev yX7_sheet : MethodName := ⟨"AspenLineModel", "sheet", "(III)I"⟩
abbrev cX7_lay : ByteArray := prog_9_method_78_code
abbrev yX7_lay : MethodName := ⟨"AspenLineModel", "lay", "(III)I"⟩
abbrev cX7_read : ByteArray := prog_9_method_79_code
abbrev yX7_read : MethodName := ⟨"AspenLineModel", "read", "(IIII)I"⟩
abbrev cX7_torn : ByteArray := prog_9_method_80_code
abbrev yX7_torn : MethodName := ⟨"AspenLineModel", "torn", "()I"⟩
abbrev cX7_count : ByteArray := prog_9_method_81_code
abbrev yX7_count : MethodName := ⟨"AspenLineModel", "count", "(I)I"⟩
abbrev RJ6 : String := "java/lang/Integer"
abbrev cJ6_bitCount_0f7a4 : ByteArray := prog_10_method_49_code
abbrev yJ6_bitCount_0f7a4 : MethodName := ⟨"java/lang/Integer", "bitCount", "(I)I"⟩
abbrev RJ9 : String := "java/lang/Math"
abbrev cJ9_max_7cf53 : ByteArray := prog_11_method_65_code
abbrev yJ9_max_7cf53 : MethodName := ⟨"java/lang/Math", "max", "(II)I"⟩
abbrev cJ9_max_f86c9 : ByteArray := prog_11_method_66_code
abbrev yJ9_max_f86c9 : MethodName := ⟨"java/lang/Math", "max", "(JJ)J"⟩
abbrev cJ9_min_7cf53 : ByteArray := prog_11_method_69_code
abbrev yJ9_min_7cf53 : MethodName := ⟨"java/lang/Math", "min", "(II)I"⟩
abbrev RJ0 : String := "java/lang/String"
abbrev cJ0_length_8abf5 : ByteArray := prog_12_method_54_code
abbrev yJ0_length_8abf5 : MethodName := ⟨"java/lang/String", "length", "()I"⟩
abbrev cJ0_charAt_5068e : ByteArray := prog_12_method_56_code
abbrev yJ0_charAt_5068e : MethodName := ⟨"java/lang/String", "charAt", "(I)C"⟩
abbrev cJ0_coder_7d493 : ByteArray := prog_12_method_152_code
abbrev yJ0_coder_7d493 : MethodName := ⟨"java/lang/String", "coder", "()B"⟩
abbrev cJ0_isLatin1_aae02 : ByteArray := prog_12_method_154_code
abbrev yJ0_isLatin1_aae02 : MethodName := ⟨"java/lang/String", "isLatin1", "()Z"⟩
abbrev cJ0_checkIndex_df160 : ByteArray := prog_12_method_155_code
abbrev yJ0_checkIndex_df160 : MethodName := ⟨"java/lang/String", "checkIndex", "(II)V"⟩
abbrev RJ1 : String := "java/lang/StringLatin1"
abbrev cJ1_charAt_3b067 : ByteArray := prog_13_method_2_code
abbrev yJ1_charAt_3b067 : MethodName := ⟨"java/lang/StringLatin1", "charAt", "([BI)C"⟩
abbrev RJ2 : String := "java/lang/StringUTF16"
abbrev cJ2_getChar_3b067 : ByteArray := prog_14_method_5_code
abbrev yJ2_getChar_3b067 : MethodName := ⟨"java/lang/StringUTF16", "getChar", "([BI)C"⟩
abbrev cJ2_length_9d52b : ByteArray := prog_14_method_6_code
abbrev yJ2_length_9d52b : MethodName := ⟨"java/lang/StringUTF16", "length", "([B)I"⟩
abbrev cJ2_charAt_3b067 : ByteArray := prog_14_method_83_code
abbrev yJ2_charAt_3b067 : MethodName := ⟨"java/lang/StringUTF16", "charAt", "([BI)C"⟩
abbrev cJ2_checkIndex_2214a : ByteArray := prog_14_method_91_code
abbrev yJ2_checkIndex_2214a : MethodName := ⟨"java/lang/StringUTF16", "checkIndex", "(I[B)V"⟩
abbrev RJ10 : String := "java/lang/System"
abbrev RJ7 : String := "java/util/Arrays"
abbrev cJ7_fill_53178 : ByteArray := prog_16_method_103_code
abbrev yJ7_fill_53178 : MethodName := ⟨"java/util/Arrays", "fill", "([II)V"⟩
abbrev RJ3 : String := "jdk/internal/util/Preconditions"
abbrev cJ3_checkIndex_8e157 : ByteArray := prog_17_method_11_code
abbrev yJ3_checkIndex_8e157 : MethodName := ⟨"jdk/internal/util/Preconditions", "checkIndex", "(IILjava/util/function/BiFunction;)I"⟩
abbrev RL : String := "AspenLineLaw"
abbrev cL_law : ByteArray := code
abbrev yL_law : MethodName := ⟨"AspenLineLaw", "law", "([I)Z"⟩
abbrev vwCl : List vw_C := [(RX0, TX0, 2), (RX1, TX1, 14), (RX2, TX2, 8), (RX3, TX3, 3), (RX4, TX4, 4), (RX5, TX5, 2), (RX6, TX6, 9), (RX7, TX7, 27)]
/-- the words that are kept as the launch goes on -/
def rx_ok : Cond → Bool
  | .methodLinkNest .. => true
  | .fieldLinkNest .. => true
  | w => goodWord w
def TB : List Cond := lw_tbl.filter rx_ok
theorem tb_of {w : Cond} (h : w ∈ lw_tbl) (hp : rx_ok w = true) : w ∈ TB := List.mem_filter.mpr ⟨h, hp⟩
theorem tb_warm {s U : State} {args a' : Array Value} (hts : ∀ w ∈ TB, w.before args s = true) (hW : s.WarmedH U.vm) : ∀ w ∈ TB, w.before a' U = true := by
  intro w hw
  have h1 := hts w hw
  have h2 : rx_ok w = true := (List.mem_filter.mp hw).2
  cases w with
  | methodLinkNest a i x h => exact va_Nw.use rfl (va_Nw.warmM hW (va_Nw.of rfl h1))
  | fieldLinkNest a i b n d h => exact va_Nw.use rfl (va_Nw.warmF hW (va_Nw.of rfl h1))
  | _ => exact word_at hW (good_of_word h2) h1
theorem tb_s {w : Cond} (h : w ∈ k2_sels lw_privs) (hp : rx_ok w = true) : w ∈ TB := tb_of (List.mem_append_left _ h) hp
theorem tb_1 {w : Cond} (h : w ∈ tables_1_1) (hp : rx_ok w = true) : w ∈ TB := tb_of (List.mem_append_right _ (List.mem_append_left _ h)) hp
theorem tb_2 {w : Cond} (h : w ∈ tables_1_2) (hp : rx_ok w = true) : w ∈ TB := tb_of (List.mem_append_right _ (List.mem_append_right _ (List.mem_append_left _ h))) hp
theorem tb_3 {w : Cond} (h : w ∈ tables_1_3) (hp : rx_ok w = true) : w ∈ TB := tb_of (List.mem_append_right _ (List.mem_append_right _ (List.mem_append_right _ (List.mem_append_left _ h)))) hp
theorem tb_4 {w : Cond} (h : w ∈ tables_1_4) (hp : rx_ok w = true) : w ∈ TB := tb_of (List.mem_append_right _ (List.mem_append_right _ (List.mem_append_right _ (List.mem_append_right _ (List.mem_append_left _ h))))) hp
theorem tb_5 {w : Cond} (h : w ∈ tables_1_5) (hp : rx_ok w = true) : w ∈ TB := tb_of (List.mem_append_right _ (List.mem_append_right _ (List.mem_append_right _ (List.mem_append_right _ (List.mem_append_right _ (List.mem_append_left _ h)))))) hp
theorem tb_6 {w : Cond} (h : w ∈ tables_1_6) (hp : rx_ok w = true) : w ∈ TB := tb_of (List.mem_append_right _ (List.mem_append_right _ (List.mem_append_right _ (List.mem_append_right _ (List.mem_append_right _ (List.mem_append_right _ h)))))) hp
theorem tb0 : Cond.initialized "AspenLineLaw" ∈ TB := tb_1 (List.mem_of_getElem? (i := 0) rfl) rfl
theorem tb1 : Cond.initialized "AspenLine" ∈ TB := tb_1 (List.mem_of_getElem? (i := 1) rfl) rfl
theorem tb2 : Cond.initialized "AspenLine$Grove" ∈ TB := tb_1 (List.mem_of_getElem? (i := 2) rfl) rfl
theorem tb3 : Cond.initialized "AspenLine$Best" ∈ TB := tb_1 (List.mem_of_getElem? (i := 3) rfl) rfl
theorem tb4 : Cond.initialized "AspenLine$Reader" ∈ TB := tb_1 (List.mem_of_getElem? (i := 4) rfl) rfl
theorem tb5 : Cond.initialized "AspenLine$Tape" ∈ TB := tb_1 (List.mem_of_getElem? (i := 5) rfl) rfl
theorem tb6 : Cond.initialized "AspenLine$Sightings" ∈ TB := tb_1 (List.mem_of_getElem? (i := 6) rfl) rfl
theorem tb7 : Cond.initialized "AspenLine$Sheet" ∈ TB := tb_1 (List.mem_of_getElem? (i := 7) rfl) rfl
theorem tb8 : Cond.initialized "AspenLineModel" ∈ TB := tb_1 (List.mem_of_getElem? (i := 8) rfl) rfl
theorem tb9 : Cond.initialized "java/lang/String" ∈ TB := tb_1 (List.mem_of_getElem? (i := 9) rfl) rfl
theorem tb10 : Cond.initialized "java/lang/StringLatin1" ∈ TB := tb_1 (List.mem_of_getElem? (i := 10) rfl) rfl
theorem tb11 : Cond.initialized "jdk/internal/util/Preconditions" ∈ TB := tb_1 (List.mem_of_getElem? (i := 11) rfl) rfl
theorem tb12 : Cond.initialized "java/lang/StringUTF16" ∈ TB := tb_1 (List.mem_of_getElem? (i := 12) rfl) rfl
theorem tb13 : Cond.initialized "java/lang/System" ∈ TB := tb_1 (List.mem_of_getElem? (i := 13) rfl) rfl
theorem tb14 : Cond.initialized "java/util/Arrays" ∈ TB := tb_1 (List.mem_of_getElem? (i := 14) rfl) rfl
theorem tb15 : Cond.initialized "java/lang/Math" ∈ TB := tb_1 (List.mem_of_getElem? (i := 15) rfl) rfl
theorem tb16 : Cond.initialized "java/lang/Integer" ∈ TB := tb_1 (List.mem_of_getElem? (i := 16) rfl) rfl
theorem tb17 : Cond.classLink "AspenLineLaw" 7 "AspenLine" ∈ TB := tb_1 (List.mem_of_getElem? (i := 17) rfl) rfl
theorem tb18 : Cond.instantiable "AspenLine" 9 ∈ TB := tb_1 (List.mem_of_getElem? (i := 18) rfl) rfl
theorem tb19 : Cond.methodLink "AspenLineLaw" 9 ⟨"AspenLine", "<init>", "()V"⟩ ∈ TB := tb_1 (List.mem_of_getElem? (i := 19) rfl) rfl
theorem tb20 : Cond.instanceMethod ⟨"AspenLine", "<init>", "()V"⟩ ∈ TB := tb_1 (List.mem_of_getElem? (i := 20) rfl) rfl
theorem tb21 : Cond.code ⟨"AspenLine", "<init>", "()V"⟩ prog_1_method_1_code 1 none ∈ TB := tb_1 (List.mem_of_getElem? (i := 21) rfl) rfl
theorem tb22 : Cond.methodLink "AspenLine" 1 ⟨"java/lang/Object", "<init>", "()V"⟩ ∈ TB := tb_1 (List.mem_of_getElem? (i := 22) rfl) rfl
theorem tb23 : Cond.instanceMethod ⟨"java/lang/Object", "<init>", "()V"⟩ ∈ TB := tb_1 (List.mem_of_getElem? (i := 23) rfl) rfl
theorem tb24 : Cond.code ⟨"java/lang/Object", "<init>", "()V"⟩ object_method_1_code 1 none ∈ TB := tb_1 (List.mem_of_getElem? (i := 24) rfl) rfl
theorem tb25 : Cond.classLink "AspenLine" 7 "AspenLine$Grove" ∈ TB := tb_1 (List.mem_of_getElem? (i := 25) rfl) rfl
theorem tb26 : Cond.instantiable "AspenLine$Grove" 14 ∈ TB := tb_1 (List.mem_of_getElem? (i := 26) rfl) rfl
theorem tb27 : Cond.methodLinkNest "AspenLine" 9 ⟨"AspenLine$Grove", "<init>", "()V"⟩ "AspenLine" ∈ TB := tb_1 (List.mem_of_getElem? (i := 27) rfl) rfl
theorem tb28 : Cond.instanceMethod ⟨"AspenLine$Grove", "<init>", "()V"⟩ ∈ TB := tb_1 (List.mem_of_getElem? (i := 28) rfl) rfl
theorem tb29 : Cond.code ⟨"AspenLine$Grove", "<init>", "()V"⟩ prog_3_method_1_code 1 none ∈ TB := tb_1 (List.mem_of_getElem? (i := 29) rfl) rfl
theorem tb30 : Cond.methodLink "AspenLine$Grove" 3 ⟨"java/lang/Object", "<init>", "()V"⟩ ∈ TB := tb_1 (List.mem_of_getElem? (i := 30) rfl) rfl
theorem tb31 : Cond.fieldLink "AspenLine$Grove" 39 "AspenLine$Grove" "treeCount" "I" ∈ TB := tb_1 (List.mem_of_getElem? (i := 31) rfl) rfl
theorem tb32 : Cond.fieldLink "AspenLine$Reader" 95 "AspenLine$Grove" "treeCount" "I" ∈ TB := tb_1 (List.mem_of_getElem? (i := 32) rfl) rfl
theorem tb33 : Cond.fieldLink "AspenLine" 93 "AspenLine$Grove" "treeCount" "I" ∈ TB := tb_1 (List.mem_of_getElem? (i := 33) rfl) rfl
theorem tb34 : Cond.fieldLink "AspenLine$Sightings" 39 "AspenLine$Grove" "treeCount" "I" ∈ TB := tb_1 (List.mem_of_getElem? (i := 34) rfl) rfl
theorem tb35 : Cond.fieldLink "AspenLine$Grove" 9 "AspenLine$Grove" "kinds" "[I" ∈ TB := tb_1 (List.mem_of_getElem? (i := 35) rfl) rfl
theorem tb36 : Cond.fieldLink "AspenLine" 115 "AspenLine$Grove" "kinds" "[I" ∈ TB := tb_1 (List.mem_of_getElem? (i := 36) rfl) rfl
theorem tb37 : Cond.fieldLink "AspenLine$Grove" 43 "AspenLine$Grove" "rootCount" "I" ∈ TB := tb_1 (List.mem_of_getElem? (i := 37) rfl) rfl
theorem tb38 : Cond.fieldLink "AspenLine$Reader" 109 "AspenLine$Grove" "rootCount" "I" ∈ TB := tb_1 (List.mem_of_getElem? (i := 38) rfl) rfl
theorem tb39 : Cond.fieldLink "AspenLine" 96 "AspenLine$Grove" "rootCount" "I" ∈ TB := tb_1 (List.mem_of_getElem? (i := 39) rfl) rfl
theorem tb40 : Cond.fieldLink "AspenLine$Grove" 15 "AspenLine$Grove" "firsts" "[I" ∈ TB := tb_1 (List.mem_of_getElem? (i := 40) rfl) rfl
theorem tb41 : Cond.fieldLink "AspenLine" 131 "AspenLine$Grove" "firsts" "[I" ∈ TB := tb_1 (List.mem_of_getElem? (i := 41) rfl) rfl
theorem tb42 : Cond.fieldLink "AspenLine$Grove" 18 "AspenLine$Grove" "seconds" "[I" ∈ TB := tb_1 (List.mem_of_getElem? (i := 42) rfl) rfl
theorem tb43 : Cond.fieldLink "AspenLine" 134 "AspenLine$Grove" "seconds" "[I" ∈ TB := tb_1 (List.mem_of_getElem? (i := 43) rfl) rfl
theorem tb44 : Cond.fieldLink "AspenLine$Grove" 21 "AspenLine$Grove" "lengths" "[I" ∈ TB := tb_1 (List.mem_of_getElem? (i := 44) rfl) rfl
theorem tb45 : Cond.fieldLink "AspenLine" 137 "AspenLine$Grove" "lengths" "[I" ∈ TB := tb_1 (List.mem_of_getElem? (i := 45) rfl) rfl
theorem tb46 : Cond.fieldLink "AspenLine$Grove" 46 "AspenLine$Grove" "cutBits" "I" ∈ TB := tb_1 (List.mem_of_getElem? (i := 46) rfl) rfl
theorem tb47 : Cond.fieldLink "AspenLine" 105 "AspenLine$Grove" "cutBits" "I" ∈ TB := tb_1 (List.mem_of_getElem? (i := 47) rfl) rfl
theorem tb48 : Cond.fieldLink "AspenLine$Grove" 49 "AspenLine$Grove" "windNow" "I" ∈ TB := tb_1 (List.mem_of_getElem? (i := 48) rfl) rfl
theorem tb49 : Cond.fieldLink "AspenLine" 99 "AspenLine$Grove" "windNow" "I" ∈ TB := tb_1 (List.mem_of_getElem? (i := 49) rfl) rfl
theorem tb50 : Cond.fieldLink "AspenLine$Reader" 119 "AspenLine$Grove" "windNow" "I" ∈ TB := tb_1 (List.mem_of_getElem? (i := 50) rfl) rfl
theorem tb51 : Cond.fieldLink "AspenLine$Grove" 52 "AspenLine$Grove" "talkCount" "I" ∈ TB := tb_1 (List.mem_of_getElem? (i := 51) rfl) rfl
theorem tb52 : Cond.fieldLink "AspenLine" 102 "AspenLine$Grove" "talkCount" "I" ∈ TB := tb_1 (List.mem_of_getElem? (i := 52) rfl) rfl
theorem tb53 : Cond.fieldLink "AspenLine$Reader" 122 "AspenLine$Grove" "talkCount" "I" ∈ TB := tb_1 (List.mem_of_getElem? (i := 53) rfl) rfl
theorem tb54 : Cond.fieldLink "AspenLine$Grove" 24 "AspenLine$Grove" "hours" "[I" ∈ TB := tb_1 (List.mem_of_getElem? (i := 54) rfl) rfl
theorem tb55 : Cond.fieldLink "AspenLine" 146 "AspenLine$Grove" "hours" "[I" ∈ TB := tb_1 (List.mem_of_getElem? (i := 55) rfl) rfl
theorem tb56 : Cond.fieldLink "AspenLine$Grove" 27 "AspenLine$Grove" "speakers" "[I" ∈ TB := tb_1 (List.mem_of_getElem? (i := 56) rfl) rfl
theorem tb57 : Cond.fieldLink "AspenLine" 149 "AspenLine$Grove" "speakers" "[I" ∈ TB := tb_1 (List.mem_of_getElem? (i := 57) rfl) rfl
theorem tb58 : Cond.fieldLink "AspenLine$Grove" 30 "AspenLine$Grove" "talkBreaths" "[I" ∈ TB := tb_1 (List.mem_of_getElem? (i := 58) rfl) rfl
theorem tb59 : Cond.fieldLink "AspenLine" 152 "AspenLine$Grove" "talkBreaths" "[I" ∈ TB := tb_1 (List.mem_of_getElem? (i := 59) rfl) rfl
theorem tb60 : Cond.fieldLink "AspenLine$Grove" 33 "AspenLine$Grove" "distances" "[I" ∈ TB := tb_1 (List.mem_of_getElem? (i := 60) rfl) rfl
theorem tb61 : Cond.fieldLink "AspenLine$Grove" 36 "AspenLine$Grove" "heard" "[I" ∈ TB := tb_1 (List.mem_of_getElem? (i := 61) rfl) rfl
theorem tb62 : Cond.lays "AspenLine$Grove" "AspenLine$Grove" "treeCount" "I" ∈ TB := tb_1 (List.mem_of_getElem? (i := 62) rfl) rfl
theorem tb64 : Cond.laysFinal "AspenLine$Grove" "AspenLine$Grove" "kinds" "[I" ∈ TB := tb_1 (List.mem_of_getElem? (i := 64) rfl) rfl
theorem tb66 : Cond.lays "AspenLine$Grove" "AspenLine$Grove" "rootCount" "I" ∈ TB := tb_1 (List.mem_of_getElem? (i := 66) rfl) rfl
theorem tb68 : Cond.laysFinal "AspenLine$Grove" "AspenLine$Grove" "firsts" "[I" ∈ TB := tb_1 (List.mem_of_getElem? (i := 68) rfl) rfl
theorem tb70 : Cond.laysFinal "AspenLine$Grove" "AspenLine$Grove" "seconds" "[I" ∈ TB := tb_1 (List.mem_of_getElem? (i := 70) rfl) rfl
theorem tb72 : Cond.laysFinal "AspenLine$Grove" "AspenLine$Grove" "lengths" "[I" ∈ TB := tb_1 (List.mem_of_getElem? (i := 72) rfl) rfl
theorem tb74 : Cond.lays "AspenLine$Grove" "AspenLine$Grove" "cutBits" "I" ∈ TB := tb_1 (List.mem_of_getElem? (i := 74) rfl) rfl
theorem tb76 : Cond.lays "AspenLine$Grove" "AspenLine$Grove" "windNow" "I" ∈ TB := tb_1 (List.mem_of_getElem? (i := 76) rfl) rfl
theorem tb78 : Cond.lays "AspenLine$Grove" "AspenLine$Grove" "talkCount" "I" ∈ TB := tb_1 (List.mem_of_getElem? (i := 78) rfl) rfl
theorem tb80 : Cond.laysFinal "AspenLine$Grove" "AspenLine$Grove" "hours" "[I" ∈ TB := tb_1 (List.mem_of_getElem? (i := 80) rfl) rfl
theorem tb82 : Cond.laysFinal "AspenLine$Grove" "AspenLine$Grove" "speakers" "[I" ∈ TB := tb_1 (List.mem_of_getElem? (i := 82) rfl) rfl
theorem tb84 : Cond.laysFinal "AspenLine$Grove" "AspenLine$Grove" "talkBreaths" "[I" ∈ TB := tb_1 (List.mem_of_getElem? (i := 84) rfl) rfl
theorem tb86 : Cond.laysFinal "AspenLine$Grove" "AspenLine$Grove" "distances" "[I" ∈ TB := tb_1 (List.mem_of_getElem? (i := 86) rfl) rfl
theorem tb88 : Cond.laysFinal "AspenLine$Grove" "AspenLine$Grove" "heard" "[I" ∈ TB := tb_1 (List.mem_of_getElem? (i := 88) rfl) rfl
theorem tb91 : Cond.arrayClass Jvm.ClassFile.FieldType.int ∈ TB := tb_1 (List.mem_of_getElem? (i := 91) rfl) rfl
theorem tb93 : Cond.classLink "AspenLine" 23 "AspenLine$Best" ∈ TB := tb_1 (List.mem_of_getElem? (i := 93) rfl) rfl
theorem tb94 : Cond.instantiable "AspenLine$Best" 2 ∈ TB := tb_1 (List.mem_of_getElem? (i := 94) rfl) rfl
theorem tb95 : Cond.methodLinkNest "AspenLine" 25 ⟨"AspenLine$Best", "<init>", "()V"⟩ "AspenLine" ∈ TB := tb_1 (List.mem_of_getElem? (i := 95) rfl) rfl
theorem tb96 : Cond.instanceMethod ⟨"AspenLine$Best", "<init>", "()V"⟩ ∈ TB := tb_1 (List.mem_of_getElem? (i := 96) rfl) rfl
theorem tb97 : Cond.code ⟨"AspenLine$Best", "<init>", "()V"⟩ prog_2_method_1_code 1 none ∈ TB := tb_1 (List.mem_of_getElem? (i := 97) rfl) rfl
theorem tb98 : Cond.methodLink "AspenLine$Best" 3 ⟨"java/lang/Object", "<init>", "()V"⟩ ∈ TB := tb_1 (List.mem_of_getElem? (i := 98) rfl) rfl
theorem tb99 : Cond.fieldLink "AspenLine$Best" 9 "AspenLine$Best" "choice" "I" ∈ TB := tb_1 (List.mem_of_getElem? (i := 99) rfl) rfl
theorem tb100 : Cond.fieldLink "AspenLine$Best" 15 "AspenLine$Best" "amount" "I" ∈ TB := tb_1 (List.mem_of_getElem? (i := 100) rfl) rfl
theorem tb101 : Cond.fieldLink "AspenLine" 223 "AspenLine$Best" "amount" "I" ∈ TB := tb_1 (List.mem_of_getElem? (i := 101) rfl) rfl
theorem tb102 : Cond.lays "AspenLine$Best" "AspenLine$Best" "choice" "I" ∈ TB := tb_1 (List.mem_of_getElem? (i := 102) rfl) rfl
theorem tb104 : Cond.lays "AspenLine$Best" "AspenLine$Best" "amount" "I" ∈ TB := tb_1 (List.mem_of_getElem? (i := 104) rfl) rfl
theorem tb107 : Cond.classLink "AspenLine" 30 "AspenLine$Reader" ∈ TB := tb_1 (List.mem_of_getElem? (i := 107) rfl) rfl
theorem tb108 : Cond.instantiable "AspenLine$Reader" 8 ∈ TB := tb_1 (List.mem_of_getElem? (i := 108) rfl) rfl
theorem tb109 : Cond.methodLinkNest "AspenLine" 32 ⟨"AspenLine$Reader", "<init>", "()V"⟩ "AspenLine" ∈ TB := tb_1 (List.mem_of_getElem? (i := 109) rfl) rfl
theorem tb110 : Cond.instanceMethod ⟨"AspenLine$Reader", "<init>", "()V"⟩ ∈ TB := tb_1 (List.mem_of_getElem? (i := 110) rfl) rfl
theorem tb111 : Cond.code ⟨"AspenLine$Reader", "<init>", "()V"⟩ prog_4_method_1_code 1 none ∈ TB := tb_1 (List.mem_of_getElem? (i := 111) rfl) rfl
theorem tb112 : Cond.methodLink "AspenLine$Reader" 3 ⟨"java/lang/Object", "<init>", "()V"⟩ ∈ TB := tb_1 (List.mem_of_getElem? (i := 112) rfl) rfl
theorem tb113 : Cond.classLink "AspenLine$Reader" 9 "AspenLine$Tape" ∈ TB := tb_1 (List.mem_of_getElem? (i := 113) rfl) rfl
theorem tb114 : Cond.instantiable "AspenLine$Tape" 2 ∈ TB := tb_1 (List.mem_of_getElem? (i := 114) rfl) rfl
theorem tb115 : Cond.methodLinkNest "AspenLine$Reader" 11 ⟨"AspenLine$Tape", "<init>", "()V"⟩ "AspenLine" ∈ TB := tb_1 (List.mem_of_getElem? (i := 115) rfl) rfl
theorem tb116 : Cond.instanceMethod ⟨"AspenLine$Tape", "<init>", "()V"⟩ ∈ TB := tb_1 (List.mem_of_getElem? (i := 116) rfl) rfl
theorem tb117 : Cond.code ⟨"AspenLine$Tape", "<init>", "()V"⟩ prog_7_method_1_code 1 none ∈ TB := tb_1 (List.mem_of_getElem? (i := 117) rfl) rfl
theorem tb118 : Cond.methodLink "AspenLine$Tape" 3 ⟨"java/lang/Object", "<init>", "()V"⟩ ∈ TB := tb_1 (List.mem_of_getElem? (i := 118) rfl) rfl
theorem tb119 : Cond.fieldLink "AspenLine$Tape" 15 "AspenLine$Tape" "size" "I" ∈ TB := tb_1 (List.mem_of_getElem? (i := 119) rfl) rfl
theorem tb120 : Cond.fieldLink "AspenLine$Reader" 45 "AspenLine$Tape" "size" "I" ∈ TB := tb_1 (List.mem_of_getElem? (i := 120) rfl) rfl
theorem tb121 : Cond.fieldLink "AspenLine" 65 "AspenLine$Tape" "size" "I" ∈ TB := tb_1 (List.mem_of_getElem? (i := 121) rfl) rfl
theorem tb122 : Cond.fieldLink "AspenLine$Tape" 9 "AspenLine$Tape" "bytes" "[B" ∈ TB := tb_1 (List.mem_of_getElem? (i := 122) rfl) rfl
theorem tb123 : Cond.fieldLink "AspenLine$Reader" 143 "AspenLine$Tape" "bytes" "[B" ∈ TB := tb_1 (List.mem_of_getElem? (i := 123) rfl) rfl
theorem tb124 : Cond.lays "AspenLine$Tape" "AspenLine$Tape" "size" "I" ∈ TB := tb_1 (List.mem_of_getElem? (i := 124) rfl) rfl
theorem tb126 : Cond.laysFinal "AspenLine$Tape" "AspenLine$Tape" "bytes" "[B" ∈ TB := tb_1 (List.mem_of_getElem? (i := 126) rfl) rfl
theorem tb129 : Cond.arrayClass Jvm.ClassFile.FieldType.byte ∈ TB := tb_1 (List.mem_of_getElem? (i := 129) rfl) rfl
theorem tb130 : Cond.classLink "AspenLine$Reader" 18 "AspenLine$Grove" ∈ TB := tb_1 (List.mem_of_getElem? (i := 130) rfl) rfl
theorem tb131 : Cond.methodLinkNest "AspenLine$Reader" 20 ⟨"AspenLine$Grove", "<init>", "()V"⟩ "AspenLine" ∈ TB := tb_1 (List.mem_of_getElem? (i := 131) rfl) rfl
theorem tb132 : Cond.fieldLink "AspenLine$Reader" 12 "AspenLine$Reader" "tape" "LAspenLine$Tape;" ∈ TB := tb_1 (List.mem_of_getElem? (i := 132) rfl) rfl
theorem tb133 : Cond.fieldLink "AspenLine" 55 "AspenLine$Reader" "tape" "LAspenLine$Tape;" ∈ TB := tb_1 (List.mem_of_getElem? (i := 133) rfl) rfl
theorem tb134 : Cond.fieldLink "AspenLine$Reader" 21 "AspenLine$Reader" "draft" "LAspenLine$Grove;" ∈ TB := tb_1 (List.mem_of_getElem? (i := 134) rfl) rfl
theorem tb135 : Cond.fieldLink "AspenLine" 82 "AspenLine$Reader" "draft" "LAspenLine$Grove;" ∈ TB := tb_1 (List.mem_of_getElem? (i := 135) rfl) rfl
theorem tb136 : Cond.fieldLink "AspenLine$Reader" 25 "AspenLine$Reader" "fault" "I" ∈ TB := tb_1 (List.mem_of_getElem? (i := 136) rfl) rfl
theorem tb137 : Cond.fieldLink "AspenLine" 76 "AspenLine$Reader" "fault" "I" ∈ TB := tb_1 (List.mem_of_getElem? (i := 137) rfl) rfl
theorem tb138 : Cond.fieldLink "AspenLine$Reader" 29 "AspenLine$Reader" "faultPlace" "I" ∈ TB := tb_1 (List.mem_of_getElem? (i := 138) rfl) rfl
theorem tb139 : Cond.fieldLink "AspenLine" 79 "AspenLine$Reader" "faultPlace" "I" ∈ TB := tb_1 (List.mem_of_getElem? (i := 139) rfl) rfl
theorem tb140 : Cond.fieldLink "AspenLine$Reader" 48 "AspenLine$Reader" "tokenKind" "I" ∈ TB := tb_1 (List.mem_of_getElem? (i := 140) rfl) rfl
theorem tb141 : Cond.fieldLink "AspenLine$Reader" 62 "AspenLine$Reader" "tokenStart" "I" ∈ TB := tb_1 (List.mem_of_getElem? (i := 141) rfl) rfl
theorem tb142 : Cond.fieldLink "AspenLine$Reader" 32 "AspenLine$Reader" "tokenEnd" "I" ∈ TB := tb_1 (List.mem_of_getElem? (i := 142) rfl) rfl
theorem tb143 : Cond.fieldLink "AspenLine$Reader" 35 "AspenLine$Reader" "windTold" "Z" ∈ TB := tb_1 (List.mem_of_getElem? (i := 143) rfl) rfl
theorem tb144 : Cond.laysFinal "AspenLine$Reader" "AspenLine$Reader" "tape" "LAspenLine$Tape;" ∈ TB := tb_1 (List.mem_of_getElem? (i := 144) rfl) rfl
theorem tb146 : Cond.laysFinal "AspenLine$Reader" "AspenLine$Reader" "draft" "LAspenLine$Grove;" ∈ TB := tb_1 (List.mem_of_getElem? (i := 146) rfl) rfl
theorem tb148 : Cond.lays "AspenLine$Reader" "AspenLine$Reader" "fault" "I" ∈ TB := tb_1 (List.mem_of_getElem? (i := 148) rfl) rfl
theorem tb150 : Cond.lays "AspenLine$Reader" "AspenLine$Reader" "faultPlace" "I" ∈ TB := tb_1 (List.mem_of_getElem? (i := 150) rfl) rfl
theorem tb152 : Cond.lays "AspenLine$Reader" "AspenLine$Reader" "tokenKind" "I" ∈ TB := tb_1 (List.mem_of_getElem? (i := 152) rfl) rfl
theorem tb154 : Cond.lays "AspenLine$Reader" "AspenLine$Reader" "tokenStart" "I" ∈ TB := tb_1 (List.mem_of_getElem? (i := 154) rfl) rfl
theorem tb156 : Cond.lays "AspenLine$Reader" "AspenLine$Reader" "tokenEnd" "I" ∈ TB := tb_1 (List.mem_of_getElem? (i := 156) rfl) rfl
theorem tb158 : Cond.lays "AspenLine$Reader" "AspenLine$Reader" "windTold" "Z" ∈ TB := tb_1 (List.mem_of_getElem? (i := 158) rfl) rfl
theorem tb161 : Cond.classLink "AspenLine" 37 "AspenLine$Sightings" ∈ TB := tb_1 (List.mem_of_getElem? (i := 161) rfl) rfl
theorem tb162 : Cond.instantiable "AspenLine$Sightings" 4 ∈ TB := tb_1 (List.mem_of_getElem? (i := 162) rfl) rfl
theorem tb163 : Cond.methodLinkNest "AspenLine" 39 ⟨"AspenLine$Sightings", "<init>", "()V"⟩ "AspenLine" ∈ TB := tb_1 (List.mem_of_getElem? (i := 163) rfl) rfl
theorem tb164 : Cond.instanceMethod ⟨"AspenLine$Sightings", "<init>", "()V"⟩ ∈ TB := tb_1 (List.mem_of_getElem? (i := 164) rfl) rfl
theorem tb165 : Cond.code ⟨"AspenLine$Sightings", "<init>", "()V"⟩ prog_6_method_1_code 1 none ∈ TB := tb_1 (List.mem_of_getElem? (i := 165) rfl) rfl
theorem tb166 : Cond.methodLink "AspenLine$Sightings" 3 ⟨"java/lang/Object", "<init>", "()V"⟩ ∈ TB := tb_1 (List.mem_of_getElem? (i := 166) rfl) rfl
theorem tb167 : Cond.fieldLink "AspenLine$Sightings" 21 "AspenLine$Sightings" "size" "I" ∈ TB := tb_1 (List.mem_of_getElem? (i := 167) rfl) rfl
theorem tb168 : Cond.fieldLink "AspenLine" 257 "AspenLine$Sightings" "size" "I" ∈ TB := tb_1 (List.mem_of_getElem? (i := 168) rfl) rfl
theorem tb169 : Cond.fieldLink "AspenLine$Sightings" 9 "AspenLine$Sightings" "places" "[I" ∈ TB := tb_1 (List.mem_of_getElem? (i := 169) rfl) rfl
theorem tb170 : Cond.fieldLink "AspenLine$Sightings" 15 "AspenLine$Sightings" "louds" "[I" ∈ TB := tb_1 (List.mem_of_getElem? (i := 170) rfl) rfl
theorem tb171 : Cond.fieldLink "AspenLine$Sightings" 18 "AspenLine$Sightings" "left" "[I" ∈ TB := tb_1 (List.mem_of_getElem? (i := 171) rfl) rfl
theorem tb172 : Cond.lays "AspenLine$Sightings" "AspenLine$Sightings" "size" "I" ∈ TB := tb_1 (List.mem_of_getElem? (i := 172) rfl) rfl
theorem tb174 : Cond.laysFinal "AspenLine$Sightings" "AspenLine$Sightings" "places" "[I" ∈ TB := tb_1 (List.mem_of_getElem? (i := 174) rfl) rfl
theorem tb176 : Cond.laysFinal "AspenLine$Sightings" "AspenLine$Sightings" "louds" "[I" ∈ TB := tb_1 (List.mem_of_getElem? (i := 176) rfl) rfl
theorem tb178 : Cond.laysFinal "AspenLine$Sightings" "AspenLine$Sightings" "left" "[I" ∈ TB := tb_1 (List.mem_of_getElem? (i := 178) rfl) rfl
theorem tb181 : Cond.classLink "AspenLine" 44 "AspenLine$Sheet" ∈ TB := tb_1 (List.mem_of_getElem? (i := 181) rfl) rfl
theorem tb183 : Cond.instantiable "AspenLine$Sheet" 3 ∈ TB := tb_1 (List.mem_of_getElem? (i := 183) rfl) rfl
theorem tb184 : Cond.methodLinkNest "AspenLine" 46 ⟨"AspenLine$Sheet", "<init>", "()V"⟩ "AspenLine" ∈ TB := tb_1 (List.mem_of_getElem? (i := 184) rfl) rfl
theorem tb185 : Cond.instanceMethod ⟨"AspenLine$Sheet", "<init>", "()V"⟩ ∈ TB := tb_1 (List.mem_of_getElem? (i := 185) rfl) rfl
theorem tb186 : Cond.code ⟨"AspenLine$Sheet", "<init>", "()V"⟩ prog_5_method_1_code 1 none ∈ TB := tb_1 (List.mem_of_getElem? (i := 186) rfl) rfl
theorem tb187 : Cond.methodLink "AspenLine$Sheet" 3 ⟨"java/lang/Object", "<init>", "()V"⟩ ∈ TB := tb_1 (List.mem_of_getElem? (i := 187) rfl) rfl
theorem tb188 : Cond.fieldLink "AspenLine$Sheet" 19 "AspenLine$Sheet" "size" "I" ∈ TB := tb_1 (List.mem_of_getElem? (i := 188) rfl) rfl
theorem tb189 : Cond.fieldLink "AspenLine" 309 "AspenLine$Sheet" "size" "I" ∈ TB := tb_1 (List.mem_of_getElem? (i := 189) rfl) rfl
theorem tb190 : Cond.fieldLink "AspenLine$Sheet" 9 "AspenLine$Sheet" "cells" "[I" ∈ TB := tb_1 (List.mem_of_getElem? (i := 190) rfl) rfl
theorem tb191 : Cond.fieldLink "AspenLine" 297 "AspenLine$Sheet" "cells" "[I" ∈ TB := tb_1 (List.mem_of_getElem? (i := 191) rfl) rfl
theorem tb192 : Cond.fieldLink "AspenLine$Sheet" 15 "AspenLine$Sheet" "lane" "I" ∈ TB := tb_1 (List.mem_of_getElem? (i := 192) rfl) rfl
theorem tb193 : Cond.lays "AspenLine$Sheet" "AspenLine$Sheet" "size" "I" ∈ TB := tb_1 (List.mem_of_getElem? (i := 193) rfl) rfl
theorem tb195 : Cond.laysFinal "AspenLine$Sheet" "AspenLine$Sheet" "cells" "[I" ∈ TB := tb_1 (List.mem_of_getElem? (i := 195) rfl) rfl
theorem tb197 : Cond.lays "AspenLine$Sheet" "AspenLine$Sheet" "lane" "I" ∈ TB := tb_1 (List.mem_of_getElem? (i := 197) rfl) rfl
theorem tb200 : Cond.fieldLink "AspenLine" 10 "AspenLine" "live" "LAspenLine$Grove;" ∈ TB := tb_1 (List.mem_of_getElem? (i := 200) rfl) rfl
theorem tb201 : Cond.fieldLink "AspenLine" 16 "AspenLine" "trial" "LAspenLine$Grove;" ∈ TB := tb_1 (List.mem_of_getElem? (i := 201) rfl) rfl
theorem tb202 : Cond.fieldLink "AspenLine" 19 "AspenLine" "images" "[LAspenLine$Grove;" ∈ TB := tb_1 (List.mem_of_getElem? (i := 202) rfl) rfl
theorem tb203 : Cond.fieldLink "AspenLine" 26 "AspenLine" "best" "LAspenLine$Best;" ∈ TB := tb_1 (List.mem_of_getElem? (i := 203) rfl) rfl
theorem tb204 : Cond.fieldLink "AspenLine" 33 "AspenLine" "reader" "LAspenLine$Reader;" ∈ TB := tb_1 (List.mem_of_getElem? (i := 204) rfl) rfl
theorem tb205 : Cond.fieldLink "AspenLine" 40 "AspenLine" "seen" "LAspenLine$Sightings;" ∈ TB := tb_1 (List.mem_of_getElem? (i := 205) rfl) rfl
theorem tb206 : Cond.fieldLink "AspenLine" 47 "AspenLine" "sheets" "[LAspenLine$Sheet;" ∈ TB := tb_1 (List.mem_of_getElem? (i := 206) rfl) rfl
theorem tb207 : Cond.fieldLink "AspenLine" 90 "AspenLine" "keptBits" "I" ∈ TB := tb_1 (List.mem_of_getElem? (i := 207) rfl) rfl
theorem tb208 : Cond.fieldLink "AspenLine" 303 "AspenLine" "readFault" "I" ∈ TB := tb_1 (List.mem_of_getElem? (i := 208) rfl) rfl
theorem tb209 : Cond.laysFinal "AspenLine" "AspenLine" "live" "LAspenLine$Grove;" ∈ TB := tb_1 (List.mem_of_getElem? (i := 209) rfl) rfl
theorem tb211 : Cond.laysFinal "AspenLine" "AspenLine" "trial" "LAspenLine$Grove;" ∈ TB := tb_1 (List.mem_of_getElem? (i := 211) rfl) rfl
theorem tb213 : Cond.laysFinal "AspenLine" "AspenLine" "images" "[LAspenLine$Grove;" ∈ TB := tb_1 (List.mem_of_getElem? (i := 213) rfl) rfl
theorem tb215 : Cond.laysFinal "AspenLine" "AspenLine" "best" "LAspenLine$Best;" ∈ TB := tb_1 (List.mem_of_getElem? (i := 215) rfl) rfl
theorem tb217 : Cond.laysFinal "AspenLine" "AspenLine" "reader" "LAspenLine$Reader;" ∈ TB := tb_1 (List.mem_of_getElem? (i := 217) rfl) rfl
theorem tb219 : Cond.laysFinal "AspenLine" "AspenLine" "seen" "LAspenLine$Sightings;" ∈ TB := tb_1 (List.mem_of_getElem? (i := 219) rfl) rfl
theorem tb221 : Cond.laysFinal "AspenLine" "AspenLine" "sheets" "[LAspenLine$Sheet;" ∈ TB := tb_1 (List.mem_of_getElem? (i := 221) rfl) rfl
theorem tb223 : Cond.lays "AspenLine" "AspenLine" "keptBits" "I" ∈ TB := tb_1 (List.mem_of_getElem? (i := 223) rfl) rfl
theorem tb225 : Cond.lays "AspenLine" "AspenLine" "readFault" "I" ∈ TB := tb_1 (List.mem_of_getElem? (i := 225) rfl) rfl
theorem tb228 : Cond.methodLink "AspenLineLaw" 13 ⟨"AspenLine", "feed", "(I)I"⟩ ∈ TB := tb_1 (List.mem_of_getElem? (i := 228) rfl) rfl
theorem tb229 : Cond.instanceMethod ⟨"AspenLine", "feed", "(I)I"⟩ ∈ TB := tb_1 (List.mem_of_getElem? (i := 229) rfl) rfl
theorem tb230 : Cond.selects "AspenLine" ⟨"AspenLine", "feed", "(I)I"⟩ ⟨"AspenLine", "feed", "(I)I"⟩ ∈ TB := tb_1 (List.mem_of_getElem? (i := 230) rfl) rfl
theorem tb231 : Cond.code ⟨"AspenLine", "feed", "(I)I"⟩ prog_1_method_2_code 2 (some (FieldType.int)) ∈ TB := tb_1 (List.mem_of_getElem? (i := 231) rfl) rfl
theorem tb232 : Cond.methodLink "AspenLine" 51 ⟨"AspenLine", "within", "(III)Z"⟩ ∈ TB := tb_1 (List.mem_of_getElem? (i := 232) rfl) rfl
theorem tb233 : Cond.static ⟨"AspenLine", "within", "(III)Z"⟩ ∈ TB := tb_1 (List.mem_of_getElem? (i := 233) rfl) rfl
theorem tb234 : Cond.code ⟨"AspenLine", "within", "(III)Z"⟩ prog_1_method_48_code 3 (some (FieldType.boolean)) ∈ TB := tb_1 (List.mem_of_getElem? (i := 234) rfl) rfl
theorem tb235 : Cond.methodLink "AspenLine" 59 ⟨"AspenLine$Tape", "add", "(I)I"⟩ ∈ TB := tb_1 (List.mem_of_getElem? (i := 235) rfl) rfl
theorem tb236 : Cond.instanceMethod ⟨"AspenLine$Tape", "add", "(I)I"⟩ ∈ TB := tb_1 (List.mem_of_getElem? (i := 236) rfl) rfl
theorem tb237 : Cond.selects "AspenLine$Tape" ⟨"AspenLine$Tape", "add", "(I)I"⟩ ⟨"AspenLine$Tape", "add", "(I)I"⟩ ∈ TB := tb_1 (List.mem_of_getElem? (i := 237) rfl) rfl
theorem tb238 : Cond.code ⟨"AspenLine$Tape", "add", "(I)I"⟩ prog_7_method_2_code 2 (some (FieldType.int)) ∈ TB := tb_1 (List.mem_of_getElem? (i := 238) rfl) rfl
theorem tb239 : Cond.methodLink "AspenLineLaw" 18 ⟨"AspenLine", "end", "(I)I"⟩ ∈ TB := tb_1 (List.mem_of_getElem? (i := 239) rfl) rfl
theorem tb240 : Cond.instanceMethod ⟨"AspenLine", "end", "(I)I"⟩ ∈ TB := tb_2 (List.mem_of_getElem? (i := 0) rfl) rfl
theorem tb241 : Cond.selects "AspenLine" ⟨"AspenLine", "end", "(I)I"⟩ ⟨"AspenLine", "end", "(I)I"⟩ ∈ TB := tb_2 (List.mem_of_getElem? (i := 1) rfl) rfl
theorem tb242 : Cond.code ⟨"AspenLine", "end", "(I)I"⟩ prog_1_method_3_code 2 (some (FieldType.int)) ∈ TB := tb_2 (List.mem_of_getElem? (i := 2) rfl) rfl
theorem tb243 : Cond.methodLink "AspenLine" 69 ⟨"AspenLine$Tape", "keepFirst", "(I)I"⟩ ∈ TB := tb_2 (List.mem_of_getElem? (i := 3) rfl) rfl
theorem tb244 : Cond.instanceMethod ⟨"AspenLine$Tape", "keepFirst", "(I)I"⟩ ∈ TB := tb_2 (List.mem_of_getElem? (i := 4) rfl) rfl
theorem tb245 : Cond.selects "AspenLine$Tape" ⟨"AspenLine$Tape", "keepFirst", "(I)I"⟩ ⟨"AspenLine$Tape", "keepFirst", "(I)I"⟩ ∈ TB := tb_2 (List.mem_of_getElem? (i := 5) rfl) rfl
theorem tb246 : Cond.code ⟨"AspenLine$Tape", "keepFirst", "(I)I"⟩ prog_7_method_3_code 3 (some (FieldType.int)) ∈ TB := tb_2 (List.mem_of_getElem? (i := 6) rfl) rfl
theorem tb247 : Cond.methodLink "AspenLineLaw" 22 ⟨"AspenLine", "text", "()I"⟩ ∈ TB := tb_2 (List.mem_of_getElem? (i := 7) rfl) rfl
theorem tb248 : Cond.instanceMethod ⟨"AspenLine", "text", "()I"⟩ ∈ TB := tb_2 (List.mem_of_getElem? (i := 8) rfl) rfl
theorem tb249 : Cond.selects "AspenLine" ⟨"AspenLine", "text", "()I"⟩ ⟨"AspenLine", "text", "()I"⟩ ∈ TB := tb_2 (List.mem_of_getElem? (i := 9) rfl) rfl
theorem tb250 : Cond.code ⟨"AspenLine", "text", "()I"⟩ prog_1_method_4_code 2 (some (FieldType.int)) ∈ TB := tb_2 (List.mem_of_getElem? (i := 10) rfl) rfl
theorem tb251 : Cond.methodLink "AspenLine" 72 ⟨"AspenLine$Reader", "readWhole", "()I"⟩ ∈ TB := tb_2 (List.mem_of_getElem? (i := 11) rfl) rfl
theorem tb252 : Cond.instanceMethod ⟨"AspenLine$Reader", "readWhole", "()I"⟩ ∈ TB := tb_2 (List.mem_of_getElem? (i := 12) rfl) rfl
theorem tb253 : Cond.selects "AspenLine$Reader" ⟨"AspenLine$Reader", "readWhole", "()I"⟩ ⟨"AspenLine$Reader", "readWhole", "()I"⟩ ∈ TB := tb_2 (List.mem_of_getElem? (i := 13) rfl) rfl
theorem tb254 : Cond.code ⟨"AspenLine$Reader", "readWhole", "()I"⟩ prog_4_method_2_code 2 (some (FieldType.int)) ∈ TB := tb_2 (List.mem_of_getElem? (i := 14) rfl) rfl
theorem tb255 : Cond.methodLink "AspenLine$Reader" 39 ⟨"AspenLine$Grove", "clear", "()V"⟩ ∈ TB := tb_2 (List.mem_of_getElem? (i := 15) rfl) rfl
theorem tb256 : Cond.instanceMethod ⟨"AspenLine$Grove", "clear", "()V"⟩ ∈ TB := tb_2 (List.mem_of_getElem? (i := 16) rfl) rfl
theorem tb257 : Cond.selects "AspenLine$Grove" ⟨"AspenLine$Grove", "clear", "()V"⟩ ⟨"AspenLine$Grove", "clear", "()V"⟩ ∈ TB := tb_2 (List.mem_of_getElem? (i := 17) rfl) rfl
theorem tb258 : Cond.code ⟨"AspenLine$Grove", "clear", "()V"⟩ prog_3_method_2_code 1 none ∈ TB := tb_2 (List.mem_of_getElem? (i := 18) rfl) rfl
theorem tb259 : Cond.methodLink "AspenLine$Reader" 42 ⟨"AspenLine$Reader", "readToken", "()V"⟩ ∈ TB := tb_2 (List.mem_of_getElem? (i := 19) rfl) rfl
theorem tb261 : Cond.instanceMethod ⟨"AspenLine$Reader", "readToken", "()V"⟩ ∈ TB := tb_2 (List.mem_of_getElem? (i := 21) rfl) rfl
theorem tb262 : Cond.code ⟨"AspenLine$Reader", "readToken", "()V"⟩ prog_4_method_12_code 3 none ∈ TB := tb_2 (List.mem_of_getElem? (i := 22) rfl) rfl
theorem tb263 : Cond.methodLink "AspenLine$Reader" 136 ⟨"AspenLine$Reader", "endOfRun", "(III)I"⟩ ∈ TB := tb_2 (List.mem_of_getElem? (i := 23) rfl) rfl
theorem tb265 : Cond.instanceMethod ⟨"AspenLine$Reader", "endOfRun", "(III)I"⟩ ∈ TB := tb_2 (List.mem_of_getElem? (i := 25) rfl) rfl
theorem tb266 : Cond.code ⟨"AspenLine$Reader", "endOfRun", "(III)I"⟩ prog_4_method_15_code 5 (some (FieldType.int)) ∈ TB := tb_2 (List.mem_of_getElem? (i := 26) rfl) rfl
theorem tb267 : Cond.methodLink "AspenLine$Reader" 139 ⟨"AspenLine$Reader", "setToken", "(II)V"⟩ ∈ TB := tb_2 (List.mem_of_getElem? (i := 27) rfl) rfl
theorem tb269 : Cond.instanceMethod ⟨"AspenLine$Reader", "setToken", "(II)V"⟩ ∈ TB := tb_2 (List.mem_of_getElem? (i := 29) rfl) rfl
theorem tb270 : Cond.code ⟨"AspenLine$Reader", "setToken", "(II)V"⟩ prog_4_method_13_code 3 none ∈ TB := tb_2 (List.mem_of_getElem? (i := 30) rfl) rfl
theorem tb271 : Cond.methodLink "AspenLine$Reader" 58 ⟨"AspenLine$Reader", "fail", "(I)V"⟩ ∈ TB := tb_2 (List.mem_of_getElem? (i := 31) rfl) rfl
theorem tb273 : Cond.instanceMethod ⟨"AspenLine$Reader", "fail", "(I)V"⟩ ∈ TB := tb_2 (List.mem_of_getElem? (i := 33) rfl) rfl
theorem tb274 : Cond.code ⟨"AspenLine$Reader", "fail", "(I)V"⟩ prog_4_method_3_code 2 none ∈ TB := tb_2 (List.mem_of_getElem? (i := 34) rfl) rfl
theorem tb275 : Cond.methodLink "AspenLine$Reader" 51 ⟨"AspenLine$Reader", "readLine", "()V"⟩ ∈ TB := tb_2 (List.mem_of_getElem? (i := 35) rfl) rfl
theorem tb277 : Cond.instanceMethod ⟨"AspenLine$Reader", "readLine", "()V"⟩ ∈ TB := tb_2 (List.mem_of_getElem? (i := 37) rfl) rfl
theorem tb278 : Cond.code ⟨"AspenLine$Reader", "readLine", "()V"⟩ prog_4_method_4_code 1 none ∈ TB := tb_2 (List.mem_of_getElem? (i := 38) rfl) rfl
theorem tb280 : Cond.methodLink "AspenLine$Reader" 67 ⟨"AspenLine$Reader", "isNamed", "(Ljava/lang/String;)Z"⟩ ∈ TB := tb_2 (List.mem_of_getElem? (i := 40) rfl) rfl
theorem tb282 : Cond.instanceMethod ⟨"AspenLine$Reader", "isNamed", "(Ljava/lang/String;)Z"⟩ ∈ TB := tb_2 (List.mem_of_getElem? (i := 42) rfl) rfl
theorem tb283 : Cond.code ⟨"AspenLine$Reader", "isNamed", "(Ljava/lang/String;)Z"⟩ prog_4_method_16_code 4 (some (FieldType.boolean)) ∈ TB := tb_2 (List.mem_of_getElem? (i := 43) rfl) rfl
theorem tb284 : Cond.methodLink "AspenLine$Reader" 147 ⟨"java/lang/String", "length", "()I"⟩ ∈ TB := tb_2 (List.mem_of_getElem? (i := 44) rfl) rfl
theorem tb285 : Cond.instanceMethod ⟨"java/lang/String", "length", "()I"⟩ ∈ TB := tb_2 (List.mem_of_getElem? (i := 45) rfl) rfl
theorem tb286 : Cond.selects "java/lang/String" ⟨"java/lang/String", "length", "()I"⟩ ⟨"java/lang/String", "length", "()I"⟩ ∈ TB := tb_2 (List.mem_of_getElem? (i := 46) rfl) rfl
theorem tb287 : Cond.code ⟨"java/lang/String", "length", "()I"⟩ prog_12_method_54_code 1 (some (FieldType.int)) ∈ TB := tb_2 (List.mem_of_getElem? (i := 47) rfl) rfl
theorem tb288 : Cond.methodLink "java/lang/String" 335 ⟨"java/lang/String", "coder", "()B"⟩ ∈ TB := tb_2 (List.mem_of_getElem? (i := 48) rfl) rfl
theorem tb289 : Cond.instanceMethod ⟨"java/lang/String", "coder", "()B"⟩ ∈ TB := tb_2 (List.mem_of_getElem? (i := 49) rfl) rfl
theorem tb290 : Cond.selects "java/lang/String" ⟨"java/lang/String", "coder", "()B"⟩ ⟨"java/lang/String", "coder", "()B"⟩ ∈ TB := tb_2 (List.mem_of_getElem? (i := 50) rfl) rfl
theorem tb291 : Cond.code ⟨"java/lang/String", "coder", "()B"⟩ prog_12_method_152_code 1 (some (FieldType.byte)) ∈ TB := tb_2 (List.mem_of_getElem? (i := 51) rfl) rfl
theorem tb292 : Cond.fieldLink "java/lang/String" 38 "java/lang/String" "COMPACT_STRINGS" "Z" ∈ TB := tb_2 (List.mem_of_getElem? (i := 52) rfl) rfl
theorem tb294 : Cond.methodLink "AspenLine$Reader" 152 ⟨"java/lang/String", "charAt", "(I)C"⟩ ∈ TB := tb_2 (List.mem_of_getElem? (i := 54) rfl) rfl
theorem tb295 : Cond.instanceMethod ⟨"java/lang/String", "charAt", "(I)C"⟩ ∈ TB := tb_2 (List.mem_of_getElem? (i := 55) rfl) rfl
theorem tb296 : Cond.selects "java/lang/String" ⟨"java/lang/String", "charAt", "(I)C"⟩ ⟨"java/lang/String", "charAt", "(I)C"⟩ ∈ TB := tb_2 (List.mem_of_getElem? (i := 56) rfl) rfl
theorem tb297 : Cond.code ⟨"java/lang/String", "charAt", "(I)C"⟩ prog_12_method_56_code 2 (some (FieldType.char)) ∈ TB := tb_2 (List.mem_of_getElem? (i := 57) rfl) rfl
theorem tb298 : Cond.methodLink "java/lang/String" 492 ⟨"java/lang/String", "isLatin1", "()Z"⟩ ∈ TB := tb_2 (List.mem_of_getElem? (i := 58) rfl) rfl
theorem tb299 : Cond.instanceMethod ⟨"java/lang/String", "isLatin1", "()Z"⟩ ∈ TB := tb_2 (List.mem_of_getElem? (i := 59) rfl) rfl
theorem tb300 : Cond.selects "java/lang/String" ⟨"java/lang/String", "isLatin1", "()Z"⟩ ⟨"java/lang/String", "isLatin1", "()Z"⟩ ∈ TB := tb_2 (List.mem_of_getElem? (i := 60) rfl) rfl
theorem tb301 : Cond.code ⟨"java/lang/String", "isLatin1", "()Z"⟩ prog_12_method_154_code 1 (some (FieldType.boolean)) ∈ TB := tb_2 (List.mem_of_getElem? (i := 61) rfl) rfl
theorem tb302 : Cond.methodLink "java/lang/String" 495 ⟨"java/lang/StringLatin1", "charAt", "([BI)C"⟩ ∈ TB := tb_2 (List.mem_of_getElem? (i := 62) rfl) rfl
theorem tb303 : Cond.static ⟨"java/lang/StringLatin1", "charAt", "([BI)C"⟩ ∈ TB := tb_2 (List.mem_of_getElem? (i := 63) rfl) rfl
theorem tb304 : Cond.code ⟨"java/lang/StringLatin1", "charAt", "([BI)C"⟩ prog_13_method_2_code 2 (some (FieldType.char)) ∈ TB := tb_2 (List.mem_of_getElem? (i := 64) rfl) rfl
theorem tb305 : Cond.methodLink "java/lang/StringLatin1" 9 ⟨"java/lang/String", "checkIndex", "(II)V"⟩ ∈ TB := tb_2 (List.mem_of_getElem? (i := 65) rfl) rfl
theorem tb306 : Cond.static ⟨"java/lang/String", "checkIndex", "(II)V"⟩ ∈ TB := tb_2 (List.mem_of_getElem? (i := 66) rfl) rfl
theorem tb307 : Cond.code ⟨"java/lang/String", "checkIndex", "(II)V"⟩ prog_12_method_155_code 2 none ∈ TB := tb_2 (List.mem_of_getElem? (i := 67) rfl) rfl
theorem tb308 : Cond.fieldLink "java/lang/String" 1053 "jdk/internal/util/Preconditions" "SIOOBE_FORMATTER" "Ljava/util/function/BiFunction;" ∈ TB := tb_2 (List.mem_of_getElem? (i := 68) rfl) rfl
theorem tb310 : Cond.methodLink "java/lang/String" 1059 ⟨"jdk/internal/util/Preconditions", "checkIndex", "(IILjava/util/function/BiFunction;)I"⟩ ∈ TB := tb_2 (List.mem_of_getElem? (i := 70) rfl) rfl
theorem tb311 : Cond.static ⟨"jdk/internal/util/Preconditions", "checkIndex", "(IILjava/util/function/BiFunction;)I"⟩ ∈ TB := tb_2 (List.mem_of_getElem? (i := 71) rfl) rfl
theorem tb312 : Cond.code ⟨"jdk/internal/util/Preconditions", "checkIndex", "(IILjava/util/function/BiFunction;)I"⟩ prog_17_method_11_code 3 (some (FieldType.int)) ∈ TB := tb_2 (List.mem_of_getElem? (i := 72) rfl) rfl
theorem tb313 : Cond.methodLink "java/lang/String" 498 ⟨"java/lang/StringUTF16", "charAt", "([BI)C"⟩ ∈ TB := tb_2 (List.mem_of_getElem? (i := 73) rfl) rfl
theorem tb314 : Cond.static ⟨"java/lang/StringUTF16", "charAt", "([BI)C"⟩ ∈ TB := tb_2 (List.mem_of_getElem? (i := 74) rfl) rfl
theorem tb315 : Cond.code ⟨"java/lang/StringUTF16", "charAt", "([BI)C"⟩ prog_14_method_83_code 2 (some (FieldType.char)) ∈ TB := tb_2 (List.mem_of_getElem? (i := 75) rfl) rfl
theorem tb316 : Cond.methodLink "java/lang/StringUTF16" 67 ⟨"java/lang/StringUTF16", "checkIndex", "(I[B)V"⟩ ∈ TB := tb_2 (List.mem_of_getElem? (i := 76) rfl) rfl
theorem tb317 : Cond.static ⟨"java/lang/StringUTF16", "checkIndex", "(I[B)V"⟩ ∈ TB := tb_2 (List.mem_of_getElem? (i := 77) rfl) rfl
theorem tb318 : Cond.code ⟨"java/lang/StringUTF16", "checkIndex", "(I[B)V"⟩ prog_14_method_91_code 2 none ∈ TB := tb_2 (List.mem_of_getElem? (i := 78) rfl) rfl
theorem tb319 : Cond.methodLink "java/lang/StringUTF16" 48 ⟨"java/lang/StringUTF16", "length", "([B)I"⟩ ∈ TB := tb_2 (List.mem_of_getElem? (i := 79) rfl) rfl
theorem tb320 : Cond.static ⟨"java/lang/StringUTF16", "length", "([B)I"⟩ ∈ TB := tb_2 (List.mem_of_getElem? (i := 80) rfl) rfl
theorem tb321 : Cond.code ⟨"java/lang/StringUTF16", "length", "([B)I"⟩ prog_14_method_6_code 1 (some (FieldType.int)) ∈ TB := tb_2 (List.mem_of_getElem? (i := 81) rfl) rfl
theorem tb322 : Cond.methodLink "java/lang/StringUTF16" 414 ⟨"java/lang/String", "checkIndex", "(II)V"⟩ ∈ TB := tb_2 (List.mem_of_getElem? (i := 82) rfl) rfl
theorem tb323 : Cond.methodLink "java/lang/StringUTF16" 71 ⟨"java/lang/StringUTF16", "getChar", "([BI)C"⟩ ∈ TB := tb_2 (List.mem_of_getElem? (i := 83) rfl) rfl
theorem tb324 : Cond.static ⟨"java/lang/StringUTF16", "getChar", "([BI)C"⟩ ∈ TB := tb_2 (List.mem_of_getElem? (i := 84) rfl) rfl
theorem tb325 : Cond.code ⟨"java/lang/StringUTF16", "getChar", "([BI)C"⟩ prog_14_method_5_code 2 (some (FieldType.char)) ∈ TB := tb_2 (List.mem_of_getElem? (i := 85) rfl) rfl
theorem tb326 : Cond.fieldLink "java/lang/StringUTF16" 44 "java/lang/StringUTF16" "$assertionsDisabled" "Z" ∈ TB := tb_2 (List.mem_of_getElem? (i := 86) rfl) rfl
theorem tb328 : Cond.fieldLink "java/lang/StringUTF16" 59 "java/lang/StringUTF16" "HI_BYTE_SHIFT" "I" ∈ TB := tb_2 (List.mem_of_getElem? (i := 88) rfl) rfl
theorem tb330 : Cond.fieldLink "java/lang/StringUTF16" 63 "java/lang/StringUTF16" "LO_BYTE_SHIFT" "I" ∈ TB := tb_2 (List.mem_of_getElem? (i := 90) rfl) rfl
theorem tb332 : Cond.methodLink "AspenLine$Reader" 71 ⟨"AspenLine$Reader", "readTree", "(I)V"⟩ ∈ TB := tb_2 (List.mem_of_getElem? (i := 92) rfl) rfl
theorem tb334 : Cond.instanceMethod ⟨"AspenLine$Reader", "readTree", "(I)V"⟩ ∈ TB := tb_2 (List.mem_of_getElem? (i := 94) rfl) rfl
theorem tb335 : Cond.code ⟨"AspenLine$Reader", "readTree", "(I)V"⟩ prog_4_method_5_code 2 none ∈ TB := tb_2 (List.mem_of_getElem? (i := 95) rfl) rfl
theorem tb336 : Cond.methodLink "AspenLine$Reader" 98 ⟨"AspenLine$Reader", "takeName", "(ZI)V"⟩ ∈ TB := tb_2 (List.mem_of_getElem? (i := 96) rfl) rfl
theorem tb338 : Cond.instanceMethod ⟨"AspenLine$Reader", "takeName", "(ZI)V"⟩ ∈ TB := tb_2 (List.mem_of_getElem? (i := 98) rfl) rfl
theorem tb339 : Cond.code ⟨"AspenLine$Reader", "takeName", "(ZI)V"⟩ prog_4_method_9_code 3 none ∈ TB := tb_2 (List.mem_of_getElem? (i := 99) rfl) rfl
theorem tb340 : Cond.methodLink "AspenLine$Reader" 102 ⟨"AspenLine$Reader", "takeSign", "()V"⟩ ∈ TB := tb_2 (List.mem_of_getElem? (i := 100) rfl) rfl
theorem tb342 : Cond.instanceMethod ⟨"AspenLine$Reader", "takeSign", "()V"⟩ ∈ TB := tb_2 (List.mem_of_getElem? (i := 102) rfl) rfl
theorem tb343 : Cond.code ⟨"AspenLine$Reader", "takeSign", "()V"⟩ prog_4_method_10_code 1 none ∈ TB := tb_2 (List.mem_of_getElem? (i := 103) rfl) rfl
theorem tb344 : Cond.methodLink "AspenLine$Reader" 105 ⟨"AspenLine$Grove", "addTree", "(I)I"⟩ ∈ TB := tb_2 (List.mem_of_getElem? (i := 104) rfl) rfl
theorem tb345 : Cond.instanceMethod ⟨"AspenLine$Grove", "addTree", "(I)I"⟩ ∈ TB := tb_2 (List.mem_of_getElem? (i := 105) rfl) rfl
theorem tb346 : Cond.selects "AspenLine$Grove" ⟨"AspenLine$Grove", "addTree", "(I)I"⟩ ⟨"AspenLine$Grove", "addTree", "(I)I"⟩ ∈ TB := tb_2 (List.mem_of_getElem? (i := 106) rfl) rfl
theorem tb347 : Cond.code ⟨"AspenLine$Grove", "addTree", "(I)I"⟩ prog_3_method_4_code 2 (some (FieldType.int)) ∈ TB := tb_2 (List.mem_of_getElem? (i := 107) rfl) rfl
theorem tb352 : Cond.methodLink "AspenLine$Reader" 82 ⟨"AspenLine$Reader", "readRoot", "()V"⟩ ∈ TB := tb_2 (List.mem_of_getElem? (i := 112) rfl) rfl
theorem tb354 : Cond.instanceMethod ⟨"AspenLine$Reader", "readRoot", "()V"⟩ ∈ TB := tb_2 (List.mem_of_getElem? (i := 114) rfl) rfl
theorem tb355 : Cond.code ⟨"AspenLine$Reader", "readRoot", "()V"⟩ prog_4_method_6_code 4 none ∈ TB := tb_2 (List.mem_of_getElem? (i := 115) rfl) rfl
theorem tb356 : Cond.methodLink "AspenLine$Reader" 112 ⟨"AspenLine$Reader", "takeNumber", "(III)I"⟩ ∈ TB := tb_2 (List.mem_of_getElem? (i := 116) rfl) rfl
theorem tb358 : Cond.instanceMethod ⟨"AspenLine$Reader", "takeNumber", "(III)I"⟩ ∈ TB := tb_2 (List.mem_of_getElem? (i := 118) rfl) rfl
theorem tb359 : Cond.code ⟨"AspenLine$Reader", "takeNumber", "(III)I"⟩ prog_4_method_11_code 5 (some (FieldType.int)) ∈ TB := tb_2 (List.mem_of_getElem? (i := 119) rfl) rfl
theorem tb360 : Cond.methodLink "AspenLine$Reader" 128 ⟨"AspenLine$Reader", "value", "()I"⟩ ∈ TB := tb_2 (List.mem_of_getElem? (i := 120) rfl) rfl
theorem tb362 : Cond.instanceMethod ⟨"AspenLine$Reader", "value", "()I"⟩ ∈ TB := tb_2 (List.mem_of_getElem? (i := 122) rfl) rfl
theorem tb363 : Cond.code ⟨"AspenLine$Reader", "value", "()I"⟩ prog_4_method_14_code 3 (some (FieldType.int)) ∈ TB := tb_2 (List.mem_of_getElem? (i := 123) rfl) rfl
theorem tb364 : Cond.methodLinkNest "AspenLine$Reader" 132 ⟨"AspenLine", "within", "(III)Z"⟩ "AspenLine" ∈ TB := tb_2 (List.mem_of_getElem? (i := 124) rfl) rfl
theorem tb365 : Cond.methodLink "AspenLine$Reader" 116 ⟨"AspenLine$Grove", "addRoot", "(III)I"⟩ ∈ TB := tb_2 (List.mem_of_getElem? (i := 125) rfl) rfl
theorem tb366 : Cond.instanceMethod ⟨"AspenLine$Grove", "addRoot", "(III)I"⟩ ∈ TB := tb_2 (List.mem_of_getElem? (i := 126) rfl) rfl
theorem tb367 : Cond.selects "AspenLine$Grove" ⟨"AspenLine$Grove", "addRoot", "(III)I"⟩ ⟨"AspenLine$Grove", "addRoot", "(III)I"⟩ ∈ TB := tb_2 (List.mem_of_getElem? (i := 127) rfl) rfl
theorem tb368 : Cond.code ⟨"AspenLine$Grove", "addRoot", "(III)I"⟩ prog_3_method_5_code 4 (some (FieldType.int)) ∈ TB := tb_2 (List.mem_of_getElem? (i := 128) rfl) rfl
theorem tb370 : Cond.methodLink "AspenLine$Reader" 87 ⟨"AspenLine$Reader", "readWind", "()V"⟩ ∈ TB := tb_2 (List.mem_of_getElem? (i := 130) rfl) rfl
theorem tb372 : Cond.instanceMethod ⟨"AspenLine$Reader", "readWind", "()V"⟩ ∈ TB := tb_2 (List.mem_of_getElem? (i := 132) rfl) rfl
theorem tb373 : Cond.code ⟨"AspenLine$Reader", "readWind", "()V"⟩ prog_4_method_7_code 1 none ∈ TB := tb_2 (List.mem_of_getElem? (i := 133) rfl) rfl
theorem tb375 : Cond.methodLink "AspenLine$Reader" 92 ⟨"AspenLine$Reader", "readTalk", "()V"⟩ ∈ TB := tb_2 (List.mem_of_getElem? (i := 135) rfl) rfl
theorem tb377 : Cond.instanceMethod ⟨"AspenLine$Reader", "readTalk", "()V"⟩ ∈ TB := tb_2 (List.mem_of_getElem? (i := 137) rfl) rfl
theorem tb378 : Cond.code ⟨"AspenLine$Reader", "readTalk", "()V"⟩ prog_4_method_8_code 4 none ∈ TB := tb_2 (List.mem_of_getElem? (i := 138) rfl) rfl
theorem tb379 : Cond.methodLink "AspenLine$Reader" 125 ⟨"AspenLine$Grove", "addTalk", "(III)I"⟩ ∈ TB := tb_2 (List.mem_of_getElem? (i := 139) rfl) rfl
theorem tb380 : Cond.instanceMethod ⟨"AspenLine$Grove", "addTalk", "(III)I"⟩ ∈ TB := tb_2 (List.mem_of_getElem? (i := 140) rfl) rfl
theorem tb381 : Cond.selects "AspenLine$Grove" ⟨"AspenLine$Grove", "addTalk", "(III)I"⟩ ⟨"AspenLine$Grove", "addTalk", "(III)I"⟩ ∈ TB := tb_2 (List.mem_of_getElem? (i := 141) rfl) rfl
theorem tb382 : Cond.code ⟨"AspenLine$Grove", "addTalk", "(III)I"⟩ prog_3_method_6_code 4 (some (FieldType.int)) ∈ TB := tb_2 (List.mem_of_getElem? (i := 142) rfl) rfl
theorem tb383 : Cond.methodLink "AspenLine$Reader" 54 ⟨"AspenLine$Grove", "lacksTree", "()Z"⟩ ∈ TB := tb_2 (List.mem_of_getElem? (i := 143) rfl) rfl
theorem tb384 : Cond.instanceMethod ⟨"AspenLine$Grove", "lacksTree", "()Z"⟩ ∈ TB := tb_2 (List.mem_of_getElem? (i := 144) rfl) rfl
theorem tb385 : Cond.selects "AspenLine$Grove" ⟨"AspenLine$Grove", "lacksTree", "()Z"⟩ ⟨"AspenLine$Grove", "lacksTree", "()Z"⟩ ∈ TB := tb_2 (List.mem_of_getElem? (i := 145) rfl) rfl
theorem tb386 : Cond.code ⟨"AspenLine$Grove", "lacksTree", "()Z"⟩ prog_3_method_14_code 3 (some (FieldType.boolean)) ∈ TB := tb_2 (List.mem_of_getElem? (i := 146) rfl) rfl
theorem tb387 : Cond.methodLink "AspenLine$Grove" 69 ⟨"AspenLine$Grove", "hasTree", "(I)Z"⟩ ∈ TB := tb_2 (List.mem_of_getElem? (i := 147) rfl) rfl
theorem tb388 : Cond.instanceMethod ⟨"AspenLine$Grove", "hasTree", "(I)Z"⟩ ∈ TB := tb_2 (List.mem_of_getElem? (i := 148) rfl) rfl
theorem tb389 : Cond.selects "AspenLine$Grove" ⟨"AspenLine$Grove", "hasTree", "(I)Z"⟩ ⟨"AspenLine$Grove", "hasTree", "(I)Z"⟩ ∈ TB := tb_2 (List.mem_of_getElem? (i := 149) rfl) rfl
theorem tb390 : Cond.code ⟨"AspenLine$Grove", "hasTree", "(I)Z"⟩ prog_3_method_8_code 2 (some (FieldType.boolean)) ∈ TB := tb_2 (List.mem_of_getElem? (i := 150) rfl) rfl
theorem tb391 : Cond.methodLinkNest "AspenLine$Grove" 61 ⟨"AspenLine", "within", "(III)Z"⟩ "AspenLine" ∈ TB := tb_2 (List.mem_of_getElem? (i := 151) rfl) rfl
theorem tb392 : Cond.methodLink "AspenLine" 85 ⟨"AspenLine$Grove", "become", "(LAspenLine$Grove;)V"⟩ ∈ TB := tb_2 (List.mem_of_getElem? (i := 152) rfl) rfl
theorem tb393 : Cond.instanceMethod ⟨"AspenLine$Grove", "become", "(LAspenLine$Grove;)V"⟩ ∈ TB := tb_2 (List.mem_of_getElem? (i := 153) rfl) rfl
theorem tb394 : Cond.selects "AspenLine$Grove" ⟨"AspenLine$Grove", "become", "(LAspenLine$Grove;)V"⟩ ⟨"AspenLine$Grove", "become", "(LAspenLine$Grove;)V"⟩ ∈ TB := tb_2 (List.mem_of_getElem? (i := 154) rfl) rfl
theorem tb395 : Cond.code ⟨"AspenLine$Grove", "become", "(LAspenLine$Grove;)V"⟩ prog_3_method_3_code 2 none ∈ TB := tb_2 (List.mem_of_getElem? (i := 155) rfl) rfl
theorem tb396 : Cond.methodLink "AspenLine$Grove" 55 ⟨"java/lang/System", "arraycopy", "(Ljava/lang/Object;ILjava/lang/Object;II)V"⟩ ∈ TB := tb_2 (List.mem_of_getElem? (i := 156) rfl) rfl
theorem tb397 : Cond.static ⟨"java/lang/System", "arraycopy", "(Ljava/lang/Object;ILjava/lang/Object;II)V"⟩ ∈ TB := tb_2 (List.mem_of_getElem? (i := 157) rfl) rfl
theorem tb398 : Cond.native ⟨"java/lang/System", "arraycopy", "(Ljava/lang/Object;ILjava/lang/Object;II)V"⟩ ∈ TB := tb_2 (List.mem_of_getElem? (i := 158) rfl) rfl
theorem tb399 : Cond.methodLink "AspenLine" 89 ⟨"AspenLine$Sightings", "keepFirst", "(I)I"⟩ ∈ TB := tb_2 (List.mem_of_getElem? (i := 159) rfl) rfl
theorem tb400 : Cond.instanceMethod ⟨"AspenLine$Sightings", "keepFirst", "(I)I"⟩ ∈ TB := tb_2 (List.mem_of_getElem? (i := 160) rfl) rfl
theorem tb401 : Cond.selects "AspenLine$Sightings" ⟨"AspenLine$Sightings", "keepFirst", "(I)I"⟩ ⟨"AspenLine$Sightings", "keepFirst", "(I)I"⟩ ∈ TB := tb_2 (List.mem_of_getElem? (i := 161) rfl) rfl
theorem tb402 : Cond.code ⟨"AspenLine$Sightings", "keepFirst", "(I)I"⟩ prog_6_method_3_code 3 (some (FieldType.int)) ∈ TB := tb_2 (List.mem_of_getElem? (i := 162) rfl) rfl
theorem tb403 : Cond.methodLink "AspenLineLaw" 27 ⟨"AspenLine", "fault", "()I"⟩ ∈ TB := tb_2 (List.mem_of_getElem? (i := 163) rfl) rfl
theorem tb404 : Cond.instanceMethod ⟨"AspenLine", "fault", "()I"⟩ ∈ TB := tb_2 (List.mem_of_getElem? (i := 164) rfl) rfl
theorem tb405 : Cond.selects "AspenLine" ⟨"AspenLine", "fault", "()I"⟩ ⟨"AspenLine", "fault", "()I"⟩ ∈ TB := tb_2 (List.mem_of_getElem? (i := 165) rfl) rfl
theorem tb406 : Cond.code ⟨"AspenLine", "fault", "()I"⟩ prog_1_method_5_code 1 (some (FieldType.int)) ∈ TB := tb_2 (List.mem_of_getElem? (i := 166) rfl) rfl
theorem tb407 : Cond.methodLink "AspenLineLaw" 31 ⟨"AspenLine", "rule", "(I)I"⟩ ∈ TB := tb_2 (List.mem_of_getElem? (i := 167) rfl) rfl
theorem tb408 : Cond.instanceMethod ⟨"AspenLine", "rule", "(I)I"⟩ ∈ TB := tb_2 (List.mem_of_getElem? (i := 168) rfl) rfl
theorem tb409 : Cond.selects "AspenLine" ⟨"AspenLine", "rule", "(I)I"⟩ ⟨"AspenLine", "rule", "(I)I"⟩ ∈ TB := tb_2 (List.mem_of_getElem? (i := 169) rfl) rfl
theorem tb410 : Cond.code ⟨"AspenLine", "rule", "(I)I"⟩ prog_1_method_6_code 2 (some (FieldType.int)) ∈ TB := tb_2 (List.mem_of_getElem? (i := 170) rfl) rfl
theorem tb411 : Cond.methodLink "AspenLine" 108 ⟨"AspenLine$Grove", "crossedPairs", "()I"⟩ ∈ TB := tb_2 (List.mem_of_getElem? (i := 171) rfl) rfl
theorem tb412 : Cond.instanceMethod ⟨"AspenLine$Grove", "crossedPairs", "()I"⟩ ∈ TB := tb_2 (List.mem_of_getElem? (i := 172) rfl) rfl
theorem tb413 : Cond.selects "AspenLine$Grove" ⟨"AspenLine$Grove", "crossedPairs", "()I"⟩ ⟨"AspenLine$Grove", "crossedPairs", "()I"⟩ ∈ TB := tb_2 (List.mem_of_getElem? (i := 173) rfl) rfl
theorem tb414 : Cond.code ⟨"AspenLine$Grove", "crossedPairs", "()I"⟩ prog_3_method_27_code 5 (some (FieldType.int)) ∈ TB := tb_2 (List.mem_of_getElem? (i := 174) rfl) rfl
theorem tb415 : Cond.methodLink "AspenLine$Grove" 106 ⟨"AspenLine$Grove", "listen", "()[I"⟩ ∈ TB := tb_2 (List.mem_of_getElem? (i := 175) rfl) rfl
theorem tb416 : Cond.instanceMethod ⟨"AspenLine$Grove", "listen", "()[I"⟩ ∈ TB := tb_2 (List.mem_of_getElem? (i := 176) rfl) rfl
theorem tb417 : Cond.selects "AspenLine$Grove" ⟨"AspenLine$Grove", "listen", "()[I"⟩ ⟨"AspenLine$Grove", "listen", "()[I"⟩ ∈ TB := tb_2 (List.mem_of_getElem? (i := 177) rfl) rfl
theorem tb418 : Cond.code ⟨"AspenLine$Grove", "listen", "()[I"⟩ prog_3_method_23_code 2 (some ((FieldType.array FieldType.int))) ∈ TB := tb_2 (List.mem_of_getElem? (i := 178) rfl) rfl
theorem tb419 : Cond.methodLink "AspenLine$Grove" 91 ⟨"AspenLine$Grove", "measure", "(I)[I"⟩ ∈ TB := tb_2 (List.mem_of_getElem? (i := 179) rfl) rfl
theorem tb420 : Cond.instanceMethod ⟨"AspenLine$Grove", "measure", "(I)[I"⟩ ∈ TB := tb_2 (List.mem_of_getElem? (i := 180) rfl) rfl
theorem tb421 : Cond.selects "AspenLine$Grove" ⟨"AspenLine$Grove", "measure", "(I)[I"⟩ ⟨"AspenLine$Grove", "measure", "(I)[I"⟩ ∈ TB := tb_2 (List.mem_of_getElem? (i := 181) rfl) rfl
theorem tb422 : Cond.code ⟨"AspenLine$Grove", "measure", "(I)[I"⟩ prog_3_method_16_code 5 (some ((FieldType.array FieldType.int))) ∈ TB := tb_2 (List.mem_of_getElem? (i := 182) rfl) rfl
theorem tb423 : Cond.methodLink "AspenLine$Grove" 76 ⟨"java/util/Arrays", "fill", "([II)V"⟩ ∈ TB := tb_2 (List.mem_of_getElem? (i := 183) rfl) rfl
theorem tb424 : Cond.static ⟨"java/util/Arrays", "fill", "([II)V"⟩ ∈ TB := tb_2 (List.mem_of_getElem? (i := 184) rfl) rfl
theorem tb425 : Cond.code ⟨"java/util/Arrays", "fill", "([II)V"⟩ prog_16_method_103_code 4 none ∈ TB := tb_2 (List.mem_of_getElem? (i := 185) rfl) rfl
theorem tb426 : Cond.methodLink "AspenLine$Grove" 73 ⟨"AspenLine$Grove", "isWhole", "(I)Z"⟩ ∈ TB := tb_2 (List.mem_of_getElem? (i := 186) rfl) rfl
theorem tb427 : Cond.instanceMethod ⟨"AspenLine$Grove", "isWhole", "(I)Z"⟩ ∈ TB := tb_2 (List.mem_of_getElem? (i := 187) rfl) rfl
theorem tb428 : Cond.selects "AspenLine$Grove" ⟨"AspenLine$Grove", "isWhole", "(I)Z"⟩ ⟨"AspenLine$Grove", "isWhole", "(I)Z"⟩ ∈ TB := tb_2 (List.mem_of_getElem? (i := 188) rfl) rfl
theorem tb429 : Cond.code ⟨"AspenLine$Grove", "isWhole", "(I)Z"⟩ prog_3_method_13_code 2 (some (FieldType.boolean)) ∈ TB := tb_2 (List.mem_of_getElem? (i := 189) rfl) rfl
theorem tb430 : Cond.methodLink "AspenLine$Grove" 82 ⟨"AspenLine$Grove", "shorten", "(III)Z"⟩ ∈ TB := tb_2 (List.mem_of_getElem? (i := 190) rfl) rfl
theorem tb432 : Cond.instanceMethod ⟨"AspenLine$Grove", "shorten", "(III)Z"⟩ ∈ TB := tb_2 (List.mem_of_getElem? (i := 192) rfl) rfl
theorem tb433 : Cond.code ⟨"AspenLine$Grove", "shorten", "(III)Z"⟩ prog_3_method_17_code 6 (some (FieldType.boolean)) ∈ TB := tb_2 (List.mem_of_getElem? (i := 193) rfl) rfl
theorem tb434 : Cond.methodLink "AspenLine$Grove" 85 ⟨"java/lang/Math", "min", "(II)I"⟩ ∈ TB := tb_2 (List.mem_of_getElem? (i := 194) rfl) rfl
theorem tb435 : Cond.static ⟨"java/lang/Math", "min", "(II)I"⟩ ∈ TB := tb_2 (List.mem_of_getElem? (i := 195) rfl) rfl
theorem tb436 : Cond.code ⟨"java/lang/Math", "min", "(II)I"⟩ prog_11_method_69_code 2 (some (FieldType.int)) ∈ TB := tb_2 (List.mem_of_getElem? (i := 196) rfl) rfl
theorem tb437 : Cond.methodLink "AspenLine$Grove" 98 ⟨"AspenLine$Grove", "hearersWithin", "([II)I"⟩ ∈ TB := tb_2 (List.mem_of_getElem? (i := 197) rfl) rfl
theorem tb439 : Cond.instanceMethod ⟨"AspenLine$Grove", "hearersWithin", "([II)I"⟩ ∈ TB := tb_2 (List.mem_of_getElem? (i := 199) rfl) rfl
theorem tb440 : Cond.code ⟨"AspenLine$Grove", "hearersWithin", "([II)I"⟩ prog_3_method_21_code 5 (some (FieldType.int)) ∈ TB := tb_2 (List.mem_of_getElem? (i := 200) rfl) rfl
theorem tb441 : Cond.methodLink "AspenLine$Grove" 102 ⟨"AspenLine$Grove", "loudness", "(II[I)I"⟩ ∈ TB := tb_2 (List.mem_of_getElem? (i := 201) rfl) rfl
theorem tb442 : Cond.instanceMethod ⟨"AspenLine$Grove", "loudness", "(II[I)I"⟩ ∈ TB := tb_2 (List.mem_of_getElem? (i := 202) rfl) rfl
theorem tb443 : Cond.selects "AspenLine$Grove" ⟨"AspenLine$Grove", "loudness", "(II[I)I"⟩ ⟨"AspenLine$Grove", "loudness", "(II[I)I"⟩ ∈ TB := tb_2 (List.mem_of_getElem? (i := 203) rfl) rfl
theorem tb444 : Cond.code ⟨"AspenLine$Grove", "loudness", "(II[I)I"⟩ prog_3_method_19_code 5 (some (FieldType.int)) ∈ TB := tb_2 (List.mem_of_getElem? (i := 204) rfl) rfl
theorem tb445 : Cond.methodLink "AspenLine$Grove" 95 ⟨"java/lang/Math", "max", "(II)I"⟩ ∈ TB := tb_2 (List.mem_of_getElem? (i := 205) rfl) rfl
theorem tb446 : Cond.static ⟨"java/lang/Math", "max", "(II)I"⟩ ∈ TB := tb_2 (List.mem_of_getElem? (i := 206) rfl) rfl
theorem tb447 : Cond.code ⟨"java/lang/Math", "max", "(II)I"⟩ prog_11_method_65_code 2 (some (FieldType.int)) ∈ TB := tb_2 (List.mem_of_getElem? (i := 207) rfl) rfl
theorem tb448 : Cond.methodLink "AspenLine$Grove" 116 ⟨"AspenLine$Grove", "areCrossed", "(II[I)Z"⟩ ∈ TB := tb_2 (List.mem_of_getElem? (i := 208) rfl) rfl
theorem tb449 : Cond.instanceMethod ⟨"AspenLine$Grove", "areCrossed", "(II[I)Z"⟩ ∈ TB := tb_2 (List.mem_of_getElem? (i := 209) rfl) rfl
theorem tb450 : Cond.selects "AspenLine$Grove" ⟨"AspenLine$Grove", "areCrossed", "(II[I)Z"⟩ ⟨"AspenLine$Grove", "areCrossed", "(II[I)Z"⟩ ∈ TB := tb_2 (List.mem_of_getElem? (i := 210) rfl) rfl
theorem tb451 : Cond.code ⟨"AspenLine$Grove", "areCrossed", "(II[I)Z"⟩ prog_3_method_26_code 4 (some (FieldType.boolean)) ∈ TB := tb_2 (List.mem_of_getElem? (i := 211) rfl) rfl
theorem tb452 : Cond.methodLink "AspenLineLaw" 35 ⟨"AspenLine", "tree", "(II)I"⟩ ∈ TB := tb_2 (List.mem_of_getElem? (i := 212) rfl) rfl
theorem tb453 : Cond.instanceMethod ⟨"AspenLine", "tree", "(II)I"⟩ ∈ TB := tb_2 (List.mem_of_getElem? (i := 213) rfl) rfl
theorem tb454 : Cond.selects "AspenLine" ⟨"AspenLine", "tree", "(II)I"⟩ ⟨"AspenLine", "tree", "(II)I"⟩ ∈ TB := tb_2 (List.mem_of_getElem? (i := 214) rfl) rfl
theorem tb455 : Cond.code ⟨"AspenLine", "tree", "(II)I"⟩ prog_1_method_7_code 3 (some (FieldType.int)) ∈ TB := tb_2 (List.mem_of_getElem? (i := 215) rfl) rfl
theorem tb456 : Cond.methodLink "AspenLine" 111 ⟨"AspenLine$Grove", "hasTree", "(I)Z"⟩ ∈ TB := tb_2 (List.mem_of_getElem? (i := 216) rfl) rfl
theorem tb457 : Cond.methodLink "AspenLine" 119 ⟨"AspenLine$Grove", "wholeRootsOf", "(I)I"⟩ ∈ TB := tb_2 (List.mem_of_getElem? (i := 217) rfl) rfl
theorem tb458 : Cond.instanceMethod ⟨"AspenLine$Grove", "wholeRootsOf", "(I)I"⟩ ∈ TB := tb_2 (List.mem_of_getElem? (i := 218) rfl) rfl
theorem tb459 : Cond.selects "AspenLine$Grove" ⟨"AspenLine$Grove", "wholeRootsOf", "(I)I"⟩ ⟨"AspenLine$Grove", "wholeRootsOf", "(I)I"⟩ ∈ TB := tb_2 (List.mem_of_getElem? (i := 219) rfl) rfl
theorem tb460 : Cond.code ⟨"AspenLine$Grove", "wholeRootsOf", "(I)I"⟩ prog_3_method_15_code 4 (some (FieldType.int)) ∈ TB := tb_2 (List.mem_of_getElem? (i := 220) rfl) rfl
theorem tb461 : Cond.methodLink "AspenLine" 122 ⟨"AspenLine$Grove", "treesInReach", "(I)I"⟩ ∈ TB := tb_2 (List.mem_of_getElem? (i := 221) rfl) rfl
theorem tb462 : Cond.instanceMethod ⟨"AspenLine$Grove", "treesInReach", "(I)I"⟩ ∈ TB := tb_2 (List.mem_of_getElem? (i := 222) rfl) rfl
theorem tb463 : Cond.selects "AspenLine$Grove" ⟨"AspenLine$Grove", "treesInReach", "(I)I"⟩ ⟨"AspenLine$Grove", "treesInReach", "(I)I"⟩ ∈ TB := tb_2 (List.mem_of_getElem? (i := 223) rfl) rfl
theorem tb464 : Cond.code ⟨"AspenLine$Grove", "treesInReach", "(I)I"⟩ prog_3_method_18_code 5 (some (FieldType.int)) ∈ TB := tb_2 (List.mem_of_getElem? (i := 224) rfl) rfl
theorem tb465 : Cond.methodLink "AspenLine" 125 ⟨"AspenLine$Grove", "talksHeardAt", "(I)I"⟩ ∈ TB := tb_2 (List.mem_of_getElem? (i := 225) rfl) rfl
theorem tb466 : Cond.instanceMethod ⟨"AspenLine$Grove", "talksHeardAt", "(I)I"⟩ ∈ TB := tb_2 (List.mem_of_getElem? (i := 226) rfl) rfl
theorem tb467 : Cond.selects "AspenLine$Grove" ⟨"AspenLine$Grove", "talksHeardAt", "(I)I"⟩ ⟨"AspenLine$Grove", "talksHeardAt", "(I)I"⟩ ∈ TB := tb_2 (List.mem_of_getElem? (i := 227) rfl) rfl
theorem tb468 : Cond.code ⟨"AspenLine$Grove", "talksHeardAt", "(I)I"⟩ prog_3_method_24_code 5 (some (FieldType.int)) ∈ TB := tb_2 (List.mem_of_getElem? (i := 228) rfl) rfl
theorem tb469 : Cond.methodLink "AspenLineLaw" 40 ⟨"AspenLine", "root", "(II)I"⟩ ∈ TB := tb_2 (List.mem_of_getElem? (i := 229) rfl) rfl
theorem tb470 : Cond.instanceMethod ⟨"AspenLine", "root", "(II)I"⟩ ∈ TB := tb_2 (List.mem_of_getElem? (i := 230) rfl) rfl
theorem tb471 : Cond.selects "AspenLine" ⟨"AspenLine", "root", "(II)I"⟩ ⟨"AspenLine", "root", "(II)I"⟩ ∈ TB := tb_2 (List.mem_of_getElem? (i := 231) rfl) rfl
theorem tb472 : Cond.code ⟨"AspenLine", "root", "(II)I"⟩ prog_1_method_8_code 3 (some (FieldType.int)) ∈ TB := tb_2 (List.mem_of_getElem? (i := 232) rfl) rfl
theorem tb473 : Cond.methodLink "AspenLine" 128 ⟨"AspenLine$Grove", "hasRoot", "(I)Z"⟩ ∈ TB := tb_2 (List.mem_of_getElem? (i := 233) rfl) rfl
theorem tb474 : Cond.instanceMethod ⟨"AspenLine$Grove", "hasRoot", "(I)Z"⟩ ∈ TB := tb_2 (List.mem_of_getElem? (i := 234) rfl) rfl
theorem tb475 : Cond.selects "AspenLine$Grove" ⟨"AspenLine$Grove", "hasRoot", "(I)Z"⟩ ⟨"AspenLine$Grove", "hasRoot", "(I)Z"⟩ ∈ TB := tb_2 (List.mem_of_getElem? (i := 235) rfl) rfl
theorem tb476 : Cond.code ⟨"AspenLine$Grove", "hasRoot", "(I)Z"⟩ prog_3_method_10_code 2 (some (FieldType.boolean)) ∈ TB := tb_2 (List.mem_of_getElem? (i := 236) rfl) rfl
theorem tb477 : Cond.methodLink "AspenLine" 140 ⟨"AspenLine$Grove", "isWhole", "(I)Z"⟩ ∈ TB := tb_2 (List.mem_of_getElem? (i := 237) rfl) rfl
theorem tb478 : Cond.methodLink "AspenLineLaw" 44 ⟨"AspenLine", "talk", "(II)I"⟩ ∈ TB := tb_2 (List.mem_of_getElem? (i := 238) rfl) rfl
theorem tb479 : Cond.instanceMethod ⟨"AspenLine", "talk", "(II)I"⟩ ∈ TB := tb_2 (List.mem_of_getElem? (i := 239) rfl) rfl
theorem tb480 : Cond.selects "AspenLine" ⟨"AspenLine", "talk", "(II)I"⟩ ⟨"AspenLine", "talk", "(II)I"⟩ ∈ TB := tb_3 (List.mem_of_getElem? (i := 0) rfl) rfl
theorem tb481 : Cond.code ⟨"AspenLine", "talk", "(II)I"⟩ prog_1_method_9_code 3 (some (FieldType.int)) ∈ TB := tb_3 (List.mem_of_getElem? (i := 1) rfl) rfl
theorem tb482 : Cond.methodLink "AspenLine" 143 ⟨"AspenLine$Grove", "hasTalk", "(I)Z"⟩ ∈ TB := tb_3 (List.mem_of_getElem? (i := 2) rfl) rfl
theorem tb483 : Cond.instanceMethod ⟨"AspenLine$Grove", "hasTalk", "(I)Z"⟩ ∈ TB := tb_3 (List.mem_of_getElem? (i := 3) rfl) rfl
theorem tb484 : Cond.selects "AspenLine$Grove" ⟨"AspenLine$Grove", "hasTalk", "(I)Z"⟩ ⟨"AspenLine$Grove", "hasTalk", "(I)Z"⟩ ∈ TB := tb_3 (List.mem_of_getElem? (i := 4) rfl) rfl
theorem tb485 : Cond.code ⟨"AspenLine$Grove", "hasTalk", "(I)Z"⟩ prog_3_method_11_code 2 (some (FieldType.boolean)) ∈ TB := tb_3 (List.mem_of_getElem? (i := 5) rfl) rfl
theorem tb486 : Cond.methodLink "AspenLine" 155 ⟨"AspenLine$Grove", "hearers", "(II)I"⟩ ∈ TB := tb_3 (List.mem_of_getElem? (i := 6) rfl) rfl
theorem tb487 : Cond.instanceMethod ⟨"AspenLine$Grove", "hearers", "(II)I"⟩ ∈ TB := tb_3 (List.mem_of_getElem? (i := 7) rfl) rfl
theorem tb488 : Cond.selects "AspenLine$Grove" ⟨"AspenLine$Grove", "hearers", "(II)I"⟩ ⟨"AspenLine$Grove", "hearers", "(II)I"⟩ ∈ TB := tb_3 (List.mem_of_getElem? (i := 8) rfl) rfl
theorem tb489 : Cond.code ⟨"AspenLine$Grove", "hearers", "(II)I"⟩ prog_3_method_20_code 3 (some (FieldType.int)) ∈ TB := tb_3 (List.mem_of_getElem? (i := 9) rfl) rfl
theorem tb490 : Cond.methodLink "AspenLineLaw" 48 ⟨"AspenLine", "far", "(II)I"⟩ ∈ TB := tb_3 (List.mem_of_getElem? (i := 10) rfl) rfl
theorem tb491 : Cond.instanceMethod ⟨"AspenLine", "far", "(II)I"⟩ ∈ TB := tb_3 (List.mem_of_getElem? (i := 11) rfl) rfl
theorem tb492 : Cond.selects "AspenLine" ⟨"AspenLine", "far", "(II)I"⟩ ⟨"AspenLine", "far", "(II)I"⟩ ∈ TB := tb_3 (List.mem_of_getElem? (i := 12) rfl) rfl
theorem tb493 : Cond.code ⟨"AspenLine", "far", "(II)I"⟩ prog_1_method_10_code 4 (some (FieldType.int)) ∈ TB := tb_3 (List.mem_of_getElem? (i := 13) rfl) rfl
theorem tb494 : Cond.methodLink "AspenLine" 159 ⟨"AspenLine$Grove", "measure", "(I)[I"⟩ ∈ TB := tb_3 (List.mem_of_getElem? (i := 14) rfl) rfl
theorem tb495 : Cond.methodLink "AspenLineLaw" 52 ⟨"AspenLine", "loud", "(III)I"⟩ ∈ TB := tb_3 (List.mem_of_getElem? (i := 15) rfl) rfl
theorem tb496 : Cond.instanceMethod ⟨"AspenLine", "loud", "(III)I"⟩ ∈ TB := tb_3 (List.mem_of_getElem? (i := 16) rfl) rfl
theorem tb497 : Cond.selects "AspenLine" ⟨"AspenLine", "loud", "(III)I"⟩ ⟨"AspenLine", "loud", "(III)I"⟩ ∈ TB := tb_3 (List.mem_of_getElem? (i := 17) rfl) rfl
theorem tb498 : Cond.code ⟨"AspenLine", "loud", "(III)I"⟩ prog_1_method_11_code 4 (some (FieldType.int)) ∈ TB := tb_3 (List.mem_of_getElem? (i := 18) rfl) rfl
theorem tb499 : Cond.methodLink "AspenLine" 163 ⟨"AspenLine", "isBreath", "(I)Z"⟩ ∈ TB := tb_3 (List.mem_of_getElem? (i := 19) rfl) rfl
theorem tb500 : Cond.static ⟨"AspenLine", "isBreath", "(I)Z"⟩ ∈ TB := tb_3 (List.mem_of_getElem? (i := 20) rfl) rfl
theorem tb501 : Cond.code ⟨"AspenLine", "isBreath", "(I)Z"⟩ prog_1_method_49_code 1 (some (FieldType.boolean)) ∈ TB := tb_3 (List.mem_of_getElem? (i := 21) rfl) rfl
theorem tb502 : Cond.methodLink "AspenLine" 166 ⟨"AspenLine$Grove", "loudness", "(II[I)I"⟩ ∈ TB := tb_3 (List.mem_of_getElem? (i := 22) rfl) rfl
theorem tb503 : Cond.methodLink "AspenLineLaw" 57 ⟨"AspenLine", "graft", "(II)I"⟩ ∈ TB := tb_3 (List.mem_of_getElem? (i := 23) rfl) rfl
theorem tb504 : Cond.instanceMethod ⟨"AspenLine", "graft", "(II)I"⟩ ∈ TB := tb_3 (List.mem_of_getElem? (i := 24) rfl) rfl
theorem tb505 : Cond.selects "AspenLine" ⟨"AspenLine", "graft", "(II)I"⟩ ⟨"AspenLine", "graft", "(II)I"⟩ ∈ TB := tb_3 (List.mem_of_getElem? (i := 25) rfl) rfl
theorem tb506 : Cond.code ⟨"AspenLine", "graft", "(II)I"⟩ prog_1_method_12_code 3 (some (FieldType.int)) ∈ TB := tb_3 (List.mem_of_getElem? (i := 26) rfl) rfl
theorem tb507 : Cond.methodLink "AspenLine" 170 ⟨"AspenLine", "exchange", "([III)I"⟩ ∈ TB := tb_3 (List.mem_of_getElem? (i := 27) rfl) rfl
theorem tb508 : Cond.static ⟨"AspenLine", "exchange", "([III)I"⟩ ∈ TB := tb_3 (List.mem_of_getElem? (i := 28) rfl) rfl
theorem tb509 : Cond.code ⟨"AspenLine", "exchange", "([III)I"⟩ prog_1_method_57_code 4 (some (FieldType.int)) ∈ TB := tb_3 (List.mem_of_getElem? (i := 29) rfl) rfl
theorem tb510 : Cond.methodLink "AspenLineLaw" 61 ⟨"AspenLine", "stretch", "(II)I"⟩ ∈ TB := tb_3 (List.mem_of_getElem? (i := 30) rfl) rfl
theorem tb511 : Cond.instanceMethod ⟨"AspenLine", "stretch", "(II)I"⟩ ∈ TB := tb_3 (List.mem_of_getElem? (i := 31) rfl) rfl
theorem tb512 : Cond.selects "AspenLine" ⟨"AspenLine", "stretch", "(II)I"⟩ ⟨"AspenLine", "stretch", "(II)I"⟩ ∈ TB := tb_3 (List.mem_of_getElem? (i := 32) rfl) rfl
theorem tb513 : Cond.code ⟨"AspenLine", "stretch", "(II)I"⟩ prog_1_method_13_code 3 (some (FieldType.int)) ∈ TB := tb_3 (List.mem_of_getElem? (i := 33) rfl) rfl
theorem tb514 : Cond.methodLink "AspenLine" 174 ⟨"AspenLine", "isLength", "(I)Z"⟩ ∈ TB := tb_3 (List.mem_of_getElem? (i := 34) rfl) rfl
theorem tb515 : Cond.static ⟨"AspenLine", "isLength", "(I)Z"⟩ ∈ TB := tb_3 (List.mem_of_getElem? (i := 35) rfl) rfl
theorem tb516 : Cond.code ⟨"AspenLine", "isLength", "(I)Z"⟩ prog_1_method_50_code 1 (some (FieldType.boolean)) ∈ TB := tb_3 (List.mem_of_getElem? (i := 36) rfl) rfl
theorem tb517 : Cond.methodLink "AspenLineLaw" 65 ⟨"AspenLine", "grow", "(III)I"⟩ ∈ TB := tb_3 (List.mem_of_getElem? (i := 37) rfl) rfl
theorem tb518 : Cond.instanceMethod ⟨"AspenLine", "grow", "(III)I"⟩ ∈ TB := tb_3 (List.mem_of_getElem? (i := 38) rfl) rfl
theorem tb519 : Cond.selects "AspenLine" ⟨"AspenLine", "grow", "(III)I"⟩ ⟨"AspenLine", "grow", "(III)I"⟩ ∈ TB := tb_3 (List.mem_of_getElem? (i := 39) rfl) rfl
theorem tb520 : Cond.code ⟨"AspenLine", "grow", "(III)I"⟩ prog_1_method_14_code 4 (some (FieldType.int)) ∈ TB := tb_3 (List.mem_of_getElem? (i := 40) rfl) rfl
theorem tb521 : Cond.methodLink "AspenLine" 177 ⟨"AspenLine$Grove", "addRoot", "(III)I"⟩ ∈ TB := tb_3 (List.mem_of_getElem? (i := 41) rfl) rfl
theorem tb522 : Cond.methodLink "AspenLineLaw" 69 ⟨"AspenLine", "cut", "(IZ)I"⟩ ∈ TB := tb_3 (List.mem_of_getElem? (i := 42) rfl) rfl
theorem tb523 : Cond.instanceMethod ⟨"AspenLine", "cut", "(IZ)I"⟩ ∈ TB := tb_3 (List.mem_of_getElem? (i := 43) rfl) rfl
theorem tb524 : Cond.selects "AspenLine" ⟨"AspenLine", "cut", "(IZ)I"⟩ ⟨"AspenLine", "cut", "(IZ)I"⟩ ∈ TB := tb_3 (List.mem_of_getElem? (i := 44) rfl) rfl
theorem tb525 : Cond.code ⟨"AspenLine", "cut", "(IZ)I"⟩ prog_1_method_15_code 4 (some (FieldType.int)) ∈ TB := tb_3 (List.mem_of_getElem? (i := 45) rfl) rfl
theorem tb526 : Cond.methodLink "AspenLineLaw" 74 ⟨"AspenLine", "wind", "(I)I"⟩ ∈ TB := tb_3 (List.mem_of_getElem? (i := 46) rfl) rfl
theorem tb527 : Cond.instanceMethod ⟨"AspenLine", "wind", "(I)I"⟩ ∈ TB := tb_3 (List.mem_of_getElem? (i := 47) rfl) rfl
theorem tb528 : Cond.selects "AspenLine" ⟨"AspenLine", "wind", "(I)I"⟩ ⟨"AspenLine", "wind", "(I)I"⟩ ∈ TB := tb_3 (List.mem_of_getElem? (i := 48) rfl) rfl
theorem tb529 : Cond.code ⟨"AspenLine", "wind", "(I)I"⟩ prog_1_method_16_code 3 (some (FieldType.int)) ∈ TB := tb_3 (List.mem_of_getElem? (i := 49) rfl) rfl
theorem tb530 : Cond.methodLink "AspenLineLaw" 78 ⟨"AspenLine", "book", "(III)I"⟩ ∈ TB := tb_3 (List.mem_of_getElem? (i := 50) rfl) rfl
theorem tb531 : Cond.instanceMethod ⟨"AspenLine", "book", "(III)I"⟩ ∈ TB := tb_3 (List.mem_of_getElem? (i := 51) rfl) rfl
theorem tb532 : Cond.selects "AspenLine" ⟨"AspenLine", "book", "(III)I"⟩ ⟨"AspenLine", "book", "(III)I"⟩ ∈ TB := tb_3 (List.mem_of_getElem? (i := 52) rfl) rfl
theorem tb533 : Cond.code ⟨"AspenLine", "book", "(III)I"⟩ prog_1_method_17_code 4 (some (FieldType.int)) ∈ TB := tb_3 (List.mem_of_getElem? (i := 53) rfl) rfl
theorem tb534 : Cond.methodLink "AspenLine" 181 ⟨"AspenLine$Grove", "addTalk", "(III)I"⟩ ∈ TB := tb_3 (List.mem_of_getElem? (i := 54) rfl) rfl
theorem tb535 : Cond.methodLink "AspenLineLaw" 82 ⟨"AspenLine", "shift", "(III)I"⟩ ∈ TB := tb_3 (List.mem_of_getElem? (i := 55) rfl) rfl
theorem tb536 : Cond.instanceMethod ⟨"AspenLine", "shift", "(III)I"⟩ ∈ TB := tb_3 (List.mem_of_getElem? (i := 56) rfl) rfl
theorem tb537 : Cond.selects "AspenLine" ⟨"AspenLine", "shift", "(III)I"⟩ ⟨"AspenLine", "shift", "(III)I"⟩ ∈ TB := tb_3 (List.mem_of_getElem? (i := 57) rfl) rfl
theorem tb538 : Cond.code ⟨"AspenLine", "shift", "(III)I"⟩ prog_1_method_18_code 4 (some (FieldType.int)) ∈ TB := tb_3 (List.mem_of_getElem? (i := 58) rfl) rfl
theorem tb539 : Cond.methodLink "AspenLineLaw" 86 ⟨"AspenLine", "drop", "(I)I"⟩ ∈ TB := tb_3 (List.mem_of_getElem? (i := 59) rfl) rfl
theorem tb540 : Cond.instanceMethod ⟨"AspenLine", "drop", "(I)I"⟩ ∈ TB := tb_3 (List.mem_of_getElem? (i := 60) rfl) rfl
theorem tb541 : Cond.selects "AspenLine" ⟨"AspenLine", "drop", "(I)I"⟩ ⟨"AspenLine", "drop", "(I)I"⟩ ∈ TB := tb_3 (List.mem_of_getElem? (i := 61) rfl) rfl
theorem tb542 : Cond.code ⟨"AspenLine", "drop", "(I)I"⟩ prog_1_method_19_code 2 (some (FieldType.int)) ∈ TB := tb_3 (List.mem_of_getElem? (i := 62) rfl) rfl
theorem tb543 : Cond.methodLink "AspenLine" 184 ⟨"AspenLine$Grove", "keepFirstTalks", "(I)I"⟩ ∈ TB := tb_3 (List.mem_of_getElem? (i := 63) rfl) rfl
theorem tb544 : Cond.instanceMethod ⟨"AspenLine$Grove", "keepFirstTalks", "(I)I"⟩ ∈ TB := tb_3 (List.mem_of_getElem? (i := 64) rfl) rfl
theorem tb545 : Cond.selects "AspenLine$Grove" ⟨"AspenLine$Grove", "keepFirstTalks", "(I)I"⟩ ⟨"AspenLine$Grove", "keepFirstTalks", "(I)I"⟩ ∈ TB := tb_3 (List.mem_of_getElem? (i := 65) rfl) rfl
theorem tb546 : Cond.code ⟨"AspenLine$Grove", "keepFirstTalks", "(I)I"⟩ prog_3_method_7_code 3 (some (FieldType.int)) ∈ TB := tb_3 (List.mem_of_getElem? (i := 66) rfl) rfl
theorem tb547 : Cond.methodLink "AspenLineLaw" 90 ⟨"AspenLine", "hears", "(II)I"⟩ ∈ TB := tb_3 (List.mem_of_getElem? (i := 67) rfl) rfl
theorem tb548 : Cond.instanceMethod ⟨"AspenLine", "hears", "(II)I"⟩ ∈ TB := tb_3 (List.mem_of_getElem? (i := 68) rfl) rfl
theorem tb549 : Cond.selects "AspenLine" ⟨"AspenLine", "hears", "(II)I"⟩ ⟨"AspenLine", "hears", "(II)I"⟩ ∈ TB := tb_3 (List.mem_of_getElem? (i := 69) rfl) rfl
theorem tb550 : Cond.code ⟨"AspenLine", "hears", "(II)I"⟩ prog_1_method_20_code 3 (some (FieldType.int)) ∈ TB := tb_3 (List.mem_of_getElem? (i := 70) rfl) rfl
theorem tb551 : Cond.methodLink "AspenLineLaw" 94 ⟨"AspenLine", "crossed", "(II)I"⟩ ∈ TB := tb_3 (List.mem_of_getElem? (i := 71) rfl) rfl
theorem tb552 : Cond.instanceMethod ⟨"AspenLine", "crossed", "(II)I"⟩ ∈ TB := tb_3 (List.mem_of_getElem? (i := 72) rfl) rfl
theorem tb553 : Cond.selects "AspenLine" ⟨"AspenLine", "crossed", "(II)I"⟩ ⟨"AspenLine", "crossed", "(II)I"⟩ ∈ TB := tb_3 (List.mem_of_getElem? (i := 73) rfl) rfl
theorem tb554 : Cond.code ⟨"AspenLine", "crossed", "(II)I"⟩ prog_1_method_21_code 3 (some (FieldType.int)) ∈ TB := tb_3 (List.mem_of_getElem? (i := 74) rfl) rfl
theorem tb555 : Cond.methodLink "AspenLine" 187 ⟨"AspenLine$Grove", "listen", "()[I"⟩ ∈ TB := tb_3 (List.mem_of_getElem? (i := 75) rfl) rfl
theorem tb556 : Cond.methodLink "AspenLine" 191 ⟨"AspenLine$Grove", "areCrossed", "(II[I)Z"⟩ ∈ TB := tb_3 (List.mem_of_getElem? (i := 76) rfl) rfl
theorem tb557 : Cond.methodLink "AspenLineLaw" 98 ⟨"AspenLine", "least", "(II)I"⟩ ∈ TB := tb_3 (List.mem_of_getElem? (i := 77) rfl) rfl
theorem tb558 : Cond.instanceMethod ⟨"AspenLine", "least", "(II)I"⟩ ∈ TB := tb_3 (List.mem_of_getElem? (i := 78) rfl) rfl
theorem tb559 : Cond.selects "AspenLine" ⟨"AspenLine", "least", "(II)I"⟩ ⟨"AspenLine", "least", "(II)I"⟩ ∈ TB := tb_3 (List.mem_of_getElem? (i := 79) rfl) rfl
theorem tb560 : Cond.code ⟨"AspenLine", "least", "(II)I"⟩ prog_1_method_22_code 3 (some (FieldType.int)) ∈ TB := tb_3 (List.mem_of_getElem? (i := 80) rfl) rfl
theorem tb561 : Cond.methodLink "AspenLine" 195 ⟨"AspenLine$Grove", "hasTrees", "(I)Z"⟩ ∈ TB := tb_3 (List.mem_of_getElem? (i := 81) rfl) rfl
theorem tb562 : Cond.instanceMethod ⟨"AspenLine$Grove", "hasTrees", "(I)Z"⟩ ∈ TB := tb_3 (List.mem_of_getElem? (i := 82) rfl) rfl
theorem tb563 : Cond.selects "AspenLine$Grove" ⟨"AspenLine$Grove", "hasTrees", "(I)Z"⟩ ⟨"AspenLine$Grove", "hasTrees", "(I)Z"⟩ ∈ TB := tb_3 (List.mem_of_getElem? (i := 83) rfl) rfl
theorem tb564 : Cond.code ⟨"AspenLine$Grove", "hasTrees", "(I)Z"⟩ prog_3_method_9_code 2 (some (FieldType.boolean)) ∈ TB := tb_3 (List.mem_of_getElem? (i := 84) rfl) rfl
theorem tb565 : Cond.methodLink "AspenLine$Grove" 65 ⟨"AspenLine$Grove", "allTrees", "()I"⟩ ∈ TB := tb_3 (List.mem_of_getElem? (i := 85) rfl) rfl
theorem tb566 : Cond.instanceMethod ⟨"AspenLine$Grove", "allTrees", "()I"⟩ ∈ TB := tb_3 (List.mem_of_getElem? (i := 86) rfl) rfl
theorem tb567 : Cond.selects "AspenLine$Grove" ⟨"AspenLine$Grove", "allTrees", "()I"⟩ ⟨"AspenLine$Grove", "allTrees", "()I"⟩ ∈ TB := tb_3 (List.mem_of_getElem? (i := 87) rfl) rfl
theorem tb568 : Cond.code ⟨"AspenLine$Grove", "allTrees", "()I"⟩ prog_3_method_12_code 1 (some (FieldType.int)) ∈ TB := tb_3 (List.mem_of_getElem? (i := 88) rfl) rfl
theorem tb569 : Cond.methodLink "AspenLine" 198 ⟨"AspenLine$Grove", "leastBreath", "(III)I"⟩ ∈ TB := tb_3 (List.mem_of_getElem? (i := 89) rfl) rfl
theorem tb570 : Cond.instanceMethod ⟨"AspenLine$Grove", "leastBreath", "(III)I"⟩ ∈ TB := tb_3 (List.mem_of_getElem? (i := 90) rfl) rfl
theorem tb571 : Cond.selects "AspenLine$Grove" ⟨"AspenLine$Grove", "leastBreath", "(III)I"⟩ ⟨"AspenLine$Grove", "leastBreath", "(III)I"⟩ ∈ TB := tb_3 (List.mem_of_getElem? (i := 91) rfl) rfl
theorem tb572 : Cond.code ⟨"AspenLine$Grove", "leastBreath", "(III)I"⟩ prog_3_method_22_code 6 (some (FieldType.int)) ∈ TB := tb_3 (List.mem_of_getElem? (i := 92) rfl) rfl
theorem tb573 : Cond.methodLink "AspenLineLaw" 102 ⟨"AspenLine", "just", "(II)I"⟩ ∈ TB := tb_3 (List.mem_of_getElem? (i := 93) rfl) rfl
theorem tb574 : Cond.instanceMethod ⟨"AspenLine", "just", "(II)I"⟩ ∈ TB := tb_3 (List.mem_of_getElem? (i := 94) rfl) rfl
theorem tb575 : Cond.selects "AspenLine" ⟨"AspenLine", "just", "(II)I"⟩ ⟨"AspenLine", "just", "(II)I"⟩ ∈ TB := tb_3 (List.mem_of_getElem? (i := 95) rfl) rfl
theorem tb576 : Cond.code ⟨"AspenLine", "just", "(II)I"⟩ prog_1_method_23_code 3 (some (FieldType.int)) ∈ TB := tb_3 (List.mem_of_getElem? (i := 96) rfl) rfl
theorem tb577 : Cond.methodLink "AspenLine" 201 ⟨"AspenLine$Grove", "allTrees", "()I"⟩ ∈ TB := tb_3 (List.mem_of_getElem? (i := 97) rfl) rfl
theorem tb578 : Cond.methodLink "AspenLineLaw" 106 ⟨"AspenLine", "from", "(II)I"⟩ ∈ TB := tb_3 (List.mem_of_getElem? (i := 98) rfl) rfl
theorem tb579 : Cond.instanceMethod ⟨"AspenLine", "from", "(II)I"⟩ ∈ TB := tb_3 (List.mem_of_getElem? (i := 99) rfl) rfl
theorem tb580 : Cond.selects "AspenLine" ⟨"AspenLine", "from", "(II)I"⟩ ⟨"AspenLine", "from", "(II)I"⟩ ∈ TB := tb_3 (List.mem_of_getElem? (i := 100) rfl) rfl
theorem tb581 : Cond.code ⟨"AspenLine", "from", "(II)I"⟩ prog_1_method_24_code 5 (some (FieldType.int)) ∈ TB := tb_3 (List.mem_of_getElem? (i := 101) rfl) rfl
theorem tb582 : Cond.methodLink "AspenLine" 204 ⟨"AspenLine", "isEither", "(I)Z"⟩ ∈ TB := tb_3 (List.mem_of_getElem? (i := 102) rfl) rfl
theorem tb583 : Cond.static ⟨"AspenLine", "isEither", "(I)Z"⟩ ∈ TB := tb_3 (List.mem_of_getElem? (i := 103) rfl) rfl
theorem tb584 : Cond.code ⟨"AspenLine", "isEither", "(I)Z"⟩ prog_1_method_52_code 1 (some (FieldType.boolean)) ∈ TB := tb_3 (List.mem_of_getElem? (i := 104) rfl) rfl
theorem tb585 : Cond.methodLink "AspenLine" 207 ⟨"AspenLine$Best", "below", "(I)V"⟩ ∈ TB := tb_3 (List.mem_of_getElem? (i := 105) rfl) rfl
theorem tb586 : Cond.instanceMethod ⟨"AspenLine$Best", "below", "(I)V"⟩ ∈ TB := tb_3 (List.mem_of_getElem? (i := 106) rfl) rfl
theorem tb587 : Cond.selects "AspenLine$Best" ⟨"AspenLine$Best", "below", "(I)V"⟩ ⟨"AspenLine$Best", "below", "(I)V"⟩ ∈ TB := tb_3 (List.mem_of_getElem? (i := 107) rfl) rfl
theorem tb588 : Cond.code ⟨"AspenLine$Best", "below", "(I)V"⟩ prog_2_method_2_code 2 none ∈ TB := tb_3 (List.mem_of_getElem? (i := 108) rfl) rfl
theorem tb589 : Cond.methodLink "AspenLine" 211 ⟨"AspenLine$Best", "offer", "(II)V"⟩ ∈ TB := tb_3 (List.mem_of_getElem? (i := 109) rfl) rfl
theorem tb590 : Cond.instanceMethod ⟨"AspenLine$Best", "offer", "(II)V"⟩ ∈ TB := tb_3 (List.mem_of_getElem? (i := 110) rfl) rfl
theorem tb591 : Cond.selects "AspenLine$Best" ⟨"AspenLine$Best", "offer", "(II)V"⟩ ⟨"AspenLine$Best", "offer", "(II)V"⟩ ∈ TB := tb_3 (List.mem_of_getElem? (i := 111) rfl) rfl
theorem tb592 : Cond.code ⟨"AspenLine$Best", "offer", "(II)V"⟩ prog_2_method_3_code 3 none ∈ TB := tb_3 (List.mem_of_getElem? (i := 112) rfl) rfl
theorem tb593 : Cond.methodLink "AspenLine" 215 ⟨"AspenLine$Best", "told", "(I)I"⟩ ∈ TB := tb_3 (List.mem_of_getElem? (i := 113) rfl) rfl
theorem tb594 : Cond.instanceMethod ⟨"AspenLine$Best", "told", "(I)I"⟩ ∈ TB := tb_3 (List.mem_of_getElem? (i := 114) rfl) rfl
theorem tb595 : Cond.selects "AspenLine$Best" ⟨"AspenLine$Best", "told", "(I)I"⟩ ⟨"AspenLine$Best", "told", "(I)I"⟩ ∈ TB := tb_3 (List.mem_of_getElem? (i := 115) rfl) rfl
theorem tb596 : Cond.code ⟨"AspenLine$Best", "told", "(I)I"⟩ prog_2_method_5_code 2 (some (FieldType.int)) ∈ TB := tb_3 (List.mem_of_getElem? (i := 116) rfl) rfl
theorem tb597 : Cond.methodLink "AspenLine$Best" 18 ⟨"AspenLine$Best", "isNone", "()Z"⟩ ∈ TB := tb_3 (List.mem_of_getElem? (i := 117) rfl) rfl
theorem tb598 : Cond.instanceMethod ⟨"AspenLine$Best", "isNone", "()Z"⟩ ∈ TB := tb_3 (List.mem_of_getElem? (i := 118) rfl) rfl
theorem tb599 : Cond.selects "AspenLine$Best" ⟨"AspenLine$Best", "isNone", "()Z"⟩ ⟨"AspenLine$Best", "isNone", "()Z"⟩ ∈ TB := tb_3 (List.mem_of_getElem? (i := 119) rfl) rfl
theorem tb600 : Cond.code ⟨"AspenLine$Best", "isNone", "()Z"⟩ prog_2_method_4_code 1 (some (FieldType.boolean)) ∈ TB := tb_3 (List.mem_of_getElem? (i := 120) rfl) rfl
theorem tb601 : Cond.methodLink "AspenLineLaw" 110 ⟨"AspenLine", "hush", "(IIII)I"⟩ ∈ TB := tb_3 (List.mem_of_getElem? (i := 121) rfl) rfl
theorem tb602 : Cond.instanceMethod ⟨"AspenLine", "hush", "(IIII)I"⟩ ∈ TB := tb_3 (List.mem_of_getElem? (i := 122) rfl) rfl
theorem tb603 : Cond.selects "AspenLine" ⟨"AspenLine", "hush", "(IIII)I"⟩ ⟨"AspenLine", "hush", "(IIII)I"⟩ ∈ TB := tb_3 (List.mem_of_getElem? (i := 123) rfl) rfl
theorem tb604 : Cond.code ⟨"AspenLine", "hush", "(IIII)I"⟩ prog_1_method_25_code 7 (some (FieldType.int)) ∈ TB := tb_3 (List.mem_of_getElem? (i := 124) rfl) rfl
theorem tb605 : Cond.methodLink "AspenLine" 218 ⟨"java/lang/Integer", "bitCount", "(I)I"⟩ ∈ TB := tb_3 (List.mem_of_getElem? (i := 125) rfl) rfl
theorem tb606 : Cond.static ⟨"java/lang/Integer", "bitCount", "(I)I"⟩ ∈ TB := tb_3 (List.mem_of_getElem? (i := 126) rfl) rfl
theorem tb607 : Cond.code ⟨"java/lang/Integer", "bitCount", "(I)I"⟩ prog_10_method_49_code 1 (some (FieldType.int)) ∈ TB := tb_3 (List.mem_of_getElem? (i := 127) rfl) rfl
theorem tb608 : Cond.constant "java/lang/Integer" 265 (1431655765 : Int32) ∈ TB := tb_3 (List.mem_of_getElem? (i := 128) rfl) rfl
theorem tb609 : Cond.constant "java/lang/Integer" 266 (858993459 : Int32) ∈ TB := tb_3 (List.mem_of_getElem? (i := 129) rfl) rfl
theorem tb610 : Cond.constant "java/lang/Integer" 267 (252645135 : Int32) ∈ TB := tb_3 (List.mem_of_getElem? (i := 130) rfl) rfl
theorem tb611 : Cond.methodLink "AspenLineLaw" 115 ⟨"AspenLine", "join", "(IIII)I"⟩ ∈ TB := tb_3 (List.mem_of_getElem? (i := 131) rfl) rfl
theorem tb612 : Cond.instanceMethod ⟨"AspenLine", "join", "(IIII)I"⟩ ∈ TB := tb_3 (List.mem_of_getElem? (i := 132) rfl) rfl
theorem tb613 : Cond.selects "AspenLine" ⟨"AspenLine", "join", "(IIII)I"⟩ ⟨"AspenLine", "join", "(IIII)I"⟩ ∈ TB := tb_3 (List.mem_of_getElem? (i := 133) rfl) rfl
theorem tb614 : Cond.code ⟨"AspenLine", "join", "(IIII)I"⟩ prog_1_method_26_code 8 (some (FieldType.int)) ∈ TB := tb_3 (List.mem_of_getElem? (i := 134) rfl) rfl
theorem tb615 : Cond.methodLink "AspenLine" 226 ⟨"AspenLine$Best", "isNone", "()Z"⟩ ∈ TB := tb_3 (List.mem_of_getElem? (i := 135) rfl) rfl
theorem tb616 : Cond.methodLink "AspenLineLaw" 119 ⟨"AspenLine", "dear", "(I)I"⟩ ∈ TB := tb_3 (List.mem_of_getElem? (i := 136) rfl) rfl
theorem tb617 : Cond.instanceMethod ⟨"AspenLine", "dear", "(I)I"⟩ ∈ TB := tb_3 (List.mem_of_getElem? (i := 137) rfl) rfl
theorem tb618 : Cond.selects "AspenLine" ⟨"AspenLine", "dear", "(I)I"⟩ ⟨"AspenLine", "dear", "(I)I"⟩ ∈ TB := tb_3 (List.mem_of_getElem? (i := 138) rfl) rfl
theorem tb619 : Cond.code ⟨"AspenLine", "dear", "(I)I"⟩ prog_1_method_27_code 3 (some (FieldType.int)) ∈ TB := tb_3 (List.mem_of_getElem? (i := 139) rfl) rfl
theorem tb620 : Cond.methodLink "AspenLine" 230 ⟨"AspenLine$Grove", "hearersOfAllTalks", "()I"⟩ ∈ TB := tb_3 (List.mem_of_getElem? (i := 140) rfl) rfl
theorem tb621 : Cond.instanceMethod ⟨"AspenLine$Grove", "hearersOfAllTalks", "()I"⟩ ∈ TB := tb_3 (List.mem_of_getElem? (i := 141) rfl) rfl
theorem tb622 : Cond.selects "AspenLine$Grove" ⟨"AspenLine$Grove", "hearersOfAllTalks", "()I"⟩ ⟨"AspenLine$Grove", "hearersOfAllTalks", "()I"⟩ ∈ TB := tb_3 (List.mem_of_getElem? (i := 142) rfl) rfl
theorem tb623 : Cond.code ⟨"AspenLine$Grove", "hearersOfAllTalks", "()I"⟩ prog_3_method_25_code 4 (some (FieldType.int)) ∈ TB := tb_3 (List.mem_of_getElem? (i := 143) rfl) rfl
theorem tb624 : Cond.methodLink "AspenLine$Grove" 110 ⟨"java/lang/Integer", "bitCount", "(I)I"⟩ ∈ TB := tb_3 (List.mem_of_getElem? (i := 144) rfl) rfl
theorem tb625 : Cond.methodLink "AspenLineLaw" 123 ⟨"AspenLine", "hour", "(II)I"⟩ ∈ TB := tb_3 (List.mem_of_getElem? (i := 145) rfl) rfl
theorem tb626 : Cond.instanceMethod ⟨"AspenLine", "hour", "(II)I"⟩ ∈ TB := tb_3 (List.mem_of_getElem? (i := 146) rfl) rfl
theorem tb627 : Cond.selects "AspenLine" ⟨"AspenLine", "hour", "(II)I"⟩ ⟨"AspenLine", "hour", "(II)I"⟩ ∈ TB := tb_3 (List.mem_of_getElem? (i := 147) rfl) rfl
theorem tb628 : Cond.code ⟨"AspenLine", "hour", "(II)I"⟩ prog_1_method_28_code 4 (some (FieldType.int)) ∈ TB := tb_3 (List.mem_of_getElem? (i := 148) rfl) rfl
theorem tb629 : Cond.methodLink "AspenLineLaw" 127 ⟨"AspenLine", "kind", "(II)I"⟩ ∈ TB := tb_3 (List.mem_of_getElem? (i := 149) rfl) rfl
theorem tb630 : Cond.instanceMethod ⟨"AspenLine", "kind", "(II)I"⟩ ∈ TB := tb_3 (List.mem_of_getElem? (i := 150) rfl) rfl
theorem tb631 : Cond.selects "AspenLine" ⟨"AspenLine", "kind", "(II)I"⟩ ⟨"AspenLine", "kind", "(II)I"⟩ ∈ TB := tb_3 (List.mem_of_getElem? (i := 151) rfl) rfl
theorem tb632 : Cond.code ⟨"AspenLine", "kind", "(II)I"⟩ prog_1_method_29_code 4 (some (FieldType.int)) ∈ TB := tb_3 (List.mem_of_getElem? (i := 152) rfl) rfl
theorem tb633 : Cond.methodLink "AspenLineLaw" 131 ⟨"AspenLine", "calm", "()I"⟩ ∈ TB := tb_3 (List.mem_of_getElem? (i := 153) rfl) rfl
theorem tb634 : Cond.instanceMethod ⟨"AspenLine", "calm", "()I"⟩ ∈ TB := tb_3 (List.mem_of_getElem? (i := 154) rfl) rfl
theorem tb635 : Cond.selects "AspenLine" ⟨"AspenLine", "calm", "()I"⟩ ⟨"AspenLine", "calm", "()I"⟩ ∈ TB := tb_3 (List.mem_of_getElem? (i := 155) rfl) rfl
theorem tb636 : Cond.code ⟨"AspenLine", "calm", "()I"⟩ prog_1_method_30_code 2 (some (FieldType.int)) ∈ TB := tb_3 (List.mem_of_getElem? (i := 156) rfl) rfl
theorem tb637 : Cond.methodLink "AspenLineLaw" 135 ⟨"AspenLine", "luck", "(IIIII)J"⟩ ∈ TB := tb_3 (List.mem_of_getElem? (i := 157) rfl) rfl
theorem tb638 : Cond.instanceMethod ⟨"AspenLine", "luck", "(IIIII)J"⟩ ∈ TB := tb_3 (List.mem_of_getElem? (i := 158) rfl) rfl
theorem tb639 : Cond.selects "AspenLine" ⟨"AspenLine", "luck", "(IIIII)J"⟩ ⟨"AspenLine", "luck", "(IIIII)J"⟩ ∈ TB := tb_3 (List.mem_of_getElem? (i := 159) rfl) rfl
theorem tb640 : Cond.code ⟨"AspenLine", "luck", "(IIIII)J"⟩ prog_1_method_31_code 6 (some (FieldType.long)) ∈ TB := tb_3 (List.mem_of_getElem? (i := 160) rfl) rfl
theorem tb641 : Cond.methodLink "AspenLine" 233 ⟨"AspenLine", "isTenths", "(I)Z"⟩ ∈ TB := tb_3 (List.mem_of_getElem? (i := 161) rfl) rfl
theorem tb642 : Cond.static ⟨"AspenLine", "isTenths", "(I)Z"⟩ ∈ TB := tb_3 (List.mem_of_getElem? (i := 162) rfl) rfl
theorem tb643 : Cond.code ⟨"AspenLine", "isTenths", "(I)Z"⟩ prog_1_method_51_code 1 (some (FieldType.boolean)) ∈ TB := tb_3 (List.mem_of_getElem? (i := 163) rfl) rfl
theorem tb644 : Cond.constantLong "AspenLine" 236 (-1 : Int64) ∈ TB := tb_3 (List.mem_of_getElem? (i := 164) rfl) rfl
theorem tb645 : Cond.methodLink "AspenLine" 238 ⟨"AspenLine", "meanHearers", "(IIIII)J"⟩ ∈ TB := tb_3 (List.mem_of_getElem? (i := 165) rfl) rfl
theorem tb647 : Cond.instanceMethod ⟨"AspenLine", "meanHearers", "(IIIII)J"⟩ ∈ TB := tb_3 (List.mem_of_getElem? (i := 167) rfl) rfl
theorem tb648 : Cond.code ⟨"AspenLine", "meanHearers", "(IIIII)J"⟩ prog_1_method_33_code 13 (some (FieldType.long)) ∈ TB := tb_3 (List.mem_of_getElem? (i := 168) rfl) rfl
theorem tb649 : Cond.methodLink "AspenLine" 242 ⟨"AspenLine", "power", "(II)J"⟩ ∈ TB := tb_3 (List.mem_of_getElem? (i := 169) rfl) rfl
theorem tb650 : Cond.static ⟨"AspenLine", "power", "(II)J"⟩ ∈ TB := tb_3 (List.mem_of_getElem? (i := 170) rfl) rfl
theorem tb651 : Cond.code ⟨"AspenLine", "power", "(II)J"⟩ prog_1_method_59_code 5 (some (FieldType.long)) ∈ TB := tb_3 (List.mem_of_getElem? (i := 171) rfl) rfl
theorem tb652 : Cond.methodLink "AspenLine" 246 ⟨"AspenLine", "commonDivisor", "(JJ)J"⟩ ∈ TB := tb_3 (List.mem_of_getElem? (i := 172) rfl) rfl
theorem tb653 : Cond.static ⟨"AspenLine", "commonDivisor", "(JJ)J"⟩ ∈ TB := tb_3 (List.mem_of_getElem? (i := 173) rfl) rfl
theorem tb654 : Cond.code ⟨"AspenLine", "commonDivisor", "(JJ)J"⟩ prog_1_method_60_code 11 (some (FieldType.long)) ∈ TB := tb_3 (List.mem_of_getElem? (i := 174) rfl) rfl
theorem tb655 : Cond.methodLink "AspenLine" 250 ⟨"java/lang/Math", "max", "(JJ)J"⟩ ∈ TB := tb_3 (List.mem_of_getElem? (i := 175) rfl) rfl
theorem tb656 : Cond.static ⟨"java/lang/Math", "max", "(JJ)J"⟩ ∈ TB := tb_3 (List.mem_of_getElem? (i := 176) rfl) rfl
theorem tb657 : Cond.code ⟨"java/lang/Math", "max", "(JJ)J"⟩ prog_11_method_66_code 4 (some (FieldType.long)) ∈ TB := tb_3 (List.mem_of_getElem? (i := 177) rfl) rfl
theorem tb658 : Cond.methodLink "AspenLineLaw" 140 ⟨"AspenLine", "mean", "(IIII)J"⟩ ∈ TB := tb_3 (List.mem_of_getElem? (i := 178) rfl) rfl
theorem tb659 : Cond.instanceMethod ⟨"AspenLine", "mean", "(IIII)J"⟩ ∈ TB := tb_3 (List.mem_of_getElem? (i := 179) rfl) rfl
theorem tb660 : Cond.selects "AspenLine" ⟨"AspenLine", "mean", "(IIII)J"⟩ ⟨"AspenLine", "mean", "(IIII)J"⟩ ∈ TB := tb_3 (List.mem_of_getElem? (i := 180) rfl) rfl
theorem tb661 : Cond.code ⟨"AspenLine", "mean", "(IIII)J"⟩ prog_1_method_32_code 5 (some (FieldType.long)) ∈ TB := tb_3 (List.mem_of_getElem? (i := 181) rfl) rfl
theorem tb662 : Cond.methodLink "AspenLineLaw" 145 ⟨"AspenLine", "see", "(II)I"⟩ ∈ TB := tb_3 (List.mem_of_getElem? (i := 182) rfl) rfl
theorem tb663 : Cond.instanceMethod ⟨"AspenLine", "see", "(II)I"⟩ ∈ TB := tb_3 (List.mem_of_getElem? (i := 183) rfl) rfl
theorem tb664 : Cond.selects "AspenLine" ⟨"AspenLine", "see", "(II)I"⟩ ⟨"AspenLine", "see", "(II)I"⟩ ∈ TB := tb_3 (List.mem_of_getElem? (i := 184) rfl) rfl
theorem tb665 : Cond.code ⟨"AspenLine", "see", "(II)I"⟩ prog_1_method_34_code 3 (some (FieldType.int)) ∈ TB := tb_3 (List.mem_of_getElem? (i := 185) rfl) rfl
theorem tb666 : Cond.methodLink "AspenLine" 255 ⟨"AspenLine$Sightings", "add", "(II)I"⟩ ∈ TB := tb_3 (List.mem_of_getElem? (i := 186) rfl) rfl
theorem tb667 : Cond.instanceMethod ⟨"AspenLine$Sightings", "add", "(II)I"⟩ ∈ TB := tb_3 (List.mem_of_getElem? (i := 187) rfl) rfl
theorem tb668 : Cond.selects "AspenLine$Sightings" ⟨"AspenLine$Sightings", "add", "(II)I"⟩ ⟨"AspenLine$Sightings", "add", "(II)I"⟩ ∈ TB := tb_3 (List.mem_of_getElem? (i := 188) rfl) rfl
theorem tb669 : Cond.code ⟨"AspenLine$Sightings", "add", "(II)I"⟩ prog_6_method_2_code 3 (some (FieldType.int)) ∈ TB := tb_3 (List.mem_of_getElem? (i := 189) rfl) rfl
theorem tb670 : Cond.methodLink "AspenLineLaw" 149 ⟨"AspenLine", "forget", "(I)I"⟩ ∈ TB := tb_3 (List.mem_of_getElem? (i := 190) rfl) rfl
theorem tb671 : Cond.instanceMethod ⟨"AspenLine", "forget", "(I)I"⟩ ∈ TB := tb_3 (List.mem_of_getElem? (i := 191) rfl) rfl
theorem tb672 : Cond.selects "AspenLine" ⟨"AspenLine", "forget", "(I)I"⟩ ⟨"AspenLine", "forget", "(I)I"⟩ ∈ TB := tb_3 (List.mem_of_getElem? (i := 192) rfl) rfl
theorem tb673 : Cond.code ⟨"AspenLine", "forget", "(I)I"⟩ prog_1_method_35_code 2 (some (FieldType.int)) ∈ TB := tb_3 (List.mem_of_getElem? (i := 193) rfl) rfl
theorem tb674 : Cond.methodLink "AspenLineLaw" 153 ⟨"AspenLine", "sayers", "()I"⟩ ∈ TB := tb_3 (List.mem_of_getElem? (i := 194) rfl) rfl
theorem tb675 : Cond.instanceMethod ⟨"AspenLine", "sayers", "()I"⟩ ∈ TB := tb_3 (List.mem_of_getElem? (i := 195) rfl) rfl
theorem tb676 : Cond.selects "AspenLine" ⟨"AspenLine", "sayers", "()I"⟩ ⟨"AspenLine", "sayers", "()I"⟩ ∈ TB := tb_3 (List.mem_of_getElem? (i := 196) rfl) rfl
theorem tb677 : Cond.code ⟨"AspenLine", "sayers", "()I"⟩ prog_1_method_36_code 1 (some (FieldType.int)) ∈ TB := tb_3 (List.mem_of_getElem? (i := 197) rfl) rfl
theorem tb678 : Cond.methodLink "AspenLine" 258 ⟨"AspenLine$Sightings", "possibleSayers", "(LAspenLine$Grove;)I"⟩ ∈ TB := tb_3 (List.mem_of_getElem? (i := 198) rfl) rfl
theorem tb679 : Cond.instanceMethod ⟨"AspenLine$Sightings", "possibleSayers", "(LAspenLine$Grove;)I"⟩ ∈ TB := tb_3 (List.mem_of_getElem? (i := 199) rfl) rfl
theorem tb680 : Cond.selects "AspenLine$Sightings" ⟨"AspenLine$Sightings", "possibleSayers", "(LAspenLine$Grove;)I"⟩ ⟨"AspenLine$Sightings", "possibleSayers", "(LAspenLine$Grove;)I"⟩ ∈ TB := tb_3 (List.mem_of_getElem? (i := 200) rfl) rfl
theorem tb681 : Cond.code ⟨"AspenLine$Sightings", "possibleSayers", "(LAspenLine$Grove;)I"⟩ prog_6_method_7_code 4 (some (FieldType.int)) ∈ TB := tb_3 (List.mem_of_getElem? (i := 201) rfl) rfl
theorem tb682 : Cond.methodLink "AspenLine$Sightings" 42 ⟨"AspenLine$Sightings", "leastPossible", "(LAspenLine$Grove;I)I"⟩ ∈ TB := tb_3 (List.mem_of_getElem? (i := 202) rfl) rfl
theorem tb683 : Cond.instanceMethod ⟨"AspenLine$Sightings", "leastPossible", "(LAspenLine$Grove;I)I"⟩ ∈ TB := tb_3 (List.mem_of_getElem? (i := 203) rfl) rfl
theorem tb684 : Cond.selects "AspenLine$Sightings" ⟨"AspenLine$Sightings", "leastPossible", "(LAspenLine$Grove;I)I"⟩ ⟨"AspenLine$Sightings", "leastPossible", "(LAspenLine$Grove;I)I"⟩ ∈ TB := tb_3 (List.mem_of_getElem? (i := 204) rfl) rfl
theorem tb685 : Cond.code ⟨"AspenLine$Sightings", "leastPossible", "(LAspenLine$Grove;I)I"⟩ prog_6_method_6_code 5 (some (FieldType.int)) ∈ TB := tb_3 (List.mem_of_getElem? (i := 205) rfl) rfl
theorem tb686 : Cond.methodLink "AspenLine$Sightings" 31 ⟨"AspenLine$Grove", "measure", "(I)[I"⟩ ∈ TB := tb_3 (List.mem_of_getElem? (i := 206) rfl) rfl
theorem tb687 : Cond.methodLink "AspenLine$Sightings" 35 ⟨"AspenLine$Sightings", "fit", "(LAspenLine$Grove;I[I)Z"⟩ ∈ TB := tb_3 (List.mem_of_getElem? (i := 207) rfl) rfl
theorem tb689 : Cond.instanceMethod ⟨"AspenLine$Sightings", "fit", "(LAspenLine$Grove;I[I)Z"⟩ ∈ TB := tb_3 (List.mem_of_getElem? (i := 209) rfl) rfl
theorem tb690 : Cond.code ⟨"AspenLine$Sightings", "fit", "(LAspenLine$Grove;I[I)Z"⟩ prog_6_method_4_code 5 (some (FieldType.boolean)) ∈ TB := tb_3 (List.mem_of_getElem? (i := 210) rfl) rfl
theorem tb691 : Cond.methodLink "AspenLine$Sightings" 25 ⟨"AspenLine$Grove", "loudness", "(II[I)I"⟩ ∈ TB := tb_3 (List.mem_of_getElem? (i := 211) rfl) rfl
theorem tb692 : Cond.methodLink "AspenLineLaw" 157 ⟨"AspenLine", "breaths", "(II)I"⟩ ∈ TB := tb_3 (List.mem_of_getElem? (i := 212) rfl) rfl
theorem tb693 : Cond.instanceMethod ⟨"AspenLine", "breaths", "(II)I"⟩ ∈ TB := tb_3 (List.mem_of_getElem? (i := 213) rfl) rfl
theorem tb694 : Cond.selects "AspenLine" ⟨"AspenLine", "breaths", "(II)I"⟩ ⟨"AspenLine", "breaths", "(II)I"⟩ ∈ TB := tb_3 (List.mem_of_getElem? (i := 214) rfl) rfl
theorem tb695 : Cond.code ⟨"AspenLine", "breaths", "(II)I"⟩ prog_1_method_37_code 3 (some (FieldType.int)) ∈ TB := tb_3 (List.mem_of_getElem? (i := 215) rfl) rfl
theorem tb696 : Cond.methodLink "AspenLine" 262 ⟨"AspenLine$Sightings", "howManyBreaths", "(LAspenLine$Grove;I)I"⟩ ∈ TB := tb_3 (List.mem_of_getElem? (i := 216) rfl) rfl
theorem tb697 : Cond.instanceMethod ⟨"AspenLine$Sightings", "howManyBreaths", "(LAspenLine$Grove;I)I"⟩ ∈ TB := tb_3 (List.mem_of_getElem? (i := 217) rfl) rfl
theorem tb698 : Cond.selects "AspenLine$Sightings" ⟨"AspenLine$Sightings", "howManyBreaths", "(LAspenLine$Grove;I)I"⟩ ⟨"AspenLine$Sightings", "howManyBreaths", "(LAspenLine$Grove;I)I"⟩ ∈ TB := tb_3 (List.mem_of_getElem? (i := 218) rfl) rfl
theorem tb699 : Cond.code ⟨"AspenLine$Sightings", "howManyBreaths", "(LAspenLine$Grove;I)I"⟩ prog_6_method_5_code 6 (some (FieldType.int)) ∈ TB := tb_3 (List.mem_of_getElem? (i := 219) rfl) rfl
theorem tb700 : Cond.methodLink "AspenLine" 266 ⟨"AspenLine$Sightings", "leastPossible", "(LAspenLine$Grove;I)I"⟩ ∈ TB := tb_3 (List.mem_of_getElem? (i := 220) rfl) rfl
theorem tb701 : Cond.methodLink "AspenLineLaw" 161 ⟨"AspenLine", "kinds", "(I)I"⟩ ∈ TB := tb_3 (List.mem_of_getElem? (i := 221) rfl) rfl
theorem tb702 : Cond.instanceMethod ⟨"AspenLine", "kinds", "(I)I"⟩ ∈ TB := tb_3 (List.mem_of_getElem? (i := 222) rfl) rfl
theorem tb703 : Cond.selects "AspenLine" ⟨"AspenLine", "kinds", "(I)I"⟩ ⟨"AspenLine", "kinds", "(I)I"⟩ ∈ TB := tb_3 (List.mem_of_getElem? (i := 223) rfl) rfl
theorem tb704 : Cond.code ⟨"AspenLine", "kinds", "(I)I"⟩ prog_1_method_38_code 4 (some (FieldType.int)) ∈ TB := tb_3 (List.mem_of_getElem? (i := 224) rfl) rfl
theorem tb705 : Cond.methodLink "AspenLineLaw" 165 ⟨"AspenLine", "ask", "(I)I"⟩ ∈ TB := tb_3 (List.mem_of_getElem? (i := 225) rfl) rfl
theorem tb706 : Cond.instanceMethod ⟨"AspenLine", "ask", "(I)I"⟩ ∈ TB := tb_3 (List.mem_of_getElem? (i := 226) rfl) rfl
theorem tb707 : Cond.selects "AspenLine" ⟨"AspenLine", "ask", "(I)I"⟩ ⟨"AspenLine", "ask", "(I)I"⟩ ∈ TB := tb_3 (List.mem_of_getElem? (i := 227) rfl) rfl
theorem tb708 : Cond.code ⟨"AspenLine", "ask", "(I)I"⟩ prog_1_method_39_code 4 (some (FieldType.int)) ∈ TB := tb_3 (List.mem_of_getElem? (i := 228) rfl) rfl
theorem tb709 : Cond.methodLink "AspenLine" 269 ⟨"AspenLine$Sightings", "leftAtWorst", "(LAspenLine$Grove;I)I"⟩ ∈ TB := tb_3 (List.mem_of_getElem? (i := 229) rfl) rfl
theorem tb710 : Cond.instanceMethod ⟨"AspenLine$Sightings", "leftAtWorst", "(LAspenLine$Grove;I)I"⟩ ∈ TB := tb_3 (List.mem_of_getElem? (i := 230) rfl) rfl
theorem tb711 : Cond.selects "AspenLine$Sightings" ⟨"AspenLine$Sightings", "leftAtWorst", "(LAspenLine$Grove;I)I"⟩ ⟨"AspenLine$Sightings", "leftAtWorst", "(LAspenLine$Grove;I)I"⟩ ∈ TB := tb_3 (List.mem_of_getElem? (i := 231) rfl) rfl
theorem tb712 : Cond.code ⟨"AspenLine$Sightings", "leftAtWorst", "(LAspenLine$Grove;I)I"⟩ prog_6_method_8_code 8 (some (FieldType.int)) ∈ TB := tb_3 (List.mem_of_getElem? (i := 232) rfl) rfl
theorem tb713 : Cond.methodLink "AspenLine$Sightings" 46 ⟨"java/util/Arrays", "fill", "([II)V"⟩ ∈ TB := tb_3 (List.mem_of_getElem? (i := 233) rfl) rfl
theorem tb714 : Cond.methodLink "AspenLine$Sightings" 52 ⟨"java/lang/Math", "max", "(II)I"⟩ ∈ TB := tb_3 (List.mem_of_getElem? (i := 234) rfl) rfl
theorem tb715 : Cond.methodLink "AspenLineLaw" 169 ⟨"AspenLine", "drift", "(III)I"⟩ ∈ TB := tb_3 (List.mem_of_getElem? (i := 235) rfl) rfl
theorem tb716 : Cond.instanceMethod ⟨"AspenLine", "drift", "(III)I"⟩ ∈ TB := tb_3 (List.mem_of_getElem? (i := 236) rfl) rfl
theorem tb717 : Cond.selects "AspenLine" ⟨"AspenLine", "drift", "(III)I"⟩ ⟨"AspenLine", "drift", "(III)I"⟩ ∈ TB := tb_3 (List.mem_of_getElem? (i := 237) rfl) rfl
theorem tb718 : Cond.code ⟨"AspenLine", "drift", "(III)I"⟩ prog_1_method_40_code 10 (some (FieldType.int)) ∈ TB := tb_3 (List.mem_of_getElem? (i := 238) rfl) rfl
theorem tb719 : Cond.constant "AspenLine" 272 (1103515245 : Int32) ∈ TB := tb_3 (List.mem_of_getElem? (i := 239) rfl) rfl
theorem tb720 : Cond.methodLink "AspenLineLaw" 173 ⟨"AspenLine", "keep", "(I)I"⟩ ∈ TB := tb_4 (List.mem_of_getElem? (i := 0) rfl) rfl
theorem tb721 : Cond.instanceMethod ⟨"AspenLine", "keep", "(I)I"⟩ ∈ TB := tb_4 (List.mem_of_getElem? (i := 1) rfl) rfl
theorem tb722 : Cond.selects "AspenLine" ⟨"AspenLine", "keep", "(I)I"⟩ ⟨"AspenLine", "keep", "(I)I"⟩ ∈ TB := tb_4 (List.mem_of_getElem? (i := 2) rfl) rfl
theorem tb723 : Cond.code ⟨"AspenLine", "keep", "(I)I"⟩ prog_1_method_41_code 3 (some (FieldType.int)) ∈ TB := tb_4 (List.mem_of_getElem? (i := 3) rfl) rfl
theorem tb724 : Cond.methodLink "AspenLine" 273 ⟨"AspenLine", "isImage", "(I)Z"⟩ ∈ TB := tb_4 (List.mem_of_getElem? (i := 4) rfl) rfl
theorem tb726 : Cond.instanceMethod ⟨"AspenLine", "isImage", "(I)Z"⟩ ∈ TB := tb_4 (List.mem_of_getElem? (i := 6) rfl) rfl
theorem tb727 : Cond.code ⟨"AspenLine", "isImage", "(I)Z"⟩ prog_1_method_54_code 2 (some (FieldType.boolean)) ∈ TB := tb_4 (List.mem_of_getElem? (i := 7) rfl) rfl
theorem tb728 : Cond.methodLink "AspenLine" 276 ⟨"AspenLine", "isKept", "(I)Z"⟩ ∈ TB := tb_4 (List.mem_of_getElem? (i := 8) rfl) rfl
theorem tb730 : Cond.instanceMethod ⟨"AspenLine", "isKept", "(I)Z"⟩ ∈ TB := tb_4 (List.mem_of_getElem? (i := 10) rfl) rfl
theorem tb731 : Cond.code ⟨"AspenLine", "isKept", "(I)Z"⟩ prog_1_method_55_code 2 (some (FieldType.boolean)) ∈ TB := tb_4 (List.mem_of_getElem? (i := 11) rfl) rfl
theorem tb732 : Cond.methodLink "AspenLineLaw" 177 ⟨"AspenLine", "back", "(I)I"⟩ ∈ TB := tb_4 (List.mem_of_getElem? (i := 12) rfl) rfl
theorem tb733 : Cond.instanceMethod ⟨"AspenLine", "back", "(I)I"⟩ ∈ TB := tb_4 (List.mem_of_getElem? (i := 13) rfl) rfl
theorem tb734 : Cond.selects "AspenLine" ⟨"AspenLine", "back", "(I)I"⟩ ⟨"AspenLine", "back", "(I)I"⟩ ∈ TB := tb_4 (List.mem_of_getElem? (i := 14) rfl) rfl
theorem tb735 : Cond.code ⟨"AspenLine", "back", "(I)I"⟩ prog_1_method_42_code 2 (some (FieldType.int)) ∈ TB := tb_4 (List.mem_of_getElem? (i := 15) rfl) rfl
theorem tb736 : Cond.methodLink "AspenLineLaw" 181 ⟨"AspenLine", "sheet", "(III)I"⟩ ∈ TB := tb_4 (List.mem_of_getElem? (i := 16) rfl) rfl
theorem tb737 : Cond.instanceMethod ⟨"AspenLine", "sheet", "(III)I"⟩ ∈ TB := tb_4 (List.mem_of_getElem? (i := 17) rfl) rfl
theorem tb738 : Cond.selects "AspenLine" ⟨"AspenLine", "sheet", "(III)I"⟩ ⟨"AspenLine", "sheet", "(III)I"⟩ ∈ TB := tb_4 (List.mem_of_getElem? (i := 18) rfl) rfl
theorem tb739 : Cond.code ⟨"AspenLine", "sheet", "(III)I"⟩ prog_1_method_43_code 4 (some (FieldType.int)) ∈ TB := tb_4 (List.mem_of_getElem? (i := 19) rfl) rfl
theorem tb740 : Cond.methodLink "AspenLine" 279 ⟨"AspenLine", "isSheet", "(I)Z"⟩ ∈ TB := tb_4 (List.mem_of_getElem? (i := 20) rfl) rfl
theorem tb742 : Cond.instanceMethod ⟨"AspenLine", "isSheet", "(I)Z"⟩ ∈ TB := tb_4 (List.mem_of_getElem? (i := 22) rfl) rfl
theorem tb743 : Cond.code ⟨"AspenLine", "isSheet", "(I)Z"⟩ prog_1_method_56_code 2 (some (FieldType.boolean)) ∈ TB := tb_4 (List.mem_of_getElem? (i := 23) rfl) rfl
theorem tb744 : Cond.methodLink "AspenLine" 282 ⟨"AspenLine", "isLane", "(I)Z"⟩ ∈ TB := tb_4 (List.mem_of_getElem? (i := 24) rfl) rfl
theorem tb745 : Cond.static ⟨"AspenLine", "isLane", "(I)Z"⟩ ∈ TB := tb_4 (List.mem_of_getElem? (i := 25) rfl) rfl
theorem tb746 : Cond.code ⟨"AspenLine", "isLane", "(I)Z"⟩ prog_1_method_53_code 1 (some (FieldType.boolean)) ∈ TB := tb_4 (List.mem_of_getElem? (i := 26) rfl) rfl
theorem tb747 : Cond.methodLink "AspenLine" 285 ⟨"AspenLine$Sheet", "renew", "(II)V"⟩ ∈ TB := tb_4 (List.mem_of_getElem? (i := 27) rfl) rfl
theorem tb748 : Cond.instanceMethod ⟨"AspenLine$Sheet", "renew", "(II)V"⟩ ∈ TB := tb_4 (List.mem_of_getElem? (i := 28) rfl) rfl
theorem tb749 : Cond.selects "AspenLine$Sheet" ⟨"AspenLine$Sheet", "renew", "(II)V"⟩ ⟨"AspenLine$Sheet", "renew", "(II)V"⟩ ∈ TB := tb_4 (List.mem_of_getElem? (i := 29) rfl) rfl
theorem tb750 : Cond.code ⟨"AspenLine$Sheet", "renew", "(II)V"⟩ prog_5_method_3_code 3 none ∈ TB := tb_4 (List.mem_of_getElem? (i := 30) rfl) rfl
theorem tb751 : Cond.methodLink "AspenLine$Sheet" 22 ⟨"java/util/Arrays", "fill", "([II)V"⟩ ∈ TB := tb_4 (List.mem_of_getElem? (i := 31) rfl) rfl
theorem tb752 : Cond.methodLink "AspenLineLaw" 185 ⟨"AspenLine", "lay", "(III)I"⟩ ∈ TB := tb_4 (List.mem_of_getElem? (i := 32) rfl) rfl
theorem tb753 : Cond.instanceMethod ⟨"AspenLine", "lay", "(III)I"⟩ ∈ TB := tb_4 (List.mem_of_getElem? (i := 33) rfl) rfl
theorem tb754 : Cond.selects "AspenLine" ⟨"AspenLine", "lay", "(III)I"⟩ ⟨"AspenLine", "lay", "(III)I"⟩ ∈ TB := tb_4 (List.mem_of_getElem? (i := 34) rfl) rfl
theorem tb755 : Cond.code ⟨"AspenLine", "lay", "(III)I"⟩ prog_1_method_44_code 5 (some (FieldType.int)) ∈ TB := tb_4 (List.mem_of_getElem? (i := 35) rfl) rfl
theorem tb756 : Cond.methodLink "AspenLine" 288 ⟨"AspenLine$Sheet", "faultOfCells", "(II)I"⟩ ∈ TB := tb_4 (List.mem_of_getElem? (i := 36) rfl) rfl
theorem tb757 : Cond.instanceMethod ⟨"AspenLine$Sheet", "faultOfCells", "(II)I"⟩ ∈ TB := tb_4 (List.mem_of_getElem? (i := 37) rfl) rfl
theorem tb758 : Cond.selects "AspenLine$Sheet" ⟨"AspenLine$Sheet", "faultOfCells", "(II)I"⟩ ⟨"AspenLine$Sheet", "faultOfCells", "(II)I"⟩ ∈ TB := tb_4 (List.mem_of_getElem? (i := 38) rfl) rfl
theorem tb759 : Cond.code ⟨"AspenLine$Sheet", "faultOfCells", "(II)I"⟩ prog_5_method_4_code 3 (some (FieldType.int)) ∈ TB := tb_4 (List.mem_of_getElem? (i := 39) rfl) rfl
theorem tb760 : Cond.methodLink "AspenLine$Sheet" 28 ⟨"AspenLine$Sheet", "isNothing", "()Z"⟩ ∈ TB := tb_4 (List.mem_of_getElem? (i := 40) rfl) rfl
theorem tb761 : Cond.instanceMethod ⟨"AspenLine$Sheet", "isNothing", "()Z"⟩ ∈ TB := tb_4 (List.mem_of_getElem? (i := 41) rfl) rfl
theorem tb762 : Cond.selects "AspenLine$Sheet" ⟨"AspenLine$Sheet", "isNothing", "()Z"⟩ ⟨"AspenLine$Sheet", "isNothing", "()Z"⟩ ∈ TB := tb_4 (List.mem_of_getElem? (i := 42) rfl) rfl
theorem tb763 : Cond.code ⟨"AspenLine$Sheet", "isNothing", "()Z"⟩ prog_5_method_2_code 1 (some (FieldType.boolean)) ∈ TB := tb_4 (List.mem_of_getElem? (i := 43) rfl) rfl
theorem tb764 : Cond.methodLinkNest "AspenLine$Sheet" 32 ⟨"AspenLine", "within", "(III)Z"⟩ "AspenLine" ∈ TB := tb_4 (List.mem_of_getElem? (i := 44) rfl) rfl
theorem tb765 : Cond.methodLink "AspenLine" 291 ⟨"AspenLine$Sheet", "put", "(II)V"⟩ ∈ TB := tb_4 (List.mem_of_getElem? (i := 45) rfl) rfl
theorem tb766 : Cond.instanceMethod ⟨"AspenLine$Sheet", "put", "(II)V"⟩ ∈ TB := tb_4 (List.mem_of_getElem? (i := 46) rfl) rfl
theorem tb767 : Cond.selects "AspenLine$Sheet" ⟨"AspenLine$Sheet", "put", "(II)V"⟩ ⟨"AspenLine$Sheet", "put", "(II)V"⟩ ∈ TB := tb_4 (List.mem_of_getElem? (i := 47) rfl) rfl
theorem tb768 : Cond.code ⟨"AspenLine$Sheet", "put", "(II)V"⟩ prog_5_method_6_code 3 none ∈ TB := tb_4 (List.mem_of_getElem? (i := 48) rfl) rfl
theorem tb769 : Cond.methodLink "AspenLineLaw" 189 ⟨"AspenLine", "read", "(IIII)I"⟩ ∈ TB := tb_4 (List.mem_of_getElem? (i := 49) rfl) rfl
theorem tb770 : Cond.instanceMethod ⟨"AspenLine", "read", "(IIII)I"⟩ ∈ TB := tb_4 (List.mem_of_getElem? (i := 50) rfl) rfl
theorem tb771 : Cond.selects "AspenLine" ⟨"AspenLine", "read", "(IIII)I"⟩ ⟨"AspenLine", "read", "(IIII)I"⟩ ∈ TB := tb_4 (List.mem_of_getElem? (i := 51) rfl) rfl
theorem tb772 : Cond.code ⟨"AspenLine", "read", "(IIII)I"⟩ prog_1_method_45_code 10 (some (FieldType.int)) ∈ TB := tb_4 (List.mem_of_getElem? (i := 52) rfl) rfl
theorem tb773 : Cond.methodLink "AspenLine" 294 ⟨"AspenLine$Sheet", "faultOfReading", "(II)I"⟩ ∈ TB := tb_4 (List.mem_of_getElem? (i := 53) rfl) rfl
theorem tb774 : Cond.instanceMethod ⟨"AspenLine$Sheet", "faultOfReading", "(II)I"⟩ ∈ TB := tb_4 (List.mem_of_getElem? (i := 54) rfl) rfl
theorem tb775 : Cond.selects "AspenLine$Sheet" ⟨"AspenLine$Sheet", "faultOfReading", "(II)I"⟩ ⟨"AspenLine$Sheet", "faultOfReading", "(II)I"⟩ ∈ TB := tb_4 (List.mem_of_getElem? (i := 55) rfl) rfl
theorem tb776 : Cond.code ⟨"AspenLine$Sheet", "faultOfReading", "(II)I"⟩ prog_5_method_5_code 3 (some (FieldType.int)) ∈ TB := tb_4 (List.mem_of_getElem? (i := 56) rfl) rfl
theorem tb777 : Cond.methodLink "AspenLine$Sheet" 36 ⟨"AspenLine$Sheet", "faultOfCells", "(II)I"⟩ ∈ TB := tb_4 (List.mem_of_getElem? (i := 57) rfl) rfl
theorem tb778 : Cond.methodLink "AspenLine" 300 ⟨"AspenLine", "book", "(III)I"⟩ ∈ TB := tb_4 (List.mem_of_getElem? (i := 58) rfl) rfl
theorem tb779 : Cond.methodLink "AspenLineLaw" 193 ⟨"AspenLine", "torn", "()I"⟩ ∈ TB := tb_4 (List.mem_of_getElem? (i := 59) rfl) rfl
theorem tb780 : Cond.instanceMethod ⟨"AspenLine", "torn", "()I"⟩ ∈ TB := tb_4 (List.mem_of_getElem? (i := 60) rfl) rfl
theorem tb781 : Cond.selects "AspenLine" ⟨"AspenLine", "torn", "()I"⟩ ⟨"AspenLine", "torn", "()I"⟩ ∈ TB := tb_4 (List.mem_of_getElem? (i := 61) rfl) rfl
theorem tb782 : Cond.code ⟨"AspenLine", "torn", "()I"⟩ prog_1_method_46_code 1 (some (FieldType.int)) ∈ TB := tb_4 (List.mem_of_getElem? (i := 62) rfl) rfl
theorem tb783 : Cond.methodLink "AspenLineLaw" 197 ⟨"AspenLine", "count", "(I)I"⟩ ∈ TB := tb_4 (List.mem_of_getElem? (i := 63) rfl) rfl
theorem tb784 : Cond.instanceMethod ⟨"AspenLine", "count", "(I)I"⟩ ∈ TB := tb_4 (List.mem_of_getElem? (i := 64) rfl) rfl
theorem tb785 : Cond.selects "AspenLine" ⟨"AspenLine", "count", "(I)I"⟩ ⟨"AspenLine", "count", "(I)I"⟩ ∈ TB := tb_4 (List.mem_of_getElem? (i := 65) rfl) rfl
theorem tb786 : Cond.code ⟨"AspenLine", "count", "(I)I"⟩ prog_1_method_47_code 2 (some (FieldType.int)) ∈ TB := tb_4 (List.mem_of_getElem? (i := 66) rfl) rfl
theorem tb787 : Cond.methodLink "AspenLine" 306 ⟨"AspenLine$Sheet", "isNothing", "()Z"⟩ ∈ TB := tb_4 (List.mem_of_getElem? (i := 67) rfl) rfl
theorem tb788 : Cond.methodLink "AspenLine" 310 ⟨"AspenLine", "sumOfFirst", "(I[I)I"⟩ ∈ TB := tb_4 (List.mem_of_getElem? (i := 68) rfl) rfl
theorem tb789 : Cond.static ⟨"AspenLine", "sumOfFirst", "(I[I)I"⟩ ∈ TB := tb_4 (List.mem_of_getElem? (i := 69) rfl) rfl
theorem tb790 : Cond.code ⟨"AspenLine", "sumOfFirst", "(I[I)I"⟩ prog_1_method_58_code 4 (some (FieldType.int)) ∈ TB := tb_4 (List.mem_of_getElem? (i := 70) rfl) rfl
theorem tb791 : Cond.classLink "AspenLineLaw" 10 "AspenLineModel" ∈ TB := tb_4 (List.mem_of_getElem? (i := 71) rfl) rfl
theorem tb792 : Cond.instantiable "AspenLineModel" 27 ∈ TB := tb_4 (List.mem_of_getElem? (i := 72) rfl) rfl
theorem tb793 : Cond.methodLink "AspenLineLaw" 12 ⟨"AspenLineModel", "<init>", "()V"⟩ ∈ TB := tb_4 (List.mem_of_getElem? (i := 73) rfl) rfl
theorem tb794 : Cond.instanceMethod ⟨"AspenLineModel", "<init>", "()V"⟩ ∈ TB := tb_4 (List.mem_of_getElem? (i := 74) rfl) rfl
theorem tb795 : Cond.code ⟨"AspenLineModel", "<init>", "()V"⟩ prog_9_method_1_code 1 none ∈ TB := tb_4 (List.mem_of_getElem? (i := 75) rfl) rfl
theorem tb796 : Cond.methodLink "AspenLineModel" 1 ⟨"java/lang/Object", "<init>", "()V"⟩ ∈ TB := tb_4 (List.mem_of_getElem? (i := 76) rfl) rfl
theorem tb797 : Cond.fieldLink "AspenLineModel" 7 "AspenLineModel" "state" "[I" ∈ TB := tb_4 (List.mem_of_getElem? (i := 77) rfl) rfl
theorem tb798 : Cond.fieldLink "AspenLineModel" 136 "AspenLineModel" "treeMany" "I" ∈ TB := tb_4 (List.mem_of_getElem? (i := 78) rfl) rfl
theorem tb799 : Cond.fieldLink "AspenLineModel" 13 "AspenLineModel" "readPage" "[I" ∈ TB := tb_4 (List.mem_of_getElem? (i := 79) rfl) rfl
theorem tb800 : Cond.fieldLink "AspenLineModel" 108 "AspenLineModel" "readTrees" "I" ∈ TB := tb_4 (List.mem_of_getElem? (i := 80) rfl) rfl
theorem tb801 : Cond.fieldLink "AspenLineModel" 123 "AspenLineModel" "isWindTold" "Z" ∈ TB := tb_4 (List.mem_of_getElem? (i := 81) rfl) rfl
theorem tb802 : Cond.fieldLink "AspenLineModel" 101 "AspenLineModel" "high" "I" ∈ TB := tb_4 (List.mem_of_getElem? (i := 82) rfl) rfl
theorem tb803 : Cond.fieldLink "AspenLineModel" 16 "AspenLineModel" "tape" "[I" ∈ TB := tb_4 (List.mem_of_getElem? (i := 83) rfl) rfl
theorem tb804 : Cond.fieldLink "AspenLineModel" 56 "AspenLineModel" "taped" "I" ∈ TB := tb_4 (List.mem_of_getElem? (i := 84) rfl) rfl
theorem tb805 : Cond.fieldLink "AspenLineModel" 133 "AspenLineModel" "fault" "I" ∈ TB := tb_4 (List.mem_of_getElem? (i := 85) rfl) rfl
theorem tb806 : Cond.fieldLink "AspenLineModel" 60 "AspenLineModel" "broken" "I" ∈ TB := tb_4 (List.mem_of_getElem? (i := 86) rfl) rfl
theorem tb807 : Cond.fieldLink "AspenLineModel" 66 "AspenLineModel" "brokenAt" "I" ∈ TB := tb_4 (List.mem_of_getElem? (i := 87) rfl) rfl
theorem tb808 : Cond.fieldLink "AspenLineModel" 72 "AspenLineModel" "spot" "I" ∈ TB := tb_4 (List.mem_of_getElem? (i := 88) rfl) rfl
theorem tb809 : Cond.fieldLink "AspenLineModel" 63 "AspenLineModel" "here" "I" ∈ TB := tb_4 (List.mem_of_getElem? (i := 89) rfl) rfl
theorem tb810 : Cond.fieldLink "AspenLineModel" 69 "AspenLineModel" "token" "I" ∈ TB := tb_4 (List.mem_of_getElem? (i := 90) rfl) rfl
theorem tb811 : Cond.fieldLink "AspenLineModel" 79 "AspenLineModel" "value" "I" ∈ TB := tb_4 (List.mem_of_getElem? (i := 91) rfl) rfl
theorem tb812 : Cond.fieldLink "AspenLineModel" 19 "AspenLineModel" "ends" "[I" ∈ TB := tb_4 (List.mem_of_getElem? (i := 92) rfl) rfl
theorem tb813 : Cond.fieldLink "AspenLineModel" 22 "AspenLineModel" "letters" "[I" ∈ TB := tb_4 (List.mem_of_getElem? (i := 93) rfl) rfl
theorem tb814 : Cond.fieldLink "AspenLineModel" 25 "AspenLineModel" "ways" "[I" ∈ TB := tb_4 (List.mem_of_getElem? (i := 94) rfl) rfl
theorem tb815 : Cond.fieldLink "AspenLineModel" 28 "AspenLineModel" "heard" "[I" ∈ TB := tb_4 (List.mem_of_getElem? (i := 95) rfl) rfl
theorem tb816 : Cond.fieldLink "AspenLineModel" 31 "AspenLineModel" "seen" "[I" ∈ TB := tb_4 (List.mem_of_getElem? (i := 96) rfl) rfl
theorem tb817 : Cond.fieldLink "AspenLineModel" 139 "AspenLineModel" "seenMany" "I" ∈ TB := tb_4 (List.mem_of_getElem? (i := 97) rfl) rfl
theorem tb818 : Cond.fieldLink "AspenLineModel" 34 "AspenLineModel" "byLoud" "[I" ∈ TB := tb_4 (List.mem_of_getElem? (i := 98) rfl) rfl
theorem tb819 : Cond.fieldLink "AspenLineModel" 37 "AspenLineModel" "isKept" "[Z" ∈ TB := tb_4 (List.mem_of_getElem? (i := 99) rfl) rfl
theorem tb820 : Cond.fieldLink "AspenLineModel" 41 "AspenLineModel" "lanes" "[I" ∈ TB := tb_4 (List.mem_of_getElem? (i := 100) rfl) rfl
theorem tb821 : Cond.fieldLink "AspenLineModel" 44 "AspenLineModel" "lengths" "[I" ∈ TB := tb_4 (List.mem_of_getElem? (i := 101) rfl) rfl
theorem tb822 : Cond.fieldLink "AspenLineModel" 47 "AspenLineModel" "cells" "[I" ∈ TB := tb_4 (List.mem_of_getElem? (i := 102) rfl) rfl
theorem tb823 : Cond.fieldLink "AspenLineModel" 239 "AspenLineModel" "torn" "I" ∈ TB := tb_4 (List.mem_of_getElem? (i := 103) rfl) rfl
theorem tb824 : Cond.laysFinal "AspenLineModel" "AspenLineModel" "state" "[I" ∈ TB := tb_4 (List.mem_of_getElem? (i := 104) rfl) rfl
theorem tb826 : Cond.lays "AspenLineModel" "AspenLineModel" "treeMany" "I" ∈ TB := tb_4 (List.mem_of_getElem? (i := 106) rfl) rfl
theorem tb828 : Cond.laysFinal "AspenLineModel" "AspenLineModel" "readPage" "[I" ∈ TB := tb_4 (List.mem_of_getElem? (i := 108) rfl) rfl
theorem tb830 : Cond.lays "AspenLineModel" "AspenLineModel" "readTrees" "I" ∈ TB := tb_4 (List.mem_of_getElem? (i := 110) rfl) rfl
theorem tb832 : Cond.lays "AspenLineModel" "AspenLineModel" "isWindTold" "Z" ∈ TB := tb_4 (List.mem_of_getElem? (i := 112) rfl) rfl
theorem tb834 : Cond.lays "AspenLineModel" "AspenLineModel" "high" "I" ∈ TB := tb_4 (List.mem_of_getElem? (i := 114) rfl) rfl
theorem tb836 : Cond.laysFinal "AspenLineModel" "AspenLineModel" "tape" "[I" ∈ TB := tb_4 (List.mem_of_getElem? (i := 116) rfl) rfl
theorem tb838 : Cond.lays "AspenLineModel" "AspenLineModel" "taped" "I" ∈ TB := tb_4 (List.mem_of_getElem? (i := 118) rfl) rfl
theorem tb840 : Cond.lays "AspenLineModel" "AspenLineModel" "fault" "I" ∈ TB := tb_4 (List.mem_of_getElem? (i := 120) rfl) rfl
theorem tb842 : Cond.lays "AspenLineModel" "AspenLineModel" "broken" "I" ∈ TB := tb_4 (List.mem_of_getElem? (i := 122) rfl) rfl
theorem tb844 : Cond.lays "AspenLineModel" "AspenLineModel" "brokenAt" "I" ∈ TB := tb_4 (List.mem_of_getElem? (i := 124) rfl) rfl
theorem tb846 : Cond.lays "AspenLineModel" "AspenLineModel" "spot" "I" ∈ TB := tb_4 (List.mem_of_getElem? (i := 126) rfl) rfl
theorem tb848 : Cond.lays "AspenLineModel" "AspenLineModel" "here" "I" ∈ TB := tb_4 (List.mem_of_getElem? (i := 128) rfl) rfl
theorem tb850 : Cond.lays "AspenLineModel" "AspenLineModel" "token" "I" ∈ TB := tb_4 (List.mem_of_getElem? (i := 130) rfl) rfl
theorem tb852 : Cond.lays "AspenLineModel" "AspenLineModel" "value" "I" ∈ TB := tb_4 (List.mem_of_getElem? (i := 132) rfl) rfl
theorem tb854 : Cond.laysFinal "AspenLineModel" "AspenLineModel" "ends" "[I" ∈ TB := tb_4 (List.mem_of_getElem? (i := 134) rfl) rfl
theorem tb856 : Cond.laysFinal "AspenLineModel" "AspenLineModel" "letters" "[I" ∈ TB := tb_4 (List.mem_of_getElem? (i := 136) rfl) rfl
theorem tb858 : Cond.laysFinal "AspenLineModel" "AspenLineModel" "ways" "[I" ∈ TB := tb_4 (List.mem_of_getElem? (i := 138) rfl) rfl
theorem tb860 : Cond.laysFinal "AspenLineModel" "AspenLineModel" "heard" "[I" ∈ TB := tb_4 (List.mem_of_getElem? (i := 140) rfl) rfl
theorem tb862 : Cond.laysFinal "AspenLineModel" "AspenLineModel" "seen" "[I" ∈ TB := tb_4 (List.mem_of_getElem? (i := 142) rfl) rfl
theorem tb864 : Cond.lays "AspenLineModel" "AspenLineModel" "seenMany" "I" ∈ TB := tb_4 (List.mem_of_getElem? (i := 144) rfl) rfl
theorem tb866 : Cond.laysFinal "AspenLineModel" "AspenLineModel" "byLoud" "[I" ∈ TB := tb_4 (List.mem_of_getElem? (i := 146) rfl) rfl
theorem tb868 : Cond.laysFinal "AspenLineModel" "AspenLineModel" "isKept" "[Z" ∈ TB := tb_4 (List.mem_of_getElem? (i := 148) rfl) rfl
theorem tb870 : Cond.laysFinal "AspenLineModel" "AspenLineModel" "lanes" "[I" ∈ TB := tb_4 (List.mem_of_getElem? (i := 150) rfl) rfl
theorem tb872 : Cond.laysFinal "AspenLineModel" "AspenLineModel" "lengths" "[I" ∈ TB := tb_4 (List.mem_of_getElem? (i := 152) rfl) rfl
theorem tb874 : Cond.laysFinal "AspenLineModel" "AspenLineModel" "cells" "[I" ∈ TB := tb_4 (List.mem_of_getElem? (i := 154) rfl) rfl
theorem tb876 : Cond.lays "AspenLineModel" "AspenLineModel" "torn" "I" ∈ TB := tb_4 (List.mem_of_getElem? (i := 156) rfl) rfl
theorem tb879 : Cond.arrayClass Jvm.ClassFile.FieldType.boolean ∈ TB := tb_4 (List.mem_of_getElem? (i := 159) rfl) rfl
theorem tb880 : Cond.methodLink "AspenLineLaw" 17 ⟨"AspenLineModel", "feed", "(I)I"⟩ ∈ TB := tb_4 (List.mem_of_getElem? (i := 160) rfl) rfl
theorem tb881 : Cond.instanceMethod ⟨"AspenLineModel", "feed", "(I)I"⟩ ∈ TB := tb_4 (List.mem_of_getElem? (i := 161) rfl) rfl
theorem tb882 : Cond.selects "AspenLineModel" ⟨"AspenLineModel", "feed", "(I)I"⟩ ⟨"AspenLineModel", "feed", "(I)I"⟩ ∈ TB := tb_4 (List.mem_of_getElem? (i := 162) rfl) rfl
theorem tb883 : Cond.code ⟨"AspenLineModel", "feed", "(I)I"⟩ prog_9_method_4_code 2 (some (FieldType.int)) ∈ TB := tb_4 (List.mem_of_getElem? (i := 163) rfl) rfl
theorem tb884 : Cond.constantLong "AspenLineModel" 50 (127 : Int64) ∈ TB := tb_4 (List.mem_of_getElem? (i := 164) rfl) rfl
theorem tb885 : Cond.methodLink "AspenLineModel" 52 ⟨"AspenLineModel", "in", "(JJJ)Z"⟩ ∈ TB := tb_4 (List.mem_of_getElem? (i := 165) rfl) rfl
theorem tb886 : Cond.static ⟨"AspenLineModel", "in", "(JJJ)Z"⟩ ∈ TB := tb_4 (List.mem_of_getElem? (i := 166) rfl) rfl
theorem tb887 : Cond.code ⟨"AspenLineModel", "in", "(JJJ)Z"⟩ prog_9_method_3_code 6 (some (FieldType.boolean)) ∈ TB := tb_4 (List.mem_of_getElem? (i := 167) rfl) rfl
theorem tb888 : Cond.methodLink "AspenLineLaw" 21 ⟨"AspenLineModel", "end", "(I)I"⟩ ∈ TB := tb_4 (List.mem_of_getElem? (i := 168) rfl) rfl
theorem tb889 : Cond.instanceMethod ⟨"AspenLineModel", "end", "(I)I"⟩ ∈ TB := tb_4 (List.mem_of_getElem? (i := 169) rfl) rfl
theorem tb890 : Cond.selects "AspenLineModel" ⟨"AspenLineModel", "end", "(I)I"⟩ ⟨"AspenLineModel", "end", "(I)I"⟩ ∈ TB := tb_4 (List.mem_of_getElem? (i := 170) rfl) rfl
theorem tb891 : Cond.code ⟨"AspenLineModel", "end", "(I)I"⟩ prog_9_method_5_code 3 (some (FieldType.int)) ∈ TB := tb_4 (List.mem_of_getElem? (i := 171) rfl) rfl
theorem tb892 : Cond.methodLink "AspenLineLaw" 26 ⟨"AspenLineModel", "text", "()I"⟩ ∈ TB := tb_4 (List.mem_of_getElem? (i := 172) rfl) rfl
theorem tb893 : Cond.instanceMethod ⟨"AspenLineModel", "text", "()I"⟩ ∈ TB := tb_4 (List.mem_of_getElem? (i := 173) rfl) rfl
theorem tb894 : Cond.selects "AspenLineModel" ⟨"AspenLineModel", "text", "()I"⟩ ⟨"AspenLineModel", "text", "()I"⟩ ∈ TB := tb_4 (List.mem_of_getElem? (i := 174) rfl) rfl
theorem tb895 : Cond.code ⟨"AspenLineModel", "text", "()I"⟩ prog_9_method_16_code 3 (some (FieldType.int)) ∈ TB := tb_4 (List.mem_of_getElem? (i := 175) rfl) rfl
theorem tb896 : Cond.methodLink "AspenLineModel" 94 ⟨"AspenLineModel", "step", "()V"⟩ ∈ TB := tb_4 (List.mem_of_getElem? (i := 176) rfl) rfl
theorem tb898 : Cond.instanceMethod ⟨"AspenLineModel", "step", "()V"⟩ ∈ TB := tb_4 (List.mem_of_getElem? (i := 178) rfl) rfl
theorem tb899 : Cond.code ⟨"AspenLineModel", "step", "()V"⟩ prog_9_method_9_code 2 none ∈ TB := tb_4 (List.mem_of_getElem? (i := 179) rfl) rfl
theorem tb900 : Cond.methodLink "AspenLineModel" 75 ⟨"AspenLineModel", "byteAt", "(I)I"⟩ ∈ TB := tb_4 (List.mem_of_getElem? (i := 180) rfl) rfl
theorem tb902 : Cond.instanceMethod ⟨"AspenLineModel", "byteAt", "(I)I"⟩ ∈ TB := tb_4 (List.mem_of_getElem? (i := 182) rfl) rfl
theorem tb903 : Cond.code ⟨"AspenLineModel", "byteAt", "(I)I"⟩ prog_9_method_6_code 2 (some (FieldType.int)) ∈ TB := tb_4 (List.mem_of_getElem? (i := 183) rfl) rfl
theorem tb904 : Cond.constantLong "AspenLineModel" 82 (97 : Int64) ∈ TB := tb_4 (List.mem_of_getElem? (i := 184) rfl) rfl
theorem tb905 : Cond.constantLong "AspenLineModel" 84 (122 : Int64) ∈ TB := tb_4 (List.mem_of_getElem? (i := 185) rfl) rfl
theorem tb906 : Cond.constantLong "AspenLineModel" 86 (48 : Int64) ∈ TB := tb_4 (List.mem_of_getElem? (i := 186) rfl) rfl
theorem tb907 : Cond.constantLong "AspenLineModel" 88 (57 : Int64) ∈ TB := tb_4 (List.mem_of_getElem? (i := 187) rfl) rfl
theorem tb908 : Cond.methodLink "AspenLineModel" 90 ⟨"AspenLineModel", "fails", "(I)V"⟩ ∈ TB := tb_4 (List.mem_of_getElem? (i := 188) rfl) rfl
theorem tb910 : Cond.instanceMethod ⟨"AspenLineModel", "fails", "(I)V"⟩ ∈ TB := tb_4 (List.mem_of_getElem? (i := 190) rfl) rfl
theorem tb911 : Cond.code ⟨"AspenLineModel", "fails", "(I)V"⟩ prog_9_method_7_code 2 none ∈ TB := tb_4 (List.mem_of_getElem? (i := 191) rfl) rfl
theorem tb912 : Cond.methodLink "AspenLineModel" 130 ⟨"AspenLineModel", "readLine", "()V"⟩ ∈ TB := tb_4 (List.mem_of_getElem? (i := 192) rfl) rfl
theorem tb914 : Cond.instanceMethod ⟨"AspenLineModel", "readLine", "()V"⟩ ∈ TB := tb_4 (List.mem_of_getElem? (i := 194) rfl) rfl
theorem tb915 : Cond.code ⟨"AspenLineModel", "readLine", "()V"⟩ prog_9_method_15_code 2 none ∈ TB := tb_4 (List.mem_of_getElem? (i := 195) rfl) rfl
theorem tb916 : Cond.methodLink "AspenLineModel" 114 ⟨"AspenLineModel", "nameHere", "()I"⟩ ∈ TB := tb_4 (List.mem_of_getElem? (i := 196) rfl) rfl
theorem tb918 : Cond.instanceMethod ⟨"AspenLineModel", "nameHere", "()I"⟩ ∈ TB := tb_4 (List.mem_of_getElem? (i := 198) rfl) rfl
theorem tb919 : Cond.code ⟨"AspenLineModel", "nameHere", "()I"⟩ prog_9_method_8_code 4 (some (FieldType.int)) ∈ TB := tb_4 (List.mem_of_getElem? (i := 199) rfl) rfl
theorem tb920 : Cond.constantLong "AspenLineModel" 117 (6 : Int64) ∈ TB := tb_4 (List.mem_of_getElem? (i := 200) rfl) rfl
theorem tb921 : Cond.methodLink "AspenLineModel" 119 ⟨"AspenLineModel", "isFull", "(I)Z"⟩ ∈ TB := tb_4 (List.mem_of_getElem? (i := 201) rfl) rfl
theorem tb923 : Cond.instanceMethod ⟨"AspenLineModel", "isFull", "(I)Z"⟩ ∈ TB := tb_4 (List.mem_of_getElem? (i := 203) rfl) rfl
theorem tb924 : Cond.code ⟨"AspenLineModel", "isFull", "(I)Z"⟩ prog_9_method_14_code 2 (some (FieldType.boolean)) ∈ TB := tb_4 (List.mem_of_getElem? (i := 204) rfl) rfl
theorem tb925 : Cond.methodLink "AspenLineModel" 127 ⟨"AspenLineModel", "readMore", "(I)V"⟩ ∈ TB := tb_4 (List.mem_of_getElem? (i := 205) rfl) rfl
theorem tb927 : Cond.instanceMethod ⟨"AspenLineModel", "readMore", "(I)V"⟩ ∈ TB := tb_4 (List.mem_of_getElem? (i := 207) rfl) rfl
theorem tb928 : Cond.code ⟨"AspenLineModel", "readMore", "(I)V"⟩ prog_9_method_13_code 3 none ∈ TB := tb_4 (List.mem_of_getElem? (i := 208) rfl) rfl
theorem tb929 : Cond.methodLink "AspenLineModel" 111 ⟨"AspenLineModel", "readRoot", "()V"⟩ ∈ TB := tb_4 (List.mem_of_getElem? (i := 209) rfl) rfl
theorem tb931 : Cond.instanceMethod ⟨"AspenLineModel", "readRoot", "()V"⟩ ∈ TB := tb_4 (List.mem_of_getElem? (i := 211) rfl) rfl
theorem tb932 : Cond.code ⟨"AspenLineModel", "readRoot", "()V"⟩ prog_9_method_12_code 3 none ∈ TB := tb_4 (List.mem_of_getElem? (i := 212) rfl) rfl
theorem tb933 : Cond.methodLink "AspenLineModel" 104 ⟨"AspenLineModel", "treeHere", "()I"⟩ ∈ TB := tb_4 (List.mem_of_getElem? (i := 213) rfl) rfl
theorem tb935 : Cond.instanceMethod ⟨"AspenLineModel", "treeHere", "()I"⟩ ∈ TB := tb_4 (List.mem_of_getElem? (i := 215) rfl) rfl
theorem tb936 : Cond.code ⟨"AspenLineModel", "treeHere", "()I"⟩ prog_9_method_11_code 2 (some (FieldType.int)) ∈ TB := tb_4 (List.mem_of_getElem? (i := 216) rfl) rfl
theorem tb937 : Cond.methodLink "AspenLineModel" 97 ⟨"AspenLineModel", "number", "(II)I"⟩ ∈ TB := tb_4 (List.mem_of_getElem? (i := 217) rfl) rfl
theorem tb939 : Cond.instanceMethod ⟨"AspenLineModel", "number", "(II)I"⟩ ∈ TB := tb_4 (List.mem_of_getElem? (i := 219) rfl) rfl
theorem tb940 : Cond.code ⟨"AspenLineModel", "number", "(II)I"⟩ prog_9_method_10_code 4 (some (FieldType.int)) ∈ TB := tb_4 (List.mem_of_getElem? (i := 220) rfl) rfl
theorem tb941 : Cond.methodLink "AspenLineLaw" 30 ⟨"AspenLineModel", "fault", "()I"⟩ ∈ TB := tb_4 (List.mem_of_getElem? (i := 221) rfl) rfl
theorem tb942 : Cond.instanceMethod ⟨"AspenLineModel", "fault", "()I"⟩ ∈ TB := tb_4 (List.mem_of_getElem? (i := 222) rfl) rfl
theorem tb943 : Cond.selects "AspenLineModel" ⟨"AspenLineModel", "fault", "()I"⟩ ⟨"AspenLineModel", "fault", "()I"⟩ ∈ TB := tb_4 (List.mem_of_getElem? (i := 223) rfl) rfl
theorem tb944 : Cond.code ⟨"AspenLineModel", "fault", "()I"⟩ prog_9_method_17_code 1 (some (FieldType.int)) ∈ TB := tb_4 (List.mem_of_getElem? (i := 224) rfl) rfl
theorem tb945 : Cond.methodLink "AspenLineLaw" 34 ⟨"AspenLineModel", "rule", "(I)I"⟩ ∈ TB := tb_4 (List.mem_of_getElem? (i := 225) rfl) rfl
theorem tb946 : Cond.instanceMethod ⟨"AspenLineModel", "rule", "(I)I"⟩ ∈ TB := tb_4 (List.mem_of_getElem? (i := 226) rfl) rfl
theorem tb947 : Cond.selects "AspenLineModel" ⟨"AspenLineModel", "rule", "(I)I"⟩ ⟨"AspenLineModel", "rule", "(I)I"⟩ ∈ TB := tb_4 (List.mem_of_getElem? (i := 227) rfl) rfl
theorem tb948 : Cond.code ⟨"AspenLineModel", "rule", "(I)I"⟩ prog_9_method_30_code 4 (some (FieldType.int)) ∈ TB := tb_4 (List.mem_of_getElem? (i := 228) rfl) rfl
theorem tb949 : Cond.methodLink "AspenLineModel" 164 ⟨"AspenLineModel", "crossedOn", "(I)I"⟩ ∈ TB := tb_4 (List.mem_of_getElem? (i := 229) rfl) rfl
theorem tb951 : Cond.instanceMethod ⟨"AspenLineModel", "crossedOn", "(I)I"⟩ ∈ TB := tb_4 (List.mem_of_getElem? (i := 231) rfl) rfl
theorem tb952 : Cond.code ⟨"AspenLineModel", "crossedOn", "(I)I"⟩ prog_9_method_29_code 5 (some (FieldType.int)) ∈ TB := tb_4 (List.mem_of_getElem? (i := 232) rfl) rfl
theorem tb953 : Cond.methodLink "AspenLineModel" 161 ⟨"AspenLineModel", "talksOn", "(I)I"⟩ ∈ TB := tb_4 (List.mem_of_getElem? (i := 233) rfl) rfl
theorem tb955 : Cond.instanceMethod ⟨"AspenLineModel", "talksOn", "(I)I"⟩ ∈ TB := tb_4 (List.mem_of_getElem? (i := 235) rfl) rfl
theorem tb956 : Cond.code ⟨"AspenLineModel", "talksOn", "(I)I"⟩ prog_9_method_28_code 4 (some (FieldType.int)) ∈ TB := tb_4 (List.mem_of_getElem? (i := 236) rfl) rfl
theorem tb957 : Cond.methodLink "AspenLineModel" 155 ⟨"AspenLineModel", "hearsOn", "(III)I"⟩ ∈ TB := tb_4 (List.mem_of_getElem? (i := 237) rfl) rfl
theorem tb959 : Cond.instanceMethod ⟨"AspenLineModel", "hearsOn", "(III)I"⟩ ∈ TB := tb_4 (List.mem_of_getElem? (i := 239) rfl) rfl
theorem tb960 : Cond.code ⟨"AspenLineModel", "hearsOn", "(III)I"⟩ prog_9_method_26_code 4 (some (FieldType.int)) ∈ TB := tb_5 (List.mem_of_getElem? (i := 0) rfl) rfl
theorem tb961 : Cond.methodLink "AspenLineModel" 148 ⟨"AspenLineModel", "waysOn", "(II)V"⟩ ∈ TB := tb_5 (List.mem_of_getElem? (i := 1) rfl) rfl
theorem tb963 : Cond.instanceMethod ⟨"AspenLineModel", "waysOn", "(II)V"⟩ ∈ TB := tb_5 (List.mem_of_getElem? (i := 3) rfl) rfl
theorem tb964 : Cond.code ⟨"AspenLineModel", "waysOn", "(II)V"⟩ prog_9_method_23_code 9 none ∈ TB := tb_5 (List.mem_of_getElem? (i := 4) rfl) rfl
theorem tb965 : Cond.methodLink "AspenLineModel" 152 ⟨"AspenLineModel", "hearersOn", "(II)I"⟩ ∈ TB := tb_5 (List.mem_of_getElem? (i := 5) rfl) rfl
theorem tb967 : Cond.instanceMethod ⟨"AspenLineModel", "hearersOn", "(II)I"⟩ ∈ TB := tb_5 (List.mem_of_getElem? (i := 7) rfl) rfl
theorem tb968 : Cond.code ⟨"AspenLineModel", "hearersOn", "(II)I"⟩ prog_9_method_25_code 5 (some (FieldType.int)) ∈ TB := tb_5 (List.mem_of_getElem? (i := 8) rfl) rfl
theorem tb969 : Cond.methodLink "AspenLineModel" 144 ⟨"AspenLineModel", "loudOn", "(III)I"⟩ ∈ TB := tb_5 (List.mem_of_getElem? (i := 9) rfl) rfl
theorem tb971 : Cond.instanceMethod ⟨"AspenLineModel", "loudOn", "(III)I"⟩ ∈ TB := tb_5 (List.mem_of_getElem? (i := 11) rfl) rfl
theorem tb972 : Cond.code ⟨"AspenLineModel", "loudOn", "(III)I"⟩ prog_9_method_24_code 6 (some (FieldType.int)) ∈ TB := tb_5 (List.mem_of_getElem? (i := 12) rfl) rfl
theorem tb973 : Cond.methodLink "AspenLineModel" 158 ⟨"AspenLineModel", "bitsOf", "(I)I"⟩ ∈ TB := tb_5 (List.mem_of_getElem? (i := 13) rfl) rfl
theorem tb974 : Cond.static ⟨"AspenLineModel", "bitsOf", "(I)I"⟩ ∈ TB := tb_5 (List.mem_of_getElem? (i := 14) rfl) rfl
theorem tb975 : Cond.code ⟨"AspenLineModel", "bitsOf", "(I)I"⟩ prog_9_method_27_code 3 (some (FieldType.int)) ∈ TB := tb_5 (List.mem_of_getElem? (i := 15) rfl) rfl
theorem tb976 : Cond.methodLink "AspenLineLaw" 39 ⟨"AspenLineModel", "tree", "(II)I"⟩ ∈ TB := tb_5 (List.mem_of_getElem? (i := 16) rfl) rfl
theorem tb977 : Cond.instanceMethod ⟨"AspenLineModel", "tree", "(II)I"⟩ ∈ TB := tb_5 (List.mem_of_getElem? (i := 17) rfl) rfl
theorem tb978 : Cond.selects "AspenLineModel" ⟨"AspenLineModel", "tree", "(II)I"⟩ ⟨"AspenLineModel", "tree", "(II)I"⟩ ∈ TB := tb_5 (List.mem_of_getElem? (i := 18) rfl) rfl
theorem tb979 : Cond.code ⟨"AspenLineModel", "tree", "(II)I"⟩ prog_9_method_31_code 7 (some (FieldType.int)) ∈ TB := tb_5 (List.mem_of_getElem? (i := 19) rfl) rfl
theorem tb980 : Cond.methodLink "AspenLineModel" 167 ⟨"AspenLineModel", "isTree", "(I)Z"⟩ ∈ TB := tb_5 (List.mem_of_getElem? (i := 20) rfl) rfl
theorem tb982 : Cond.instanceMethod ⟨"AspenLineModel", "isTree", "(I)Z"⟩ ∈ TB := tb_5 (List.mem_of_getElem? (i := 22) rfl) rfl
theorem tb983 : Cond.code ⟨"AspenLineModel", "isTree", "(I)Z"⟩ prog_9_method_18_code 2 (some (FieldType.boolean)) ∈ TB := tb_5 (List.mem_of_getElem? (i := 23) rfl) rfl
theorem tb984 : Cond.constantLong "AspenLineModel" 170 (3 : Int64) ∈ TB := tb_5 (List.mem_of_getElem? (i := 24) rfl) rfl
theorem tb985 : Cond.methodLink "AspenLineLaw" 43 ⟨"AspenLineModel", "root", "(II)I"⟩ ∈ TB := tb_5 (List.mem_of_getElem? (i := 25) rfl) rfl
theorem tb986 : Cond.instanceMethod ⟨"AspenLineModel", "root", "(II)I"⟩ ∈ TB := tb_5 (List.mem_of_getElem? (i := 26) rfl) rfl
theorem tb987 : Cond.selects "AspenLineModel" ⟨"AspenLineModel", "root", "(II)I"⟩ ⟨"AspenLineModel", "root", "(II)I"⟩ ∈ TB := tb_5 (List.mem_of_getElem? (i := 27) rfl) rfl
theorem tb988 : Cond.code ⟨"AspenLineModel", "root", "(II)I"⟩ prog_9_method_32_code 3 (some (FieldType.int)) ∈ TB := tb_5 (List.mem_of_getElem? (i := 28) rfl) rfl
theorem tb989 : Cond.methodLink "AspenLineModel" 172 ⟨"AspenLineModel", "isRoot", "(I)Z"⟩ ∈ TB := tb_5 (List.mem_of_getElem? (i := 29) rfl) rfl
theorem tb991 : Cond.instanceMethod ⟨"AspenLineModel", "isRoot", "(I)Z"⟩ ∈ TB := tb_5 (List.mem_of_getElem? (i := 31) rfl) rfl
theorem tb992 : Cond.code ⟨"AspenLineModel", "isRoot", "(I)Z"⟩ prog_9_method_19_code 2 (some (FieldType.boolean)) ∈ TB := tb_5 (List.mem_of_getElem? (i := 32) rfl) rfl
theorem tb993 : Cond.methodLink "AspenLineLaw" 47 ⟨"AspenLineModel", "talk", "(II)I"⟩ ∈ TB := tb_5 (List.mem_of_getElem? (i := 33) rfl) rfl
theorem tb994 : Cond.instanceMethod ⟨"AspenLineModel", "talk", "(II)I"⟩ ∈ TB := tb_5 (List.mem_of_getElem? (i := 34) rfl) rfl
theorem tb995 : Cond.selects "AspenLineModel" ⟨"AspenLineModel", "talk", "(II)I"⟩ ⟨"AspenLineModel", "talk", "(II)I"⟩ ∈ TB := tb_5 (List.mem_of_getElem? (i := 35) rfl) rfl
theorem tb996 : Cond.code ⟨"AspenLineModel", "talk", "(II)I"⟩ prog_9_method_33_code 3 (some (FieldType.int)) ∈ TB := tb_5 (List.mem_of_getElem? (i := 36) rfl) rfl
theorem tb997 : Cond.methodLink "AspenLineModel" 175 ⟨"AspenLineModel", "isTalk", "(I)Z"⟩ ∈ TB := tb_5 (List.mem_of_getElem? (i := 37) rfl) rfl
theorem tb999 : Cond.instanceMethod ⟨"AspenLineModel", "isTalk", "(I)Z"⟩ ∈ TB := tb_5 (List.mem_of_getElem? (i := 39) rfl) rfl
theorem tb1000 : Cond.code ⟨"AspenLineModel", "isTalk", "(I)Z"⟩ prog_9_method_20_code 2 (some (FieldType.boolean)) ∈ TB := tb_5 (List.mem_of_getElem? (i := 40) rfl) rfl
theorem tb1001 : Cond.methodLink "AspenLineLaw" 51 ⟨"AspenLineModel", "far", "(II)I"⟩ ∈ TB := tb_5 (List.mem_of_getElem? (i := 41) rfl) rfl
theorem tb1002 : Cond.instanceMethod ⟨"AspenLineModel", "far", "(II)I"⟩ ∈ TB := tb_5 (List.mem_of_getElem? (i := 42) rfl) rfl
theorem tb1003 : Cond.selects "AspenLineModel" ⟨"AspenLineModel", "far", "(II)I"⟩ ⟨"AspenLineModel", "far", "(II)I"⟩ ∈ TB := tb_5 (List.mem_of_getElem? (i := 43) rfl) rfl
theorem tb1004 : Cond.code ⟨"AspenLineModel", "far", "(II)I"⟩ prog_9_method_34_code 3 (some (FieldType.int)) ∈ TB := tb_5 (List.mem_of_getElem? (i := 44) rfl) rfl
theorem tb1005 : Cond.methodLink "AspenLineLaw" 56 ⟨"AspenLineModel", "loud", "(III)I"⟩ ∈ TB := tb_5 (List.mem_of_getElem? (i := 45) rfl) rfl
theorem tb1006 : Cond.instanceMethod ⟨"AspenLineModel", "loud", "(III)I"⟩ ∈ TB := tb_5 (List.mem_of_getElem? (i := 46) rfl) rfl
theorem tb1007 : Cond.selects "AspenLineModel" ⟨"AspenLineModel", "loud", "(III)I"⟩ ⟨"AspenLineModel", "loud", "(III)I"⟩ ∈ TB := tb_5 (List.mem_of_getElem? (i := 47) rfl) rfl
theorem tb1008 : Cond.code ⟨"AspenLineModel", "loud", "(III)I"⟩ prog_9_method_35_code 4 (some (FieldType.int)) ∈ TB := tb_5 (List.mem_of_getElem? (i := 48) rfl) rfl
theorem tb1009 : Cond.methodLink "AspenLineModel" 178 ⟨"AspenLineModel", "isBreath", "(I)Z"⟩ ∈ TB := tb_5 (List.mem_of_getElem? (i := 49) rfl) rfl
theorem tb1010 : Cond.static ⟨"AspenLineModel", "isBreath", "(I)Z"⟩ ∈ TB := tb_5 (List.mem_of_getElem? (i := 50) rfl) rfl
theorem tb1011 : Cond.code ⟨"AspenLineModel", "isBreath", "(I)Z"⟩ prog_9_method_21_code 1 (some (FieldType.boolean)) ∈ TB := tb_5 (List.mem_of_getElem? (i := 51) rfl) rfl
theorem tb1012 : Cond.constantLong "AspenLineModel" 142 (60 : Int64) ∈ TB := tb_5 (List.mem_of_getElem? (i := 52) rfl) rfl
theorem tb1013 : Cond.methodLink "AspenLineLaw" 60 ⟨"AspenLineModel", "graft", "(II)I"⟩ ∈ TB := tb_5 (List.mem_of_getElem? (i := 53) rfl) rfl
theorem tb1014 : Cond.instanceMethod ⟨"AspenLineModel", "graft", "(II)I"⟩ ∈ TB := tb_5 (List.mem_of_getElem? (i := 54) rfl) rfl
theorem tb1015 : Cond.selects "AspenLineModel" ⟨"AspenLineModel", "graft", "(II)I"⟩ ⟨"AspenLineModel", "graft", "(II)I"⟩ ∈ TB := tb_5 (List.mem_of_getElem? (i := 55) rfl) rfl
theorem tb1016 : Cond.code ⟨"AspenLineModel", "graft", "(II)I"⟩ prog_9_method_37_code 3 (some (FieldType.int)) ∈ TB := tb_5 (List.mem_of_getElem? (i := 56) rfl) rfl
theorem tb1017 : Cond.methodLink "AspenLineModel" 181 ⟨"AspenLineModel", "puts", "(ZII)I"⟩ ∈ TB := tb_5 (List.mem_of_getElem? (i := 57) rfl) rfl
theorem tb1019 : Cond.instanceMethod ⟨"AspenLineModel", "puts", "(ZII)I"⟩ ∈ TB := tb_5 (List.mem_of_getElem? (i := 59) rfl) rfl
theorem tb1020 : Cond.code ⟨"AspenLineModel", "puts", "(ZII)I"⟩ prog_9_method_36_code 5 (some (FieldType.int)) ∈ TB := tb_5 (List.mem_of_getElem? (i := 60) rfl) rfl
theorem tb1021 : Cond.methodLink "AspenLineLaw" 64 ⟨"AspenLineModel", "stretch", "(II)I"⟩ ∈ TB := tb_5 (List.mem_of_getElem? (i := 61) rfl) rfl
theorem tb1022 : Cond.instanceMethod ⟨"AspenLineModel", "stretch", "(II)I"⟩ ∈ TB := tb_5 (List.mem_of_getElem? (i := 62) rfl) rfl
theorem tb1023 : Cond.selects "AspenLineModel" ⟨"AspenLineModel", "stretch", "(II)I"⟩ ⟨"AspenLineModel", "stretch", "(II)I"⟩ ∈ TB := tb_5 (List.mem_of_getElem? (i := 63) rfl) rfl
theorem tb1024 : Cond.code ⟨"AspenLineModel", "stretch", "(II)I"⟩ prog_9_method_38_code 3 (some (FieldType.int)) ∈ TB := tb_5 (List.mem_of_getElem? (i := 64) rfl) rfl
theorem tb1025 : Cond.constantLong "AspenLineModel" 185 (9 : Int64) ∈ TB := tb_5 (List.mem_of_getElem? (i := 65) rfl) rfl
theorem tb1026 : Cond.methodLink "AspenLineLaw" 68 ⟨"AspenLineModel", "grow", "(III)I"⟩ ∈ TB := tb_5 (List.mem_of_getElem? (i := 66) rfl) rfl
theorem tb1027 : Cond.instanceMethod ⟨"AspenLineModel", "grow", "(III)I"⟩ ∈ TB := tb_5 (List.mem_of_getElem? (i := 67) rfl) rfl
theorem tb1028 : Cond.selects "AspenLineModel" ⟨"AspenLineModel", "grow", "(III)I"⟩ ⟨"AspenLineModel", "grow", "(III)I"⟩ ∈ TB := tb_5 (List.mem_of_getElem? (i := 68) rfl) rfl
theorem tb1029 : Cond.code ⟨"AspenLineModel", "grow", "(III)I"⟩ prog_9_method_40_code 4 (some (FieldType.int)) ∈ TB := tb_5 (List.mem_of_getElem? (i := 69) rfl) rfl
theorem tb1030 : Cond.methodLink "AspenLineModel" 187 ⟨"AspenLineModel", "growsOn", "(IIII)V"⟩ ∈ TB := tb_5 (List.mem_of_getElem? (i := 70) rfl) rfl
theorem tb1032 : Cond.instanceMethod ⟨"AspenLineModel", "growsOn", "(IIII)V"⟩ ∈ TB := tb_5 (List.mem_of_getElem? (i := 72) rfl) rfl
theorem tb1033 : Cond.code ⟨"AspenLineModel", "growsOn", "(IIII)V"⟩ prog_9_method_39_code 6 none ∈ TB := tb_5 (List.mem_of_getElem? (i := 73) rfl) rfl
theorem tb1034 : Cond.methodLink "AspenLineLaw" 73 ⟨"AspenLineModel", "cut", "(IZ)I"⟩ ∈ TB := tb_5 (List.mem_of_getElem? (i := 74) rfl) rfl
theorem tb1035 : Cond.instanceMethod ⟨"AspenLineModel", "cut", "(IZ)I"⟩ ∈ TB := tb_5 (List.mem_of_getElem? (i := 75) rfl) rfl
theorem tb1036 : Cond.selects "AspenLineModel" ⟨"AspenLineModel", "cut", "(IZ)I"⟩ ⟨"AspenLineModel", "cut", "(IZ)I"⟩ ∈ TB := tb_5 (List.mem_of_getElem? (i := 76) rfl) rfl
theorem tb1037 : Cond.code ⟨"AspenLineModel", "cut", "(IZ)I"⟩ prog_9_method_41_code 3 (some (FieldType.int)) ∈ TB := tb_5 (List.mem_of_getElem? (i := 77) rfl) rfl
theorem tb1038 : Cond.methodLink "AspenLineLaw" 77 ⟨"AspenLineModel", "wind", "(I)I"⟩ ∈ TB := tb_5 (List.mem_of_getElem? (i := 78) rfl) rfl
theorem tb1039 : Cond.instanceMethod ⟨"AspenLineModel", "wind", "(I)I"⟩ ∈ TB := tb_5 (List.mem_of_getElem? (i := 79) rfl) rfl
theorem tb1040 : Cond.selects "AspenLineModel" ⟨"AspenLineModel", "wind", "(I)I"⟩ ⟨"AspenLineModel", "wind", "(I)I"⟩ ∈ TB := tb_5 (List.mem_of_getElem? (i := 80) rfl) rfl
theorem tb1041 : Cond.code ⟨"AspenLineModel", "wind", "(I)I"⟩ prog_9_method_42_code 2 (some (FieldType.int)) ∈ TB := tb_5 (List.mem_of_getElem? (i := 81) rfl) rfl
theorem tb1042 : Cond.constantLong "AspenLineModel" 191 (20 : Int64) ∈ TB := tb_5 (List.mem_of_getElem? (i := 82) rfl) rfl
theorem tb1043 : Cond.methodLink "AspenLineLaw" 81 ⟨"AspenLineModel", "book", "(III)I"⟩ ∈ TB := tb_5 (List.mem_of_getElem? (i := 83) rfl) rfl
theorem tb1044 : Cond.instanceMethod ⟨"AspenLineModel", "book", "(III)I"⟩ ∈ TB := tb_5 (List.mem_of_getElem? (i := 84) rfl) rfl
theorem tb1045 : Cond.selects "AspenLineModel" ⟨"AspenLineModel", "book", "(III)I"⟩ ⟨"AspenLineModel", "book", "(III)I"⟩ ∈ TB := tb_5 (List.mem_of_getElem? (i := 85) rfl) rfl
theorem tb1046 : Cond.code ⟨"AspenLineModel", "book", "(III)I"⟩ prog_9_method_44_code 4 (some (FieldType.int)) ∈ TB := tb_5 (List.mem_of_getElem? (i := 86) rfl) rfl
theorem tb1047 : Cond.methodLink "AspenLineModel" 195 ⟨"AspenLineModel", "books", "(III)I"⟩ ∈ TB := tb_5 (List.mem_of_getElem? (i := 87) rfl) rfl
theorem tb1049 : Cond.instanceMethod ⟨"AspenLineModel", "books", "(III)I"⟩ ∈ TB := tb_5 (List.mem_of_getElem? (i := 89) rfl) rfl
theorem tb1050 : Cond.code ⟨"AspenLineModel", "books", "(III)I"⟩ prog_9_method_43_code 5 (some (FieldType.int)) ∈ TB := tb_5 (List.mem_of_getElem? (i := 90) rfl) rfl
theorem tb1051 : Cond.constantLong "AspenLineModel" 193 (23 : Int64) ∈ TB := tb_5 (List.mem_of_getElem? (i := 91) rfl) rfl
theorem tb1052 : Cond.methodLink "AspenLineLaw" 85 ⟨"AspenLineModel", "shift", "(III)I"⟩ ∈ TB := tb_5 (List.mem_of_getElem? (i := 92) rfl) rfl
theorem tb1053 : Cond.instanceMethod ⟨"AspenLineModel", "shift", "(III)I"⟩ ∈ TB := tb_5 (List.mem_of_getElem? (i := 93) rfl) rfl
theorem tb1054 : Cond.selects "AspenLineModel" ⟨"AspenLineModel", "shift", "(III)I"⟩ ⟨"AspenLineModel", "shift", "(III)I"⟩ ∈ TB := tb_5 (List.mem_of_getElem? (i := 94) rfl) rfl
theorem tb1055 : Cond.code ⟨"AspenLineModel", "shift", "(III)I"⟩ prog_9_method_45_code 5 (some (FieldType.int)) ∈ TB := tb_5 (List.mem_of_getElem? (i := 95) rfl) rfl
theorem tb1056 : Cond.methodLink "AspenLineLaw" 89 ⟨"AspenLineModel", "drop", "(I)I"⟩ ∈ TB := tb_5 (List.mem_of_getElem? (i := 96) rfl) rfl
theorem tb1057 : Cond.instanceMethod ⟨"AspenLineModel", "drop", "(I)I"⟩ ∈ TB := tb_5 (List.mem_of_getElem? (i := 97) rfl) rfl
theorem tb1058 : Cond.selects "AspenLineModel" ⟨"AspenLineModel", "drop", "(I)I"⟩ ⟨"AspenLineModel", "drop", "(I)I"⟩ ∈ TB := tb_5 (List.mem_of_getElem? (i := 98) rfl) rfl
theorem tb1059 : Cond.code ⟨"AspenLineModel", "drop", "(I)I"⟩ prog_9_method_46_code 2 (some (FieldType.int)) ∈ TB := tb_5 (List.mem_of_getElem? (i := 99) rfl) rfl
theorem tb1060 : Cond.methodLink "AspenLineLaw" 93 ⟨"AspenLineModel", "hears", "(II)I"⟩ ∈ TB := tb_5 (List.mem_of_getElem? (i := 100) rfl) rfl
theorem tb1061 : Cond.instanceMethod ⟨"AspenLineModel", "hears", "(II)I"⟩ ∈ TB := tb_5 (List.mem_of_getElem? (i := 101) rfl) rfl
theorem tb1062 : Cond.selects "AspenLineModel" ⟨"AspenLineModel", "hears", "(II)I"⟩ ⟨"AspenLineModel", "hears", "(II)I"⟩ ∈ TB := tb_5 (List.mem_of_getElem? (i := 102) rfl) rfl
theorem tb1063 : Cond.code ⟨"AspenLineModel", "hears", "(II)I"⟩ prog_9_method_47_code 3 (some (FieldType.int)) ∈ TB := tb_5 (List.mem_of_getElem? (i := 103) rfl) rfl
theorem tb1064 : Cond.methodLink "AspenLineLaw" 97 ⟨"AspenLineModel", "crossed", "(II)I"⟩ ∈ TB := tb_5 (List.mem_of_getElem? (i := 104) rfl) rfl
theorem tb1065 : Cond.instanceMethod ⟨"AspenLineModel", "crossed", "(II)I"⟩ ∈ TB := tb_5 (List.mem_of_getElem? (i := 105) rfl) rfl
theorem tb1066 : Cond.selects "AspenLineModel" ⟨"AspenLineModel", "crossed", "(II)I"⟩ ⟨"AspenLineModel", "crossed", "(II)I"⟩ ∈ TB := tb_5 (List.mem_of_getElem? (i := 106) rfl) rfl
theorem tb1067 : Cond.code ⟨"AspenLineModel", "crossed", "(II)I"⟩ prog_9_method_48_code 3 (some (FieldType.int)) ∈ TB := tb_5 (List.mem_of_getElem? (i := 107) rfl) rfl
theorem tb1068 : Cond.methodLink "AspenLineLaw" 101 ⟨"AspenLineModel", "least", "(II)I"⟩ ∈ TB := tb_5 (List.mem_of_getElem? (i := 108) rfl) rfl
theorem tb1069 : Cond.instanceMethod ⟨"AspenLineModel", "least", "(II)I"⟩ ∈ TB := tb_5 (List.mem_of_getElem? (i := 109) rfl) rfl
theorem tb1070 : Cond.selects "AspenLineModel" ⟨"AspenLineModel", "least", "(II)I"⟩ ⟨"AspenLineModel", "least", "(II)I"⟩ ∈ TB := tb_5 (List.mem_of_getElem? (i := 110) rfl) rfl
theorem tb1071 : Cond.code ⟨"AspenLineModel", "least", "(II)I"⟩ prog_9_method_50_code 3 (some (FieldType.int)) ∈ TB := tb_5 (List.mem_of_getElem? (i := 111) rfl) rfl
theorem tb1072 : Cond.methodLink "AspenLineModel" 198 ⟨"AspenLineModel", "isSome", "(I)Z"⟩ ∈ TB := tb_5 (List.mem_of_getElem? (i := 112) rfl) rfl
theorem tb1074 : Cond.instanceMethod ⟨"AspenLineModel", "isSome", "(I)Z"⟩ ∈ TB := tb_5 (List.mem_of_getElem? (i := 114) rfl) rfl
theorem tb1075 : Cond.code ⟨"AspenLineModel", "isSome", "(I)Z"⟩ prog_9_method_22_code 2 (some (FieldType.boolean)) ∈ TB := tb_5 (List.mem_of_getElem? (i := 115) rfl) rfl
theorem tb1076 : Cond.methodLink "AspenLineModel" 201 ⟨"AspenLineModel", "leastOf", "(II)I"⟩ ∈ TB := tb_5 (List.mem_of_getElem? (i := 116) rfl) rfl
theorem tb1078 : Cond.instanceMethod ⟨"AspenLineModel", "leastOf", "(II)I"⟩ ∈ TB := tb_5 (List.mem_of_getElem? (i := 118) rfl) rfl
theorem tb1079 : Cond.code ⟨"AspenLineModel", "leastOf", "(II)I"⟩ prog_9_method_49_code 4 (some (FieldType.int)) ∈ TB := tb_5 (List.mem_of_getElem? (i := 119) rfl) rfl
theorem tb1080 : Cond.methodLink "AspenLineLaw" 105 ⟨"AspenLineModel", "just", "(II)I"⟩ ∈ TB := tb_5 (List.mem_of_getElem? (i := 120) rfl) rfl
theorem tb1081 : Cond.instanceMethod ⟨"AspenLineModel", "just", "(II)I"⟩ ∈ TB := tb_5 (List.mem_of_getElem? (i := 121) rfl) rfl
theorem tb1082 : Cond.selects "AspenLineModel" ⟨"AspenLineModel", "just", "(II)I"⟩ ⟨"AspenLineModel", "just", "(II)I"⟩ ∈ TB := tb_5 (List.mem_of_getElem? (i := 122) rfl) rfl
theorem tb1083 : Cond.code ⟨"AspenLineModel", "just", "(II)I"⟩ prog_9_method_51_code 4 (some (FieldType.int)) ∈ TB := tb_5 (List.mem_of_getElem? (i := 123) rfl) rfl
theorem tb1084 : Cond.methodLink "AspenLineLaw" 109 ⟨"AspenLineModel", "from", "(II)I"⟩ ∈ TB := tb_5 (List.mem_of_getElem? (i := 124) rfl) rfl
theorem tb1085 : Cond.instanceMethod ⟨"AspenLineModel", "from", "(II)I"⟩ ∈ TB := tb_5 (List.mem_of_getElem? (i := 125) rfl) rfl
theorem tb1086 : Cond.selects "AspenLineModel" ⟨"AspenLineModel", "from", "(II)I"⟩ ⟨"AspenLineModel", "from", "(II)I"⟩ ∈ TB := tb_5 (List.mem_of_getElem? (i := 126) rfl) rfl
theorem tb1087 : Cond.code ⟨"AspenLineModel", "from", "(II)I"⟩ prog_9_method_52_code 7 (some (FieldType.int)) ∈ TB := tb_5 (List.mem_of_getElem? (i := 127) rfl) rfl
theorem tb1088 : Cond.methodLink "AspenLineLaw" 114 ⟨"AspenLineModel", "hush", "(IIII)I"⟩ ∈ TB := tb_5 (List.mem_of_getElem? (i := 128) rfl) rfl
theorem tb1089 : Cond.instanceMethod ⟨"AspenLineModel", "hush", "(IIII)I"⟩ ∈ TB := tb_5 (List.mem_of_getElem? (i := 129) rfl) rfl
theorem tb1090 : Cond.selects "AspenLineModel" ⟨"AspenLineModel", "hush", "(IIII)I"⟩ ⟨"AspenLineModel", "hush", "(IIII)I"⟩ ∈ TB := tb_5 (List.mem_of_getElem? (i := 130) rfl) rfl
theorem tb1091 : Cond.code ⟨"AspenLineModel", "hush", "(IIII)I"⟩ prog_9_method_55_code 8 (some (FieldType.int)) ∈ TB := tb_5 (List.mem_of_getElem? (i := 131) rfl) rfl
theorem tb1092 : Cond.methodLink "AspenLineModel" 207 ⟨"AspenLineModel", "cuts", "(I)Z"⟩ ∈ TB := tb_5 (List.mem_of_getElem? (i := 132) rfl) rfl
theorem tb1094 : Cond.instanceMethod ⟨"AspenLineModel", "cuts", "(I)Z"⟩ ∈ TB := tb_5 (List.mem_of_getElem? (i := 134) rfl) rfl
theorem tb1095 : Cond.code ⟨"AspenLineModel", "cuts", "(I)Z"⟩ prog_9_method_54_code 4 (some (FieldType.boolean)) ∈ TB := tb_5 (List.mem_of_getElem? (i := 135) rfl) rfl
theorem tb1096 : Cond.methodLink "AspenLineModel" 204 ⟨"AspenLineModel", "copies", "(II)V"⟩ ∈ TB := tb_5 (List.mem_of_getElem? (i := 136) rfl) rfl
theorem tb1098 : Cond.instanceMethod ⟨"AspenLineModel", "copies", "(II)V"⟩ ∈ TB := tb_5 (List.mem_of_getElem? (i := 138) rfl) rfl
theorem tb1099 : Cond.code ⟨"AspenLineModel", "copies", "(II)V"⟩ prog_9_method_53_code 4 none ∈ TB := tb_5 (List.mem_of_getElem? (i := 139) rfl) rfl
theorem tb1100 : Cond.methodLink "AspenLineLaw" 118 ⟨"AspenLineModel", "join", "(IIII)I"⟩ ∈ TB := tb_5 (List.mem_of_getElem? (i := 140) rfl) rfl
theorem tb1101 : Cond.instanceMethod ⟨"AspenLineModel", "join", "(IIII)I"⟩ ∈ TB := tb_5 (List.mem_of_getElem? (i := 141) rfl) rfl
theorem tb1102 : Cond.selects "AspenLineModel" ⟨"AspenLineModel", "join", "(IIII)I"⟩ ⟨"AspenLineModel", "join", "(IIII)I"⟩ ∈ TB := tb_5 (List.mem_of_getElem? (i := 142) rfl) rfl
theorem tb1103 : Cond.code ⟨"AspenLineModel", "join", "(IIII)I"⟩ prog_9_method_56_code 10 (some (FieldType.int)) ∈ TB := tb_5 (List.mem_of_getElem? (i := 143) rfl) rfl
theorem tb1104 : Cond.methodLink "AspenLineLaw" 122 ⟨"AspenLineModel", "dear", "(I)I"⟩ ∈ TB := tb_5 (List.mem_of_getElem? (i := 144) rfl) rfl
theorem tb1105 : Cond.instanceMethod ⟨"AspenLineModel", "dear", "(I)I"⟩ ∈ TB := tb_5 (List.mem_of_getElem? (i := 145) rfl) rfl
theorem tb1106 : Cond.selects "AspenLineModel" ⟨"AspenLineModel", "dear", "(I)I"⟩ ⟨"AspenLineModel", "dear", "(I)I"⟩ ∈ TB := tb_5 (List.mem_of_getElem? (i := 146) rfl) rfl
theorem tb1107 : Cond.code ⟨"AspenLineModel", "dear", "(I)I"⟩ prog_9_method_57_code 6 (some (FieldType.int)) ∈ TB := tb_5 (List.mem_of_getElem? (i := 147) rfl) rfl
theorem tb1108 : Cond.methodLink "AspenLineLaw" 126 ⟨"AspenLineModel", "hour", "(II)I"⟩ ∈ TB := tb_5 (List.mem_of_getElem? (i := 148) rfl) rfl
theorem tb1109 : Cond.instanceMethod ⟨"AspenLineModel", "hour", "(II)I"⟩ ∈ TB := tb_5 (List.mem_of_getElem? (i := 149) rfl) rfl
theorem tb1110 : Cond.selects "AspenLineModel" ⟨"AspenLineModel", "hour", "(II)I"⟩ ⟨"AspenLineModel", "hour", "(II)I"⟩ ∈ TB := tb_5 (List.mem_of_getElem? (i := 150) rfl) rfl
theorem tb1111 : Cond.code ⟨"AspenLineModel", "hour", "(II)I"⟩ prog_9_method_58_code 7 (some (FieldType.int)) ∈ TB := tb_5 (List.mem_of_getElem? (i := 151) rfl) rfl
theorem tb1112 : Cond.methodLink "AspenLineLaw" 130 ⟨"AspenLineModel", "kind", "(II)I"⟩ ∈ TB := tb_5 (List.mem_of_getElem? (i := 152) rfl) rfl
theorem tb1113 : Cond.instanceMethod ⟨"AspenLineModel", "kind", "(II)I"⟩ ∈ TB := tb_5 (List.mem_of_getElem? (i := 153) rfl) rfl
theorem tb1114 : Cond.selects "AspenLineModel" ⟨"AspenLineModel", "kind", "(II)I"⟩ ⟨"AspenLineModel", "kind", "(II)I"⟩ ∈ TB := tb_5 (List.mem_of_getElem? (i := 154) rfl) rfl
theorem tb1115 : Cond.code ⟨"AspenLineModel", "kind", "(II)I"⟩ prog_9_method_59_code 7 (some (FieldType.int)) ∈ TB := tb_5 (List.mem_of_getElem? (i := 155) rfl) rfl
theorem tb1116 : Cond.methodLink "AspenLineLaw" 134 ⟨"AspenLineModel", "calm", "()I"⟩ ∈ TB := tb_5 (List.mem_of_getElem? (i := 156) rfl) rfl
theorem tb1117 : Cond.instanceMethod ⟨"AspenLineModel", "calm", "()I"⟩ ∈ TB := tb_5 (List.mem_of_getElem? (i := 157) rfl) rfl
theorem tb1118 : Cond.selects "AspenLineModel" ⟨"AspenLineModel", "calm", "()I"⟩ ⟨"AspenLineModel", "calm", "()I"⟩ ∈ TB := tb_5 (List.mem_of_getElem? (i := 158) rfl) rfl
theorem tb1119 : Cond.code ⟨"AspenLineModel", "calm", "()I"⟩ prog_9_method_60_code 2 (some (FieldType.int)) ∈ TB := tb_5 (List.mem_of_getElem? (i := 159) rfl) rfl
theorem tb1120 : Cond.methodLink "AspenLineLaw" 139 ⟨"AspenLineModel", "luck", "(IIIII)J"⟩ ∈ TB := tb_5 (List.mem_of_getElem? (i := 160) rfl) rfl
theorem tb1121 : Cond.instanceMethod ⟨"AspenLineModel", "luck", "(IIIII)J"⟩ ∈ TB := tb_5 (List.mem_of_getElem? (i := 161) rfl) rfl
theorem tb1122 : Cond.selects "AspenLineModel" ⟨"AspenLineModel", "luck", "(IIIII)J"⟩ ⟨"AspenLineModel", "luck", "(IIIII)J"⟩ ∈ TB := tb_5 (List.mem_of_getElem? (i := 162) rfl) rfl
theorem tb1123 : Cond.code ⟨"AspenLineModel", "luck", "(IIIII)J"⟩ prog_9_method_63_code 6 (some (FieldType.long)) ∈ TB := tb_5 (List.mem_of_getElem? (i := 163) rfl) rfl
theorem tb1124 : Cond.constantLong "AspenLineModel" 210 (10 : Int64) ∈ TB := tb_5 (List.mem_of_getElem? (i := 164) rfl) rfl
theorem tb1125 : Cond.methodLink "AspenLineModel" 216 ⟨"AspenLineModel", "byBeavers", "(IIIII)J"⟩ ∈ TB := tb_5 (List.mem_of_getElem? (i := 165) rfl) rfl
theorem tb1127 : Cond.instanceMethod ⟨"AspenLineModel", "byBeavers", "(IIIII)J"⟩ ∈ TB := tb_5 (List.mem_of_getElem? (i := 167) rfl) rfl
theorem tb1128 : Cond.code ⟨"AspenLineModel", "byBeavers", "(IIIII)J"⟩ prog_9_method_62_code 14 (some (FieldType.long)) ∈ TB := tb_5 (List.mem_of_getElem? (i := 168) rfl) rfl
theorem tb1129 : Cond.methodLink "AspenLineModel" 212 ⟨"AspenLineModel", "lowest", "(JJI)J"⟩ ∈ TB := tb_5 (List.mem_of_getElem? (i := 169) rfl) rfl
theorem tb1130 : Cond.static ⟨"AspenLineModel", "lowest", "(JJI)J"⟩ ∈ TB := tb_5 (List.mem_of_getElem? (i := 170) rfl) rfl
theorem tb1131 : Cond.code ⟨"AspenLineModel", "lowest", "(JJI)J"⟩ prog_9_method_61_code 11 (some (FieldType.long)) ∈ TB := tb_5 (List.mem_of_getElem? (i := 171) rfl) rfl
theorem tb1132 : Cond.constantLong "AspenLineModel" 220 (-1 : Int64) ∈ TB := tb_5 (List.mem_of_getElem? (i := 172) rfl) rfl
theorem tb1133 : Cond.methodLink "AspenLineLaw" 144 ⟨"AspenLineModel", "mean", "(IIII)J"⟩ ∈ TB := tb_5 (List.mem_of_getElem? (i := 173) rfl) rfl
theorem tb1134 : Cond.instanceMethod ⟨"AspenLineModel", "mean", "(IIII)J"⟩ ∈ TB := tb_5 (List.mem_of_getElem? (i := 174) rfl) rfl
theorem tb1135 : Cond.selects "AspenLineModel" ⟨"AspenLineModel", "mean", "(IIII)J"⟩ ⟨"AspenLineModel", "mean", "(IIII)J"⟩ ∈ TB := tb_5 (List.mem_of_getElem? (i := 175) rfl) rfl
theorem tb1136 : Cond.code ⟨"AspenLineModel", "mean", "(IIII)J"⟩ prog_9_method_64_code 5 (some (FieldType.long)) ∈ TB := tb_5 (List.mem_of_getElem? (i := 176) rfl) rfl
theorem tb1137 : Cond.methodLink "AspenLineLaw" 148 ⟨"AspenLineModel", "see", "(II)I"⟩ ∈ TB := tb_5 (List.mem_of_getElem? (i := 177) rfl) rfl
theorem tb1138 : Cond.instanceMethod ⟨"AspenLineModel", "see", "(II)I"⟩ ∈ TB := tb_5 (List.mem_of_getElem? (i := 178) rfl) rfl
theorem tb1139 : Cond.selects "AspenLineModel" ⟨"AspenLineModel", "see", "(II)I"⟩ ⟨"AspenLineModel", "see", "(II)I"⟩ ∈ TB := tb_5 (List.mem_of_getElem? (i := 179) rfl) rfl
theorem tb1140 : Cond.code ⟨"AspenLineModel", "see", "(II)I"⟩ prog_9_method_65_code 3 (some (FieldType.int)) ∈ TB := tb_5 (List.mem_of_getElem? (i := 180) rfl) rfl
theorem tb1141 : Cond.constantLong "AspenLineModel" 222 (120 : Int64) ∈ TB := tb_5 (List.mem_of_getElem? (i := 181) rfl) rfl
theorem tb1142 : Cond.methodLink "AspenLineLaw" 152 ⟨"AspenLineModel", "forget", "(I)I"⟩ ∈ TB := tb_5 (List.mem_of_getElem? (i := 182) rfl) rfl
theorem tb1143 : Cond.instanceMethod ⟨"AspenLineModel", "forget", "(I)I"⟩ ∈ TB := tb_5 (List.mem_of_getElem? (i := 183) rfl) rfl
theorem tb1144 : Cond.selects "AspenLineModel" ⟨"AspenLineModel", "forget", "(I)I"⟩ ⟨"AspenLineModel", "forget", "(I)I"⟩ ∈ TB := tb_5 (List.mem_of_getElem? (i := 184) rfl) rfl
theorem tb1145 : Cond.code ⟨"AspenLineModel", "forget", "(I)I"⟩ prog_9_method_66_code 3 (some (FieldType.int)) ∈ TB := tb_5 (List.mem_of_getElem? (i := 185) rfl) rfl
theorem tb1146 : Cond.methodLink "AspenLineLaw" 156 ⟨"AspenLineModel", "sayers", "()I"⟩ ∈ TB := tb_5 (List.mem_of_getElem? (i := 186) rfl) rfl
theorem tb1147 : Cond.instanceMethod ⟨"AspenLineModel", "sayers", "()I"⟩ ∈ TB := tb_5 (List.mem_of_getElem? (i := 187) rfl) rfl
theorem tb1148 : Cond.selects "AspenLineModel" ⟨"AspenLineModel", "sayers", "()I"⟩ ⟨"AspenLineModel", "sayers", "()I"⟩ ∈ TB := tb_5 (List.mem_of_getElem? (i := 188) rfl) rfl
theorem tb1149 : Cond.code ⟨"AspenLineModel", "sayers", "()I"⟩ prog_9_method_70_code 1 (some (FieldType.int)) ∈ TB := tb_5 (List.mem_of_getElem? (i := 189) rfl) rfl
theorem tb1150 : Cond.methodLink "AspenLineModel" 231 ⟨"AspenLineModel", "sayersOn", "(I)I"⟩ ∈ TB := tb_5 (List.mem_of_getElem? (i := 190) rfl) rfl
theorem tb1152 : Cond.instanceMethod ⟨"AspenLineModel", "sayersOn", "(I)I"⟩ ∈ TB := tb_5 (List.mem_of_getElem? (i := 192) rfl) rfl
theorem tb1153 : Cond.code ⟨"AspenLineModel", "sayersOn", "(I)I"⟩ prog_9_method_69_code 4 (some (FieldType.int)) ∈ TB := tb_5 (List.mem_of_getElem? (i := 193) rfl) rfl
theorem tb1154 : Cond.methodLink "AspenLineModel" 228 ⟨"AspenLineModel", "breathsOn", "(II)I"⟩ ∈ TB := tb_5 (List.mem_of_getElem? (i := 194) rfl) rfl
theorem tb1156 : Cond.instanceMethod ⟨"AspenLineModel", "breathsOn", "(II)I"⟩ ∈ TB := tb_5 (List.mem_of_getElem? (i := 196) rfl) rfl
theorem tb1157 : Cond.code ⟨"AspenLineModel", "breathsOn", "(II)I"⟩ prog_9_method_68_code 5 (some (FieldType.int)) ∈ TB := tb_5 (List.mem_of_getElem? (i := 197) rfl) rfl
theorem tb1158 : Cond.methodLink "AspenLineModel" 224 ⟨"AspenLineModel", "isAsSeen", "(II)Z"⟩ ∈ TB := tb_5 (List.mem_of_getElem? (i := 198) rfl) rfl
theorem tb1160 : Cond.instanceMethod ⟨"AspenLineModel", "isAsSeen", "(II)Z"⟩ ∈ TB := tb_5 (List.mem_of_getElem? (i := 200) rfl) rfl
theorem tb1161 : Cond.code ⟨"AspenLineModel", "isAsSeen", "(II)Z"⟩ prog_9_method_67_code 5 (some (FieldType.boolean)) ∈ TB := tb_5 (List.mem_of_getElem? (i := 201) rfl) rfl
theorem tb1162 : Cond.methodLink "AspenLineLaw" 160 ⟨"AspenLineModel", "breaths", "(II)I"⟩ ∈ TB := tb_5 (List.mem_of_getElem? (i := 202) rfl) rfl
theorem tb1163 : Cond.instanceMethod ⟨"AspenLineModel", "breaths", "(II)I"⟩ ∈ TB := tb_5 (List.mem_of_getElem? (i := 203) rfl) rfl
theorem tb1164 : Cond.selects "AspenLineModel" ⟨"AspenLineModel", "breaths", "(II)I"⟩ ⟨"AspenLineModel", "breaths", "(II)I"⟩ ∈ TB := tb_5 (List.mem_of_getElem? (i := 204) rfl) rfl
theorem tb1165 : Cond.code ⟨"AspenLineModel", "breaths", "(II)I"⟩ prog_9_method_71_code 4 (some (FieldType.int)) ∈ TB := tb_5 (List.mem_of_getElem? (i := 205) rfl) rfl
theorem tb1166 : Cond.methodLink "AspenLineLaw" 164 ⟨"AspenLineModel", "kinds", "(I)I"⟩ ∈ TB := tb_5 (List.mem_of_getElem? (i := 206) rfl) rfl
theorem tb1167 : Cond.instanceMethod ⟨"AspenLineModel", "kinds", "(I)I"⟩ ∈ TB := tb_5 (List.mem_of_getElem? (i := 207) rfl) rfl
theorem tb1168 : Cond.selects "AspenLineModel" ⟨"AspenLineModel", "kinds", "(I)I"⟩ ⟨"AspenLineModel", "kinds", "(I)I"⟩ ∈ TB := tb_5 (List.mem_of_getElem? (i := 208) rfl) rfl
theorem tb1169 : Cond.code ⟨"AspenLineModel", "kinds", "(I)I"⟩ prog_9_method_72_code 4 (some (FieldType.int)) ∈ TB := tb_5 (List.mem_of_getElem? (i := 209) rfl) rfl
theorem tb1170 : Cond.methodLink "AspenLineLaw" 168 ⟨"AspenLineModel", "ask", "(I)I"⟩ ∈ TB := tb_5 (List.mem_of_getElem? (i := 210) rfl) rfl
theorem tb1171 : Cond.instanceMethod ⟨"AspenLineModel", "ask", "(I)I"⟩ ∈ TB := tb_5 (List.mem_of_getElem? (i := 211) rfl) rfl
theorem tb1172 : Cond.selects "AspenLineModel" ⟨"AspenLineModel", "ask", "(I)I"⟩ ⟨"AspenLineModel", "ask", "(I)I"⟩ ∈ TB := tb_5 (List.mem_of_getElem? (i := 212) rfl) rfl
theorem tb1173 : Cond.code ⟨"AspenLineModel", "ask", "(I)I"⟩ prog_9_method_73_code 9 (some (FieldType.int)) ∈ TB := tb_5 (List.mem_of_getElem? (i := 213) rfl) rfl
theorem tb1174 : Cond.methodLink "AspenLineLaw" 172 ⟨"AspenLineModel", "drift", "(III)I"⟩ ∈ TB := tb_5 (List.mem_of_getElem? (i := 214) rfl) rfl
theorem tb1175 : Cond.instanceMethod ⟨"AspenLineModel", "drift", "(III)I"⟩ ∈ TB := tb_5 (List.mem_of_getElem? (i := 215) rfl) rfl
theorem tb1176 : Cond.selects "AspenLineModel" ⟨"AspenLineModel", "drift", "(III)I"⟩ ⟨"AspenLineModel", "drift", "(III)I"⟩ ∈ TB := tb_5 (List.mem_of_getElem? (i := 216) rfl) rfl
theorem tb1177 : Cond.code ⟨"AspenLineModel", "drift", "(III)I"⟩ prog_9_method_74_code 10 (some (FieldType.int)) ∈ TB := tb_5 (List.mem_of_getElem? (i := 217) rfl) rfl
theorem tb1178 : Cond.constant "AspenLineModel" 234 (1103515245 : Int32) ∈ TB := tb_5 (List.mem_of_getElem? (i := 218) rfl) rfl
theorem tb1179 : Cond.methodLink "AspenLineLaw" 176 ⟨"AspenLineModel", "keep", "(I)I"⟩ ∈ TB := tb_5 (List.mem_of_getElem? (i := 219) rfl) rfl
theorem tb1180 : Cond.instanceMethod ⟨"AspenLineModel", "keep", "(I)I"⟩ ∈ TB := tb_5 (List.mem_of_getElem? (i := 220) rfl) rfl
theorem tb1181 : Cond.selects "AspenLineModel" ⟨"AspenLineModel", "keep", "(I)I"⟩ ⟨"AspenLineModel", "keep", "(I)I"⟩ ∈ TB := tb_5 (List.mem_of_getElem? (i := 221) rfl) rfl
theorem tb1182 : Cond.code ⟨"AspenLineModel", "keep", "(I)I"⟩ prog_9_method_75_code 3 (some (FieldType.int)) ∈ TB := tb_5 (List.mem_of_getElem? (i := 222) rfl) rfl
theorem tb1183 : Cond.methodLink "AspenLineLaw" 180 ⟨"AspenLineModel", "back", "(I)I"⟩ ∈ TB := tb_5 (List.mem_of_getElem? (i := 223) rfl) rfl
theorem tb1184 : Cond.instanceMethod ⟨"AspenLineModel", "back", "(I)I"⟩ ∈ TB := tb_5 (List.mem_of_getElem? (i := 224) rfl) rfl
theorem tb1185 : Cond.selects "AspenLineModel" ⟨"AspenLineModel", "back", "(I)I"⟩ ⟨"AspenLineModel", "back", "(I)I"⟩ ∈ TB := tb_5 (List.mem_of_getElem? (i := 225) rfl) rfl
theorem tb1186 : Cond.code ⟨"AspenLineModel", "back", "(I)I"⟩ prog_9_method_76_code 2 (some (FieldType.int)) ∈ TB := tb_5 (List.mem_of_getElem? (i := 226) rfl) rfl
theorem tb1187 : Cond.methodLink "AspenLineLaw" 184 ⟨"AspenLineModel", "sheet", "(III)I"⟩ ∈ TB := tb_5 (List.mem_of_getElem? (i := 227) rfl) rfl
theorem tb1188 : Cond.instanceMethod ⟨"AspenLineModel", "sheet", "(III)I"⟩ ∈ TB := tb_5 (List.mem_of_getElem? (i := 228) rfl) rfl
theorem tb1189 : Cond.selects "AspenLineModel" ⟨"AspenLineModel", "sheet", "(III)I"⟩ ⟨"AspenLineModel", "sheet", "(III)I"⟩ ∈ TB := tb_5 (List.mem_of_getElem? (i := 229) rfl) rfl
theorem tb1190 : Cond.code ⟨"AspenLineModel", "sheet", "(III)I"⟩ prog_9_method_77_code 5 (some (FieldType.int)) ∈ TB := tb_5 (List.mem_of_getElem? (i := 230) rfl) rfl
theorem tb1191 : Cond.constantLong "AspenLineModel" 235 (2 : Int64) ∈ TB := tb_5 (List.mem_of_getElem? (i := 231) rfl) rfl
theorem tb1192 : Cond.methodLink "AspenLineLaw" 188 ⟨"AspenLineModel", "lay", "(III)I"⟩ ∈ TB := tb_5 (List.mem_of_getElem? (i := 232) rfl) rfl
theorem tb1193 : Cond.instanceMethod ⟨"AspenLineModel", "lay", "(III)I"⟩ ∈ TB := tb_5 (List.mem_of_getElem? (i := 233) rfl) rfl
theorem tb1194 : Cond.selects "AspenLineModel" ⟨"AspenLineModel", "lay", "(III)I"⟩ ⟨"AspenLineModel", "lay", "(III)I"⟩ ∈ TB := tb_5 (List.mem_of_getElem? (i := 234) rfl) rfl
theorem tb1195 : Cond.code ⟨"AspenLineModel", "lay", "(III)I"⟩ prog_9_method_78_code 4 (some (FieldType.int)) ∈ TB := tb_5 (List.mem_of_getElem? (i := 235) rfl) rfl
theorem tb1196 : Cond.methodLink "AspenLineLaw" 192 ⟨"AspenLineModel", "read", "(IIII)I"⟩ ∈ TB := tb_5 (List.mem_of_getElem? (i := 236) rfl) rfl
theorem tb1197 : Cond.instanceMethod ⟨"AspenLineModel", "read", "(IIII)I"⟩ ∈ TB := tb_5 (List.mem_of_getElem? (i := 237) rfl) rfl
theorem tb1198 : Cond.selects "AspenLineModel" ⟨"AspenLineModel", "read", "(IIII)I"⟩ ⟨"AspenLineModel", "read", "(IIII)I"⟩ ∈ TB := tb_5 (List.mem_of_getElem? (i := 238) rfl) rfl
theorem tb1199 : Cond.code ⟨"AspenLineModel", "read", "(IIII)I"⟩ prog_9_method_79_code 9 (some (FieldType.int)) ∈ TB := tb_5 (List.mem_of_getElem? (i := 239) rfl) rfl
theorem tb1200 : Cond.constantLong "AspenLineModel" 237 (13 : Int64) ∈ TB := tb_6 (List.mem_of_getElem? (i := 0) rfl) rfl
theorem tb1201 : Cond.methodLink "AspenLineLaw" 196 ⟨"AspenLineModel", "torn", "()I"⟩ ∈ TB := tb_6 (List.mem_of_getElem? (i := 1) rfl) rfl
theorem tb1202 : Cond.instanceMethod ⟨"AspenLineModel", "torn", "()I"⟩ ∈ TB := tb_6 (List.mem_of_getElem? (i := 2) rfl) rfl
theorem tb1203 : Cond.selects "AspenLineModel" ⟨"AspenLineModel", "torn", "()I"⟩ ⟨"AspenLineModel", "torn", "()I"⟩ ∈ TB := tb_6 (List.mem_of_getElem? (i := 3) rfl) rfl
theorem tb1204 : Cond.code ⟨"AspenLineModel", "torn", "()I"⟩ prog_9_method_80_code 1 (some (FieldType.int)) ∈ TB := tb_6 (List.mem_of_getElem? (i := 4) rfl) rfl
theorem tb1205 : Cond.methodLink "AspenLineLaw" 200 ⟨"AspenLineModel", "count", "(I)I"⟩ ∈ TB := tb_6 (List.mem_of_getElem? (i := 5) rfl) rfl
theorem tb1206 : Cond.instanceMethod ⟨"AspenLineModel", "count", "(I)I"⟩ ∈ TB := tb_6 (List.mem_of_getElem? (i := 6) rfl) rfl
theorem tb1207 : Cond.selects "AspenLineModel" ⟨"AspenLineModel", "count", "(I)I"⟩ ⟨"AspenLineModel", "count", "(I)I"⟩ ∈ TB := tb_6 (List.mem_of_getElem? (i := 7) rfl) rfl
theorem tb1208 : Cond.code ⟨"AspenLineModel", "count", "(I)I"⟩ prog_9_method_81_code 5 (some (FieldType.int)) ∈ TB := tb_6 (List.mem_of_getElem? (i := 8) rfl) rfl
theorem tb1209 : Cond.fieldLink "java/lang/String" 9 "java/lang/String" "value" "[B" ∈ TB := tb_6 (List.mem_of_getElem? (i := 9) rfl) rfl
theorem tb1210 : Cond.fieldLink "java/lang/String" 15 "java/lang/String" "coder" "B" ∈ TB := tb_6 (List.mem_of_getElem? (i := 10) rfl) rfl
theorem tbs0 : Cond.selects "AspenLine$Reader" ⟨"AspenLine$Reader", "readToken", "()V"⟩ ⟨"AspenLine$Reader", "readToken", "()V"⟩ ∈ TB := tb_s (List.mem_of_getElem? (i := 0) rfl) rfl
theorem tbs1 : Cond.selects "AspenLine$Reader" ⟨"AspenLine$Reader", "endOfRun", "(III)I"⟩ ⟨"AspenLine$Reader", "endOfRun", "(III)I"⟩ ∈ TB := tb_s (List.mem_of_getElem? (i := 1) rfl) rfl
theorem tbs2 : Cond.selects "AspenLine$Reader" ⟨"AspenLine$Reader", "setToken", "(II)V"⟩ ⟨"AspenLine$Reader", "setToken", "(II)V"⟩ ∈ TB := tb_s (List.mem_of_getElem? (i := 2) rfl) rfl
theorem tbs3 : Cond.selects "AspenLine$Reader" ⟨"AspenLine$Reader", "fail", "(I)V"⟩ ⟨"AspenLine$Reader", "fail", "(I)V"⟩ ∈ TB := tb_s (List.mem_of_getElem? (i := 3) rfl) rfl
theorem tbs4 : Cond.selects "AspenLine$Reader" ⟨"AspenLine$Reader", "readLine", "()V"⟩ ⟨"AspenLine$Reader", "readLine", "()V"⟩ ∈ TB := tb_s (List.mem_of_getElem? (i := 4) rfl) rfl
theorem tbs5 : Cond.selects "AspenLine$Reader" ⟨"AspenLine$Reader", "isNamed", "(Ljava/lang/String;)Z"⟩ ⟨"AspenLine$Reader", "isNamed", "(Ljava/lang/String;)Z"⟩ ∈ TB := tb_s (List.mem_of_getElem? (i := 5) rfl) rfl
theorem tbs6 : Cond.selects "AspenLine$Reader" ⟨"AspenLine$Reader", "readTree", "(I)V"⟩ ⟨"AspenLine$Reader", "readTree", "(I)V"⟩ ∈ TB := tb_s (List.mem_of_getElem? (i := 6) rfl) rfl
theorem tbs7 : Cond.selects "AspenLine$Reader" ⟨"AspenLine$Reader", "takeName", "(ZI)V"⟩ ⟨"AspenLine$Reader", "takeName", "(ZI)V"⟩ ∈ TB := tb_s (List.mem_of_getElem? (i := 7) rfl) rfl
theorem tbs8 : Cond.selects "AspenLine$Reader" ⟨"AspenLine$Reader", "takeSign", "()V"⟩ ⟨"AspenLine$Reader", "takeSign", "()V"⟩ ∈ TB := tb_s (List.mem_of_getElem? (i := 8) rfl) rfl
theorem tbs9 : Cond.selects "AspenLine$Reader" ⟨"AspenLine$Reader", "readRoot", "()V"⟩ ⟨"AspenLine$Reader", "readRoot", "()V"⟩ ∈ TB := tb_s (List.mem_of_getElem? (i := 9) rfl) rfl
theorem tbs10 : Cond.selects "AspenLine$Reader" ⟨"AspenLine$Reader", "takeNumber", "(III)I"⟩ ⟨"AspenLine$Reader", "takeNumber", "(III)I"⟩ ∈ TB := tb_s (List.mem_of_getElem? (i := 10) rfl) rfl
theorem tbs11 : Cond.selects "AspenLine$Reader" ⟨"AspenLine$Reader", "value", "()I"⟩ ⟨"AspenLine$Reader", "value", "()I"⟩ ∈ TB := tb_s (List.mem_of_getElem? (i := 11) rfl) rfl
theorem tbs12 : Cond.selects "AspenLine$Reader" ⟨"AspenLine$Reader", "readWind", "()V"⟩ ⟨"AspenLine$Reader", "readWind", "()V"⟩ ∈ TB := tb_s (List.mem_of_getElem? (i := 12) rfl) rfl
theorem tbs13 : Cond.selects "AspenLine$Reader" ⟨"AspenLine$Reader", "readTalk", "()V"⟩ ⟨"AspenLine$Reader", "readTalk", "()V"⟩ ∈ TB := tb_s (List.mem_of_getElem? (i := 13) rfl) rfl
theorem tbs14 : Cond.selects "AspenLine$Grove" ⟨"AspenLine$Grove", "shorten", "(III)Z"⟩ ⟨"AspenLine$Grove", "shorten", "(III)Z"⟩ ∈ TB := tb_s (List.mem_of_getElem? (i := 14) rfl) rfl
theorem tbs15 : Cond.selects "AspenLine$Grove" ⟨"AspenLine$Grove", "hearersWithin", "([II)I"⟩ ⟨"AspenLine$Grove", "hearersWithin", "([II)I"⟩ ∈ TB := tb_s (List.mem_of_getElem? (i := 15) rfl) rfl
theorem tbs16 : Cond.selects "AspenLine" ⟨"AspenLine", "meanHearers", "(IIIII)J"⟩ ⟨"AspenLine", "meanHearers", "(IIIII)J"⟩ ∈ TB := tb_s (List.mem_of_getElem? (i := 16) rfl) rfl
theorem tbs17 : Cond.selects "AspenLine$Sightings" ⟨"AspenLine$Sightings", "fit", "(LAspenLine$Grove;I[I)Z"⟩ ⟨"AspenLine$Sightings", "fit", "(LAspenLine$Grove;I[I)Z"⟩ ∈ TB := tb_s (List.mem_of_getElem? (i := 17) rfl) rfl
theorem tbs18 : Cond.selects "AspenLine" ⟨"AspenLine", "isImage", "(I)Z"⟩ ⟨"AspenLine", "isImage", "(I)Z"⟩ ∈ TB := tb_s (List.mem_of_getElem? (i := 18) rfl) rfl
theorem tbs19 : Cond.selects "AspenLine" ⟨"AspenLine", "isKept", "(I)Z"⟩ ⟨"AspenLine", "isKept", "(I)Z"⟩ ∈ TB := tb_s (List.mem_of_getElem? (i := 19) rfl) rfl
theorem tbs20 : Cond.selects "AspenLine" ⟨"AspenLine", "isSheet", "(I)Z"⟩ ⟨"AspenLine", "isSheet", "(I)Z"⟩ ∈ TB := tb_s (List.mem_of_getElem? (i := 20) rfl) rfl
theorem tbs21 : Cond.selects "AspenLineModel" ⟨"AspenLineModel", "step", "()V"⟩ ⟨"AspenLineModel", "step", "()V"⟩ ∈ TB := tb_s (List.mem_of_getElem? (i := 21) rfl) rfl
theorem tbs22 : Cond.selects "AspenLineModel" ⟨"AspenLineModel", "byteAt", "(I)I"⟩ ⟨"AspenLineModel", "byteAt", "(I)I"⟩ ∈ TB := tb_s (List.mem_of_getElem? (i := 22) rfl) rfl
theorem tbs23 : Cond.selects "AspenLineModel" ⟨"AspenLineModel", "fails", "(I)V"⟩ ⟨"AspenLineModel", "fails", "(I)V"⟩ ∈ TB := tb_s (List.mem_of_getElem? (i := 23) rfl) rfl
theorem tbs24 : Cond.selects "AspenLineModel" ⟨"AspenLineModel", "readLine", "()V"⟩ ⟨"AspenLineModel", "readLine", "()V"⟩ ∈ TB := tb_s (List.mem_of_getElem? (i := 24) rfl) rfl
theorem tbs25 : Cond.selects "AspenLineModel" ⟨"AspenLineModel", "nameHere", "()I"⟩ ⟨"AspenLineModel", "nameHere", "()I"⟩ ∈ TB := tb_s (List.mem_of_getElem? (i := 25) rfl) rfl
theorem tbs26 : Cond.selects "AspenLineModel" ⟨"AspenLineModel", "isFull", "(I)Z"⟩ ⟨"AspenLineModel", "isFull", "(I)Z"⟩ ∈ TB := tb_s (List.mem_of_getElem? (i := 26) rfl) rfl
theorem tbs27 : Cond.selects "AspenLineModel" ⟨"AspenLineModel", "readMore", "(I)V"⟩ ⟨"AspenLineModel", "readMore", "(I)V"⟩ ∈ TB := tb_s (List.mem_of_getElem? (i := 27) rfl) rfl
theorem tbs28 : Cond.selects "AspenLineModel" ⟨"AspenLineModel", "readRoot", "()V"⟩ ⟨"AspenLineModel", "readRoot", "()V"⟩ ∈ TB := tb_s (List.mem_of_getElem? (i := 28) rfl) rfl
theorem tbs29 : Cond.selects "AspenLineModel" ⟨"AspenLineModel", "treeHere", "()I"⟩ ⟨"AspenLineModel", "treeHere", "()I"⟩ ∈ TB := tb_s (List.mem_of_getElem? (i := 29) rfl) rfl
theorem tbs30 : Cond.selects "AspenLineModel" ⟨"AspenLineModel", "number", "(II)I"⟩ ⟨"AspenLineModel", "number", "(II)I"⟩ ∈ TB := tb_s (List.mem_of_getElem? (i := 30) rfl) rfl
theorem tbs31 : Cond.selects "AspenLineModel" ⟨"AspenLineModel", "crossedOn", "(I)I"⟩ ⟨"AspenLineModel", "crossedOn", "(I)I"⟩ ∈ TB := tb_s (List.mem_of_getElem? (i := 31) rfl) rfl
theorem tbs32 : Cond.selects "AspenLineModel" ⟨"AspenLineModel", "talksOn", "(I)I"⟩ ⟨"AspenLineModel", "talksOn", "(I)I"⟩ ∈ TB := tb_s (List.mem_of_getElem? (i := 32) rfl) rfl
theorem tbs33 : Cond.selects "AspenLineModel" ⟨"AspenLineModel", "hearsOn", "(III)I"⟩ ⟨"AspenLineModel", "hearsOn", "(III)I"⟩ ∈ TB := tb_s (List.mem_of_getElem? (i := 33) rfl) rfl
theorem tbs34 : Cond.selects "AspenLineModel" ⟨"AspenLineModel", "waysOn", "(II)V"⟩ ⟨"AspenLineModel", "waysOn", "(II)V"⟩ ∈ TB := tb_s (List.mem_of_getElem? (i := 34) rfl) rfl
theorem tbs35 : Cond.selects "AspenLineModel" ⟨"AspenLineModel", "hearersOn", "(II)I"⟩ ⟨"AspenLineModel", "hearersOn", "(II)I"⟩ ∈ TB := tb_s (List.mem_of_getElem? (i := 35) rfl) rfl
theorem tbs36 : Cond.selects "AspenLineModel" ⟨"AspenLineModel", "loudOn", "(III)I"⟩ ⟨"AspenLineModel", "loudOn", "(III)I"⟩ ∈ TB := tb_s (List.mem_of_getElem? (i := 36) rfl) rfl
theorem tbs37 : Cond.selects "AspenLineModel" ⟨"AspenLineModel", "isTree", "(I)Z"⟩ ⟨"AspenLineModel", "isTree", "(I)Z"⟩ ∈ TB := tb_s (List.mem_of_getElem? (i := 37) rfl) rfl
theorem tbs38 : Cond.selects "AspenLineModel" ⟨"AspenLineModel", "isRoot", "(I)Z"⟩ ⟨"AspenLineModel", "isRoot", "(I)Z"⟩ ∈ TB := tb_s (List.mem_of_getElem? (i := 38) rfl) rfl
theorem tbs39 : Cond.selects "AspenLineModel" ⟨"AspenLineModel", "isTalk", "(I)Z"⟩ ⟨"AspenLineModel", "isTalk", "(I)Z"⟩ ∈ TB := tb_s (List.mem_of_getElem? (i := 39) rfl) rfl
theorem tbs40 : Cond.selects "AspenLineModel" ⟨"AspenLineModel", "puts", "(ZII)I"⟩ ⟨"AspenLineModel", "puts", "(ZII)I"⟩ ∈ TB := tb_s (List.mem_of_getElem? (i := 40) rfl) rfl
theorem tbs41 : Cond.selects "AspenLineModel" ⟨"AspenLineModel", "growsOn", "(IIII)V"⟩ ⟨"AspenLineModel", "growsOn", "(IIII)V"⟩ ∈ TB := tb_s (List.mem_of_getElem? (i := 41) rfl) rfl
theorem tbs42 : Cond.selects "AspenLineModel" ⟨"AspenLineModel", "books", "(III)I"⟩ ⟨"AspenLineModel", "books", "(III)I"⟩ ∈ TB := tb_s (List.mem_of_getElem? (i := 42) rfl) rfl
theorem tbs43 : Cond.selects "AspenLineModel" ⟨"AspenLineModel", "isSome", "(I)Z"⟩ ⟨"AspenLineModel", "isSome", "(I)Z"⟩ ∈ TB := tb_s (List.mem_of_getElem? (i := 43) rfl) rfl
theorem tbs44 : Cond.selects "AspenLineModel" ⟨"AspenLineModel", "leastOf", "(II)I"⟩ ⟨"AspenLineModel", "leastOf", "(II)I"⟩ ∈ TB := tb_s (List.mem_of_getElem? (i := 44) rfl) rfl
theorem tbs45 : Cond.selects "AspenLineModel" ⟨"AspenLineModel", "cuts", "(I)Z"⟩ ⟨"AspenLineModel", "cuts", "(I)Z"⟩ ∈ TB := tb_s (List.mem_of_getElem? (i := 45) rfl) rfl
theorem tbs46 : Cond.selects "AspenLineModel" ⟨"AspenLineModel", "copies", "(II)V"⟩ ⟨"AspenLineModel", "copies", "(II)V"⟩ ∈ TB := tb_s (List.mem_of_getElem? (i := 46) rfl) rfl
theorem tbs47 : Cond.selects "AspenLineModel" ⟨"AspenLineModel", "byBeavers", "(IIIII)J"⟩ ⟨"AspenLineModel", "byBeavers", "(IIIII)J"⟩ ∈ TB := tb_s (List.mem_of_getElem? (i := 47) rfl) rfl
theorem tbs48 : Cond.selects "AspenLineModel" ⟨"AspenLineModel", "sayersOn", "(I)I"⟩ ⟨"AspenLineModel", "sayersOn", "(I)I"⟩ ∈ TB := tb_s (List.mem_of_getElem? (i := 48) rfl) rfl
theorem tbs49 : Cond.selects "AspenLineModel" ⟨"AspenLineModel", "breathsOn", "(II)I"⟩ ⟨"AspenLineModel", "breathsOn", "(II)I"⟩ ∈ TB := tb_s (List.mem_of_getElem? (i := 49) rfl) rfl
theorem tbs50 : Cond.selects "AspenLineModel" ⟨"AspenLineModel", "isAsSeen", "(II)Z"⟩ ⟨"AspenLineModel", "isAsSeen", "(II)Z"⟩ ∈ TB := tb_s (List.mem_of_getElem? (i := 50) rfl) rfl
