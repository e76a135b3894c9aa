section
-- ===== PART A: goes FIRST, ahead of the names: the tables' words, and 'selects' of the private methods out of them =====
/-- a private method of a class that the tables say can be made, by its rows of tables_1 -/
def lw_okq (q : MethodName × Nat) : Prop := (q.1.cls ≠ "java/lang/invoke/MethodHandle" ∧ q.1.cls ≠ "java/lang/invoke/VarHandle") ∧ Cond.instantiable q.1.cls q.2 ∈ tables_1 ∧ Cond.privateMethod q.1 ∈ tables_1 ∧ Cond.instanceMethod q.1 ∈ tables_1
theorem lw_p0 : lw_okq (⟨"GriefDoors$Text", "goOn", "()V"⟩, 11) := ⟨⟨by decide +kernel, by decide +kernel⟩, List.mem_of_getElem? (i := 27) (by decide +kernel), List.mem_of_getElem? (i := 306) (by decide +kernel), List.mem_of_getElem? (i := 307) (by decide +kernel)⟩
theorem lw_p1 : lw_okq (⟨"GriefDoors$Text", "readClause", "(I)Z"⟩, 11) := ⟨⟨by decide +kernel, by decide +kernel⟩, List.mem_of_getElem? (i := 27) (by decide +kernel), List.mem_of_getElem? (i := 313) (by decide +kernel), List.mem_of_getElem? (i := 314) (by decide +kernel)⟩
theorem lw_p2 : lw_okq (⟨"GriefDoors$Text", "wordHere", "()I"⟩, 11) := ⟨⟨by decide +kernel, by decide +kernel⟩, List.mem_of_getElem? (i := 27) (by decide +kernel), List.mem_of_getElem? (i := 317) (by decide +kernel), List.mem_of_getElem? (i := 318) (by decide +kernel)⟩
theorem lw_p3 : lw_okq (⟨"GriefDoors$Text", "isSpelledHere", "(Ljava/lang/String;)Z"⟩, 11) := ⟨⟨by decide +kernel, by decide +kernel⟩, List.mem_of_getElem? (i := 27) (by decide +kernel), List.mem_of_getElem? (i := 331) (by decide +kernel), List.mem_of_getElem? (i := 332) (by decide +kernel)⟩
theorem lw_p4 : lw_okq (⟨"GriefDoors$Text", "readHouse", "()Z"⟩, 11) := ⟨⟨by decide +kernel, by decide +kernel⟩, List.mem_of_getElem? (i := 27) (by decide +kernel), List.mem_of_getElem? (i := 383) (by decide +kernel), List.mem_of_getElem? (i := 384) (by decide +kernel)⟩
theorem lw_p5 : lw_okq (⟨"GriefDoors$Text", "readTwo", "(I)Z"⟩, 11) := ⟨⟨by decide +kernel, by decide +kernel⟩, List.mem_of_getElem? (i := 27) (by decide +kernel), List.mem_of_getElem? (i := 387) (by decide +kernel), List.mem_of_getElem? (i := 388) (by decide +kernel)⟩
theorem lw_p6 : lw_okq (⟨"GriefDoors$Text", "numberHere", "()I"⟩, 11) := ⟨⟨by decide +kernel, by decide +kernel⟩, List.mem_of_getElem? (i := 27) (by decide +kernel), List.mem_of_getElem? (i := 391) (by decide +kernel), List.mem_of_getElem? (i := 392) (by decide +kernel)⟩
theorem lw_p7 : lw_okq (⟨"GriefDoors$Text", "addNumber", "(II)V"⟩, 11) := ⟨⟨by decide +kernel, by decide +kernel⟩, List.mem_of_getElem? (i := 27) (by decide +kernel), List.mem_of_getElem? (i := 396) (by decide +kernel), List.mem_of_getElem? (i := 397) (by decide +kernel)⟩
theorem lw_p8 : lw_okq (⟨"GriefDoors$Text", "readOne", "(I)Z"⟩, 11) := ⟨⟨by decide +kernel, by decide +kernel⟩, List.mem_of_getElem? (i := 27) (by decide +kernel), List.mem_of_getElem? (i := 400) (by decide +kernel), List.mem_of_getElem? (i := 401) (by decide +kernel)⟩
theorem lw_p9 : lw_okq (⟨"GriefDoors", "doClause", "(I)V"⟩, 11) := ⟨⟨by decide +kernel, by decide +kernel⟩, List.mem_of_getElem? (i := 19) (by decide +kernel), List.mem_of_getElem? (i := 409) (by decide +kernel), List.mem_of_getElem? (i := 410) (by decide +kernel)⟩
theorem lw_p10 : lw_okq (⟨"GriefDoors", "beginAsTold", "()V"⟩, 11) := ⟨⟨by decide +kernel, by decide +kernel⟩, List.mem_of_getElem? (i := 19) (by decide +kernel), List.mem_of_getElem? (i := 425) (by decide +kernel), List.mem_of_getElem? (i := 426) (by decide +kernel)⟩
theorem lw_p11 : lw_okq (⟨"GriefDoors", "areTwo", "(II)Z"⟩, 11) := ⟨⟨by decide +kernel, by decide +kernel⟩, List.mem_of_getElem? (i := 19) (by decide +kernel), List.mem_of_getElem? (i := 494) (by decide +kernel), List.mem_of_getElem? (i := 495) (by decide +kernel)⟩
theorem lw_p12 : lw_okq (⟨"GriefDoors$Orders", "bestFirst", "(I)I"⟩, 6) := ⟨⟨by decide +kernel, by decide +kernel⟩, List.mem_of_getElem? (i := 182) (by decide +kernel), List.mem_of_getElem? (i := 588) (by decide +kernel), List.mem_of_getElem? (i := 589) (by decide +kernel)⟩
theorem lw_p13 : lw_okq (⟨"GriefDoors$Orders", "brokenFrom", "(II)I"⟩, 6) := ⟨⟨by decide +kernel, by decide +kernel⟩, List.mem_of_getElem? (i := 182) (by decide +kernel), List.mem_of_getElem? (i := 592) (by decide +kernel), List.mem_of_getElem? (i := 593) (by decide +kernel)⟩
theorem lw_p14 : lw_okq (⟨"GriefDoors$Orders", "countUnbrokenWith", "(II)I"⟩, 6) := ⟨⟨by decide +kernel, by decide +kernel⟩, List.mem_of_getElem? (i := 182) (by decide +kernel), List.mem_of_getElem? (i := 614) (by decide +kernel), List.mem_of_getElem? (i := 615) (by decide +kernel)⟩
theorem lw_p15 : lw_okq (⟨"GriefDoors$Sights", "howManySo", "(IILGriefDoors$Griefs;)I"⟩, 4) := ⟨⟨by decide +kernel, by decide +kernel⟩, List.mem_of_getElem? (i := 161) (by decide +kernel), List.mem_of_getElem? (i := 665) (by decide +kernel), List.mem_of_getElem? (i := 666) (by decide +kernel)⟩
def lw_privs_1 : List (MethodName × Nat) := [(⟨"GriefDoors$Text", "goOn", "()V"⟩, 11), (⟨"GriefDoors$Text", "readClause", "(I)Z"⟩, 11), (⟨"GriefDoors$Text", "wordHere", "()I"⟩, 11), (⟨"GriefDoors$Text", "isSpelledHere", "(Ljava/lang/String;)Z"⟩, 11), (⟨"GriefDoors$Text", "readHouse", "()Z"⟩, 11), (⟨"GriefDoors$Text", "readTwo", "(I)Z"⟩, 11), (⟨"GriefDoors$Text", "numberHere", "()I"⟩, 11), (⟨"GriefDoors$Text", "addNumber", "(II)V"⟩, 11), (⟨"GriefDoors$Text", "readOne", "(I)Z"⟩, 11), (⟨"GriefDoors", "doClause", "(I)V"⟩, 11), (⟨"GriefDoors", "beginAsTold", "()V"⟩, 11), (⟨"GriefDoors", "areTwo", "(II)Z"⟩, 11), (⟨"GriefDoors$Orders", "bestFirst", "(I)I"⟩, 6), (⟨"GriefDoors$Orders", "brokenFrom", "(II)I"⟩, 6), (⟨"GriefDoors$Orders", "countUnbrokenWith", "(II)I"⟩, 6), (⟨"GriefDoors$Sights", "howManySo", "(IILGriefDoors$Griefs;)I"⟩, 4)]
theorem lw_r1 : ∀ q ∈ lw_privs_1, lw_okq q := List.forall_mem_cons.mpr ⟨lw_p0, List.forall_mem_cons.mpr ⟨lw_p1, List.forall_mem_cons.mpr ⟨lw_p2, List.forall_mem_cons.mpr ⟨lw_p3, List.forall_mem_cons.mpr ⟨lw_p4, List.forall_mem_cons.mpr ⟨lw_p5, List.forall_mem_cons.mpr ⟨lw_p6, List.forall_mem_cons.mpr ⟨lw_p7, List.forall_mem_cons.mpr ⟨lw_p8, List.forall_mem_cons.mpr ⟨lw_p9, List.forall_mem_cons.mpr ⟨lw_p10, List.forall_mem_cons.mpr ⟨lw_p11, List.forall_mem_cons.mpr ⟨lw_p12, List.forall_mem_cons.mpr ⟨lw_p13, List.forall_mem_cons.mpr ⟨lw_p14, List.forall_mem_cons.mpr ⟨lw_p15, fun _ h => absurd h List.not_mem_nil⟩⟩⟩⟩⟩⟩⟩⟩⟩⟩⟩⟩⟩⟩⟩⟩
theorem lw_p16 : lw_okq (⟨"GriefDoors$Sights", "howManyOf", "(I)I"⟩, 4) := ⟨⟨by decide +kernel, by decide +kernel⟩, List.mem_of_getElem? (i := 161) (by decide +kernel), List.mem_of_getElem? (i := 671) (by decide +kernel), List.mem_of_getElem? (i := 672) (by decide +kernel)⟩
theorem lw_p17 : lw_okq (⟨"GriefDoors$Drawer", "comesBefore", "(IILGriefDoors$People;)Z"⟩, 4) := ⟨⟨by decide +kernel, by decide +kernel⟩, List.mem_of_getElem? (i := 226) (by decide +kernel), List.mem_of_getElem? (i := 722) (by decide +kernel), List.mem_of_getElem? (i := 723) (by decide +kernel)⟩
theorem lw_p18 : lw_okq (⟨"GriefDoors", "drawersThere", "()I"⟩, 11) := ⟨⟨by decide +kernel, by decide +kernel⟩, List.mem_of_getElem? (i := 19) (by decide +kernel), List.mem_of_getElem? (i := 757) (by decide +kernel), List.mem_of_getElem? (i := 758) (by decide +kernel)⟩
theorem lw_p19 : lw_okq (⟨"GriefDoorsModel", "reads", "(Z)Z"⟩, 35) := ⟨⟨by decide +kernel, by decide +kernel⟩, List.mem_of_getElem? (i := 761) (by decide +kernel), List.mem_of_getElem? (i := 889) (by decide +kernel), List.mem_of_getElem? (i := 890) (by decide +kernel)⟩
theorem lw_p20 : lw_okq (⟨"GriefDoorsModel", "nextToken", "()V"⟩, 35) := ⟨⟨by decide +kernel, by decide +kernel⟩, List.mem_of_getElem? (i := 761) (by decide +kernel), List.mem_of_getElem? (i := 893) (by decide +kernel), List.mem_of_getElem? (i := 894) (by decide +kernel)⟩
theorem lw_p21 : lw_okq (⟨"GriefDoorsModel", "readsClause", "()Z"⟩, 35) := ⟨⟨by decide +kernel, by decide +kernel⟩, List.mem_of_getElem? (i := 761) (by decide +kernel), List.mem_of_getElem? (i := 907) (by decide +kernel), List.mem_of_getElem? (i := 908) (by decide +kernel)⟩
theorem lw_p22 : lw_okq (⟨"GriefDoorsModel", "kindHere", "()I"⟩, 35) := ⟨⟨by decide +kernel, by decide +kernel⟩, List.mem_of_getElem? (i := 761) (by decide +kernel), List.mem_of_getElem? (i := 911) (by decide +kernel), List.mem_of_getElem? (i := 912) (by decide +kernel)⟩
theorem lw_p23 : lw_okq (⟨"GriefDoorsModel", "isWord", "([I)Z"⟩, 35) := ⟨⟨by decide +kernel, by decide +kernel⟩, List.mem_of_getElem? (i := 761) (by decide +kernel), List.mem_of_getElem? (i := 915) (by decide +kernel), List.mem_of_getElem? (i := 916) (by decide +kernel)⟩
theorem lw_p24 : lw_okq (⟨"GriefDoorsModel", "readsPerson", "(I)Z"⟩, 35) := ⟨⟨by decide +kernel, by decide +kernel⟩, List.mem_of_getElem? (i := 761) (by decide +kernel), List.mem_of_getElem? (i := 919) (by decide +kernel), List.mem_of_getElem? (i := 920) (by decide +kernel)⟩
theorem lw_p25 : lw_okq (⟨"GriefDoorsModel", "number", "(III)Z"⟩, 35) := ⟨⟨by decide +kernel, by decide +kernel⟩, List.mem_of_getElem? (i := 761) (by decide +kernel), List.mem_of_getElem? (i := 923) (by decide +kernel), List.mem_of_getElem? (i := 924) (by decide +kernel)⟩
theorem lw_p26 : lw_okq (⟨"GriefDoorsModel", "readsHouse", "()Z"⟩, 35) := ⟨⟨by decide +kernel, by decide +kernel⟩, List.mem_of_getElem? (i := 761) (by decide +kernel), List.mem_of_getElem? (i := 927) (by decide +kernel), List.mem_of_getElem? (i := 928) (by decide +kernel)⟩
theorem lw_p27 : lw_okq (⟨"GriefDoorsModel", "readsPair", "()Z"⟩, 35) := ⟨⟨by decide +kernel, by decide +kernel⟩, List.mem_of_getElem? (i := 761) (by decide +kernel), List.mem_of_getElem? (i := 931) (by decide +kernel), List.mem_of_getElem? (i := 932) (by decide +kernel)⟩
theorem lw_p28 : lw_okq (⟨"GriefDoorsModel", "copyRow", "(III)V"⟩, 35) := ⟨⟨by decide +kernel, by decide +kernel⟩, List.mem_of_getElem? (i := 761) (by decide +kernel), List.mem_of_getElem? (i := 939) (by decide +kernel), List.mem_of_getElem? (i := 940) (by decide +kernel)⟩
theorem lw_p29 : lw_okq (⟨"GriefDoorsModel", "isPerson", "(I)Z"⟩, 35) := ⟨⟨by decide +kernel, by decide +kernel⟩, List.mem_of_getElem? (i := 761) (by decide +kernel), List.mem_of_getElem? (i := 947) (by decide +kernel), List.mem_of_getElem? (i := 948) (by decide +kernel)⟩
theorem lw_p30 : lw_okq (⟨"GriefDoorsModel", "load", "(II)I"⟩, 35) := ⟨⟨by decide +kernel, by decide +kernel⟩, List.mem_of_getElem? (i := 761) (by decide +kernel), List.mem_of_getElem? (i := 951) (by decide +kernel), List.mem_of_getElem? (i := 952) (by decide +kernel)⟩
theorem lw_p31 : lw_okq (⟨"GriefDoorsModel", "loadBy", "(III)I"⟩, 35) := ⟨⟨by decide +kernel, by decide +kernel⟩, List.mem_of_getElem? (i := 761) (by decide +kernel), List.mem_of_getElem? (i := 955) (by decide +kernel), List.mem_of_getElem? (i := 956) (by decide +kernel)⟩
def lw_privs_2 : List (MethodName × Nat) := [(⟨"GriefDoors$Sights", "howManyOf", "(I)I"⟩, 4), (⟨"GriefDoors$Drawer", "comesBefore", "(IILGriefDoors$People;)Z"⟩, 4), (⟨"GriefDoors", "drawersThere", "()I"⟩, 11), (⟨"GriefDoorsModel", "reads", "(Z)Z"⟩, 35), (⟨"GriefDoorsModel", "nextToken", "()V"⟩, 35), (⟨"GriefDoorsModel", "readsClause", "()Z"⟩, 35), (⟨"GriefDoorsModel", "kindHere", "()I"⟩, 35), (⟨"GriefDoorsModel", "isWord", "([I)Z"⟩, 35), (⟨"GriefDoorsModel", "readsPerson", "(I)Z"⟩, 35), (⟨"GriefDoorsModel", "number", "(III)Z"⟩, 35), (⟨"GriefDoorsModel", "readsHouse", "()Z"⟩, 35), (⟨"GriefDoorsModel", "readsPair", "()Z"⟩, 35), (⟨"GriefDoorsModel", "copyRow", "(III)V"⟩, 35), (⟨"GriefDoorsModel", "isPerson", "(I)Z"⟩, 35), (⟨"GriefDoorsModel", "load", "(II)I"⟩, 35), (⟨"GriefDoorsModel", "loadBy", "(III)I"⟩, 35)]
theorem lw_r2 : ∀ q ∈ lw_privs_2, lw_okq q := List.forall_mem_cons.mpr ⟨lw_p16, List.forall_mem_cons.mpr ⟨lw_p17, List.forall_mem_cons.mpr ⟨lw_p18, List.forall_mem_cons.mpr ⟨lw_p19, List.forall_mem_cons.mpr ⟨lw_p20, List.forall_mem_cons.mpr ⟨lw_p21, List.forall_mem_cons.mpr ⟨lw_p22, List.forall_mem_cons.mpr ⟨lw_p23, List.forall_mem_cons.mpr ⟨lw_p24, List.forall_mem_cons.mpr ⟨lw_p25, List.forall_mem_cons.mpr ⟨lw_p26, List.forall_mem_cons.mpr ⟨lw_p27, List.forall_mem_cons.mpr ⟨lw_p28, List.forall_mem_cons.mpr ⟨lw_p29, List.forall_mem_cons.mpr ⟨lw_p30, List.forall_mem_cons.mpr ⟨lw_p31, fun _ h => absurd h List.not_mem_nil⟩⟩⟩⟩⟩⟩⟩⟩⟩⟩⟩⟩⟩⟩⟩⟩
theorem lw_p32 : lw_okq (⟨"GriefDoorsModel", "sumOf", "(II)I"⟩, 35) := ⟨⟨by decide +kernel, by decide +kernel⟩, List.mem_of_getElem? (i := 761) (by decide +kernel), List.mem_of_getElem? (i := 959) (by decide +kernel), List.mem_of_getElem? (i := 960) (by decide +kernel)⟩
theorem lw_p33 : lw_okq (⟨"GriefDoorsModel", "greatestOf", "(II)I"⟩, 35) := ⟨⟨by decide +kernel, by decide +kernel⟩, List.mem_of_getElem? (i := 761) (by decide +kernel), List.mem_of_getElem? (i := 963) (by decide +kernel), List.mem_of_getElem? (i := 964) (by decide +kernel)⟩
theorem lw_p34 : lw_okq (⟨"GriefDoorsModel", "placeOf", "(II)I"⟩, 35) := ⟨⟨by decide +kernel, by decide +kernel⟩, List.mem_of_getElem? (i := 761) (by decide +kernel), List.mem_of_getElem? (i := 970) (by decide +kernel), List.mem_of_getElem? (i := 971) (by decide +kernel)⟩
theorem lw_p35 : lw_okq (⟨"GriefDoorsModel", "isAhead", "(III)Z"⟩, 35) := ⟨⟨by decide +kernel, by decide +kernel⟩, List.mem_of_getElem? (i := 761) (by decide +kernel), List.mem_of_getElem? (i := 974) (by decide +kernel), List.mem_of_getElem? (i := 975) (by decide +kernel)⟩
theorem lw_p36 : lw_okq (⟨"GriefDoorsModel", "areTwo", "(II)Z"⟩, 35) := ⟨⟨by decide +kernel, by decide +kernel⟩, List.mem_of_getElem? (i := 761) (by decide +kernel), List.mem_of_getElem? (i := 992) (by decide +kernel), List.mem_of_getElem? (i := 993) (by decide +kernel)⟩
theorem lw_p37 : lw_okq (⟨"GriefDoorsModel", "keepPast", "()V"⟩, 35) := ⟨⟨by decide +kernel, by decide +kernel⟩, List.mem_of_getElem? (i := 761) (by decide +kernel), List.mem_of_getElem? (i := 1005) (by decide +kernel), List.mem_of_getElem? (i := 1006) (by decide +kernel)⟩
theorem lw_p38 : lw_okq (⟨"GriefDoorsModel", "passes", "(I)V"⟩, 35) := ⟨⟨by decide +kernel, by decide +kernel⟩, List.mem_of_getElem? (i := 761) (by decide +kernel), List.mem_of_getElem? (i := 1009) (by decide +kernel), List.mem_of_getElem? (i := 1010) (by decide +kernel)⟩
theorem lw_p39 : lw_okq (⟨"GriefDoorsModel", "fade", "(III)V"⟩, 35) := ⟨⟨by decide +kernel, by decide +kernel⟩, List.mem_of_getElem? (i := 761) (by decide +kernel), List.mem_of_getElem? (i := 1013) (by decide +kernel), List.mem_of_getElem? (i := 1014) (by decide +kernel)⟩
theorem lw_p40 : lw_okq (⟨"GriefDoorsModel", "layTried", "(I)V"⟩, 35) := ⟨⟨by decide +kernel, by decide +kernel⟩, List.mem_of_getElem? (i := 761) (by decide +kernel), List.mem_of_getElem? (i := 1043) (by decide +kernel), List.mem_of_getElem? (i := 1044) (by decide +kernel)⟩
theorem lw_p41 : lw_okq (⟨"GriefDoorsModel", "layOrder", "()V"⟩, 35) := ⟨⟨by decide +kernel, by decide +kernel⟩, List.mem_of_getElem? (i := 761) (by decide +kernel), List.mem_of_getElem? (i := 1068) (by decide +kernel), List.mem_of_getElem? (i := 1069) (by decide +kernel)⟩
theorem lw_p42 : lw_okq (⟨"GriefDoorsModel", "broken", "()I"⟩, 35) := ⟨⟨by decide +kernel, by decide +kernel⟩, List.mem_of_getElem? (i := 761) (by decide +kernel), List.mem_of_getElem? (i := 1072) (by decide +kernel), List.mem_of_getElem? (i := 1073) (by decide +kernel)⟩
theorem lw_p43 : lw_okq (⟨"GriefDoorsModel", "nextOrder", "()Z"⟩, 35) := ⟨⟨by decide +kernel, by decide +kernel⟩, List.mem_of_getElem? (i := 761) (by decide +kernel), List.mem_of_getElem? (i := 1076) (by decide +kernel), List.mem_of_getElem? (i := 1077) (by decide +kernel)⟩
theorem lw_p44 : lw_okq (⟨"GriefDoorsModel", "change", "(II)V"⟩, 35) := ⟨⟨by decide +kernel, by decide +kernel⟩, List.mem_of_getElem? (i := 761) (by decide +kernel), List.mem_of_getElem? (i := 1080) (by decide +kernel), List.mem_of_getElem? (i := 1081) (by decide +kernel)⟩
theorem lw_p45 : lw_okq (⟨"GriefDoorsModel", "countLines", "()V"⟩, 35) := ⟨⟨by decide +kernel, by decide +kernel⟩, List.mem_of_getElem? (i := 761) (by decide +kernel), List.mem_of_getElem? (i := 1088) (by decide +kernel), List.mem_of_getElem? (i := 1089) (by decide +kernel)⟩
theorem lw_p46 : lw_okq (⟨"GriefDoorsModel", "fits", "(II)Z"⟩, 35) := ⟨⟨by decide +kernel, by decide +kernel⟩, List.mem_of_getElem? (i := 761) (by decide +kernel), List.mem_of_getElem? (i := 1101) (by decide +kernel), List.mem_of_getElem? (i := 1102) (by decide +kernel)⟩
theorem lw_p47 : lw_okq (⟨"GriefDoorsModel", "stepBy", "(III)I"⟩, 35) := ⟨⟨by decide +kernel, by decide +kernel⟩, List.mem_of_getElem? (i := 761) (by decide +kernel), List.mem_of_getElem? (i := 1123) (by decide +kernel), List.mem_of_getElem? (i := 1124) (by decide +kernel)⟩
def lw_privs_3 : List (MethodName × Nat) := [(⟨"GriefDoorsModel", "sumOf", "(II)I"⟩, 35), (⟨"GriefDoorsModel", "greatestOf", "(II)I"⟩, 35), (⟨"GriefDoorsModel", "placeOf", "(II)I"⟩, 35), (⟨"GriefDoorsModel", "isAhead", "(III)Z"⟩, 35), (⟨"GriefDoorsModel", "areTwo", "(II)Z"⟩, 35), (⟨"GriefDoorsModel", "keepPast", "()V"⟩, 35), (⟨"GriefDoorsModel", "passes", "(I)V"⟩, 35), (⟨"GriefDoorsModel", "fade", "(III)V"⟩, 35), (⟨"GriefDoorsModel", "layTried", "(I)V"⟩, 35), (⟨"GriefDoorsModel", "layOrder", "()V"⟩, 35), (⟨"GriefDoorsModel", "broken", "()I"⟩, 35), (⟨"GriefDoorsModel", "nextOrder", "()Z"⟩, 35), (⟨"GriefDoorsModel", "change", "(II)V"⟩, 35), (⟨"GriefDoorsModel", "countLines", "()V"⟩, 35), (⟨"GriefDoorsModel", "fits", "(II)Z"⟩, 35), (⟨"GriefDoorsModel", "stepBy", "(III)I"⟩, 35)]
theorem lw_r3 : ∀ q ∈ lw_privs_3, lw_okq q := List.forall_mem_cons.mpr ⟨lw_p32, List.forall_mem_cons.mpr ⟨lw_p33, List.forall_mem_cons.mpr ⟨lw_p34, List.forall_mem_cons.mpr ⟨lw_p35, List.forall_mem_cons.mpr ⟨lw_p36, List.forall_mem_cons.mpr ⟨lw_p37, List.forall_mem_cons.mpr ⟨lw_p38, List.forall_mem_cons.mpr ⟨lw_p39, List.forall_mem_cons.mpr ⟨lw_p40, List.forall_mem_cons.mpr ⟨lw_p41, List.forall_mem_cons.mpr ⟨lw_p42, List.forall_mem_cons.mpr ⟨lw_p43, List.forall_mem_cons.mpr ⟨lw_p44, List.forall_mem_cons.mpr ⟨lw_p45, List.forall_mem_cons.mpr ⟨lw_p46, List.forall_mem_cons.mpr ⟨lw_p47, fun _ h => absurd h List.not_mem_nil⟩⟩⟩⟩⟩⟩⟩⟩⟩⟩⟩⟩⟩⟩⟩⟩
theorem lw_p48 : lw_okq (⟨"GriefDoorsModel", "noPlace", "(II)I"⟩, 35) := ⟨⟨by decide +kernel, by decide +kernel⟩, List.mem_of_getElem? (i := 761) (by decide +kernel), List.mem_of_getElem? (i := 1142) (by decide +kernel), List.mem_of_getElem? (i := 1143) (by decide +kernel)⟩
theorem lw_p49 : lw_okq (⟨"GriefDoorsModel", "isBehind", "(III)Z"⟩, 35) := ⟨⟨by decide +kernel, by decide +kernel⟩, List.mem_of_getElem? (i := 761) (by decide +kernel), List.mem_of_getElem? (i := 1155) (by decide +kernel), List.mem_of_getElem? (i := 1156) (by decide +kernel)⟩
theorem lw_p50 : lw_okq (⟨"GriefDoorsModel", "isSpan", "(III)Z"⟩, 35) := ⟨⟨by decide +kernel, by decide +kernel⟩, List.mem_of_getElem? (i := 761) (by decide +kernel), List.mem_of_getElem? (i := 1163) (by decide +kernel), List.mem_of_getElem? (i := 1164) (by decide +kernel)⟩
theorem lw_p51 : lw_okq (⟨"GriefDoorsModel", "goIn", "()I"⟩, 35) := ⟨⟨by decide +kernel, by decide +kernel⟩, List.mem_of_getElem? (i := 761) (by decide +kernel), List.mem_of_getElem? (i := 1175) (by decide +kernel), List.mem_of_getElem? (i := 1176) (by decide +kernel)⟩
theorem lw_p52 : lw_okq (⟨"GriefDoorsModel", "allLoads", "()I"⟩, 35) := ⟨⟨by decide +kernel, by decide +kernel⟩, List.mem_of_getElem? (i := 761) (by decide +kernel), List.mem_of_getElem? (i := 1179) (by decide +kernel), List.mem_of_getElem? (i := 1180) (by decide +kernel)⟩
theorem lw_p53 : lw_okq (⟨"GriefDoorsModel", "allGriefs", "()I"⟩, 35) := ⟨⟨by decide +kernel, by decide +kernel⟩, List.mem_of_getElem? (i := 761) (by decide +kernel), List.mem_of_getElem? (i := 1183) (by decide +kernel), List.mem_of_getElem? (i := 1184) (by decide +kernel)⟩
theorem lw_p54 : lw_okq (⟨"GriefDoorsModel", "drawersThere", "()I"⟩, 35) := ⟨⟨by decide +kernel, by decide +kernel⟩, List.mem_of_getElem? (i := 761) (by decide +kernel), List.mem_of_getElem? (i := 1187) (by decide +kernel), List.mem_of_getElem? (i := 1188) (by decide +kernel)⟩
def lw_privs_4 : List (MethodName × Nat) := [(⟨"GriefDoorsModel", "noPlace", "(II)I"⟩, 35), (⟨"GriefDoorsModel", "isBehind", "(III)Z"⟩, 35), (⟨"GriefDoorsModel", "isSpan", "(III)Z"⟩, 35), (⟨"GriefDoorsModel", "goIn", "()I"⟩, 35), (⟨"GriefDoorsModel", "allLoads", "()I"⟩, 35), (⟨"GriefDoorsModel", "allGriefs", "()I"⟩, 35), (⟨"GriefDoorsModel", "drawersThere", "()I"⟩, 35)]
theorem lw_r4 : ∀ q ∈ lw_privs_4, lw_okq q := List.forall_mem_cons.mpr ⟨lw_p48, List.forall_mem_cons.mpr ⟨lw_p49, List.forall_mem_cons.mpr ⟨lw_p50, List.forall_mem_cons.mpr ⟨lw_p51, List.forall_mem_cons.mpr ⟨lw_p52, List.forall_mem_cons.mpr ⟨lw_p53, List.forall_mem_cons.mpr ⟨lw_p54, fun _ h => absurd h List.not_mem_nil⟩⟩⟩⟩⟩⟩⟩
def lw_privs : List (MethodName × Nat) := lw_privs_1 ++ (lw_privs_2 ++ (lw_privs_3 ++ (lw_privs_4)))
def lw_tbl : List Cond := k2_sels lw_privs ++ tables_1
theorem lw_privs_ok : ∀ q ∈ lw_privs, lw_okq q := by
  show ∀ q ∈ lw_privs_1 ++ (lw_privs_2 ++ (lw_privs_3 ++ (lw_privs_4))), lw_okq q
  exact List.forall_mem_append.mpr ⟨lw_r1, List.forall_mem_append.mpr ⟨lw_r2, List.forall_mem_append.mpr ⟨lw_r3, lw_r4⟩⟩⟩
-- ===== end of PART A; then your names; then what follows =====
def RX0 : String := "GriefDoors$Drawer"
def TX0 : u_T := fun k => match k with
  | 0 => ("GriefDoors$Drawer", "isThere", "Z", false)
  | 1 => ("GriefDoors$Drawer", "places", "I", false)
  | 2 => ("GriefDoors$Drawer", "sorts", "[I", true)
  | _ => ("GriefDoors$Drawer", "values", "[I", true)
def tyX0 : Nat → FieldType := fun k => match k with
  | 0 => .boolean
  | 1 => .int
  | 2 => .array .int
  | _ => .array .int
abbrev wsX00 : List Cond := u_ws RX0 TX0 4
theorem nmX0 : ∀ a, a < 4 → ∀ b, b < 4 → a ≠ b → (TX0 a).2.1 ≠ (TX0 b).2.1 := by decide +kernel
theorem tyX0_ok : ∀ k, k < 4 → parseFieldDescriptor (TX0 k).2.2.1 = some (tyX0 k) := by decide +kernel
abbrev cX0_init : ByteArray := prog_2_method_1_code
def yX0_init : MethodName := ⟨RX0, "<init>", "()V"⟩
abbrev cX0_renew : ByteArray := prog_2_method_2_code
def yX0_renew : MethodName := ⟨RX0, "renew", "(I)V"⟩
abbrev cX0_hasPlace : ByteArray := prog_2_method_3_code
def yX0_hasPlace : MethodName := ⟨RX0, "hasPlace", "(I)Z"⟩
abbrev cX0_hasPlaces : ByteArray := prog_2_method_4_code
def yX0_hasPlaces : MethodName := ⟨RX0, "hasPlaces", "(II)Z"⟩
abbrev cX0_howManyThings : ByteArray := prog_2_method_5_code
def yX0_howManyThings : MethodName := ⟨RX0, "howManyThings", "()I"⟩
abbrev cX0_isOfLikeThings : ByteArray := prog_2_method_6_code
def yX0_isOfLikeThings : MethodName := ⟨RX0, "isOfLikeThings", "()Z"⟩
abbrev cX0_sort : ByteArray := prog_2_method_7_code
def yX0_sort : MethodName := ⟨RX0, "sort", "(LGriefDoors$People;)V"⟩
abbrev cX0_comesBefore : ByteArray := prog_2_method_8_code
def yX0_comesBefore : MethodName := ⟨RX0, "comesBefore", "(IILGriefDoors$People;)Z"⟩
def RX1 : String := "GriefDoors$Griefs"
def TX1 : u_T := fun k => match k with
  | 0 => ("GriefDoors$Griefs", "lent", "I", false)
  | 1 => ("GriefDoors$Griefs", "many", "[I", true)
  | _ => ("GriefDoors$Griefs", "weights", "[I", true)
def tyX1 : Nat → FieldType := fun k => match k with
  | 0 => .int
  | 1 => .array .int
  | _ => .array .int
abbrev wsX10 : List Cond := u_ws RX1 TX1 3
theorem nmX1 : ∀ a, a < 3 → ∀ b, b < 3 → a ≠ b → (TX1 a).2.1 ≠ (TX1 b).2.1 := by decide +kernel
theorem tyX1_ok : ∀ k, k < 3 → parseFieldDescriptor (TX1 k).2.2.1 = some (tyX1 k) := by decide +kernel
abbrev cX1_init : ByteArray := prog_3_method_1_code
def yX1_init : MethodName := ⟨RX1, "<init>", "()V"⟩
abbrev cX1_become : ByteArray := prog_3_method_2_code
def yX1_become : MethodName := ⟨RX1, "become", "(LGriefDoors$Griefs;)V"⟩
abbrev cX1_weight : ByteArray := prog_3_method_3_code
def yX1_weight : MethodName := ⟨RX1, "weight", "(II)I"⟩
abbrev cX1_append : ByteArray := prog_3_method_4_code
def yX1_append : MethodName := ⟨RX1, "append", "(II)V"⟩
abbrev cX1_removeGreatest : ByteArray := prog_3_method_5_code
def yX1_removeGreatest : MethodName := ⟨RX1, "removeGreatest", "(I)I"⟩
abbrev cX1_fade : ByteArray := prog_3_method_6_code
def yX1_fade : MethodName := ⟨RX1, "fade", "(II)V"⟩
abbrev cX1_loadAs : ByteArray := prog_3_method_7_code
def yX1_loadAs : MethodName := ⟨RX1, "loadAs", "(III)I"⟩
def RX2 : String := "GriefDoors$Lodging"
def TX2 : u_T := fun k => match k with
  | 0 => ("GriefDoors$Lodging", "loads", "[I", true)
  | 1 => ("GriefDoors$Lodging", "roomOf", "[I", true)
  | _ => ("GriefDoors$Lodging", "filled", "[I", true)
def tyX2 : Nat → FieldType := fun k => match k with
  | 0 => .array .int
  | 1 => .array .int
  | _ => .array .int
abbrev wsX20 : List Cond := u_ws RX2 TX2 3
theorem nmX2 : ∀ a, a < 3 → ∀ b, b < 3 → a ≠ b → (TX2 a).2.1 ≠ (TX2 b).2.1 := by decide +kernel
theorem tyX2_ok : ∀ k, k < 3 → parseFieldDescriptor (TX2 k).2.2.1 = some (tyX2 k) := by decide +kernel
abbrev cX2_init : ByteArray := prog_4_method_1_code
def yX2_init : MethodName := ⟨RX2, "<init>", "()V"⟩
abbrev cX2_settle : ByteArray := prog_4_method_2_code
def yX2_settle : MethodName := ⟨RX2, "settle", "(LGriefDoors$People;I)I"⟩
abbrev cX2_settleFrom : ByteArray := prog_4_method_3_code
def yX2_settleFrom : MethodName := ⟨RX2, "settleFrom", "(LGriefDoors$Lodging;IIIII)Z"⟩
def RX3 : String := "GriefDoors$Orders"
def TX3 : u_T := fun k => match k with
  | 0 => ("GriefDoors$Orders", "people", "I", false)
  | 1 => ("GriefDoors$Orders", "told", "[I", true)
  | 2 => ("GriefDoors$Orders", "aheadOf", "[I", true)
  | 3 => ("GriefDoors$Orders", "leastBroken", "[I", true)
  | 4 => ("GriefDoors$Orders", "unbroken", "[I", true)
  | _ => ("GriefDoors$Orders", "ranking", "[I", true)
def tyX3 : Nat → FieldType := fun k => match k with
  | 0 => .int
  | 1 => .array .int
  | 2 => .array .int
  | 3 => .array .int
  | 4 => .array .int
  | _ => .array .int
abbrev wsX30 : List Cond := u_ws RX3 TX3 6
theorem nmX3 : ∀ a, a < 6 → ∀ b, b < 6 → a ≠ b → (TX3 a).2.1 ≠ (TX3 b).2.1 := by decide +kernel
theorem tyX3_ok : ∀ k, k < 6 → parseFieldDescriptor (TX3 k).2.2.1 = some (tyX3 k) := by decide +kernel
abbrev cX3_init : ByteArray := prog_5_method_1_code
def yX3_init : MethodName := ⟨RX3, "<init>", "()V"⟩
abbrev cX3_learn : ByteArray := prog_5_method_2_code
def yX3_learn : MethodName := ⟨RX3, "learn", "(ILGriefDoors$Pairs;)V"⟩
abbrev cX3_rank : ByteArray := prog_5_method_3_code
def yX3_rank : MethodName := ⟨RX3, "rank", "()I"⟩
abbrev cX3_bestFirst : ByteArray := prog_5_method_4_code
def yX3_bestFirst : MethodName := ⟨RX3, "bestFirst", "(I)I"⟩
abbrev cX3_brokenFrom : ByteArray := prog_5_method_5_code
def yX3_brokenFrom : MethodName := ⟨RX3, "brokenFrom", "(II)I"⟩
abbrev cX3_countUnbroken : ByteArray := prog_5_method_6_code
def yX3_countUnbroken : MethodName := ⟨RX3, "countUnbroken", "()I"⟩
abbrev cX3_bestQuestion : ByteArray := prog_5_method_7_code
def yX3_bestQuestion : MethodName := ⟨RX3, "bestQuestion", "()I"⟩
abbrev cX3_countUnbrokenWith : ByteArray := prog_5_method_8_code
def yX3_countUnbrokenWith : MethodName := ⟨RX3, "countUnbrokenWith", "(II)I"⟩
def RX4 : String := "GriefDoors$Pairs"
def TX4 : u_T := fun k => match k with
  | 0 => ("GriefDoors$Pairs", "many", "I", false)
  | 1 => ("GriefDoors$Pairs", "first", "[I", true)
  | _ => ("GriefDoors$Pairs", "second", "[I", true)
def tyX4 : Nat → FieldType := fun k => match k with
  | 0 => .int
  | 1 => .array .int
  | _ => .array .int
abbrev wsX40 : List Cond := u_ws RX4 TX4 3
theorem nmX4 : ∀ a, a < 3 → ∀ b, b < 3 → a ≠ b → (TX4 a).2.1 ≠ (TX4 b).2.1 := by decide +kernel
theorem tyX4_ok : ∀ k, k < 3 → parseFieldDescriptor (TX4 k).2.2.1 = some (tyX4 k) := by decide +kernel
abbrev cX4_init : ByteArray := prog_6_method_1_code
def yX4_init : MethodName := ⟨RX4, "<init>", "()V"⟩
abbrev cX4_become : ByteArray := prog_6_method_2_code
def yX4_become : MethodName := ⟨RX4, "become", "(LGriefDoors$Pairs;)V"⟩
abbrev cX4_append : ByteArray := prog_6_method_3_code
def yX4_append : MethodName := ⟨RX4, "append", "(II)V"⟩
def RX5 : String := "GriefDoors$People"
def TX5 : u_T := fun k => match k with
  | 0 => ("GriefDoors$People", "many", "I", false)
  | 1 => ("GriefDoors$People", "kindOf", "[I", true)
  | 2 => ("GriefDoors$People", "now", "LGriefDoors$Griefs;", true)
  | _ => ("GriefDoors$People", "told", "LGriefDoors$Griefs;", true)
def tyX5 : Nat → FieldType := fun k => match k with
  | 0 => .int
  | 1 => .array .int
  | 2 => .object "GriefDoors$Griefs"
  | _ => .object "GriefDoors$Griefs"
abbrev wsX50 : List Cond := u_ws RX5 TX5 4
theorem nmX5 : ∀ a, a < 4 → ∀ b, b < 4 → a ≠ b → (TX5 a).2.1 ≠ (TX5 b).2.1 := by decide +kernel
theorem tyX5_ok : ∀ k, k < 4 → parseFieldDescriptor (TX5 k).2.2.1 = some (tyX5 k) := by decide +kernel
abbrev cX5_init : ByteArray := prog_7_method_1_code
def yX5_init : MethodName := ⟨RX5, "<init>", "()V"⟩
abbrev cX5_has : ByteArray := prog_7_method_2_code
def yX5_has : MethodName := ⟨RX5, "has", "(I)Z"⟩
abbrev cX5_tell : ByteArray := prog_7_method_3_code
def yX5_tell : MethodName := ⟨RX5, "tell", "(I[III)V"⟩
abbrev cX5_passLents : ByteArray := prog_7_method_4_code
def yX5_passLents : MethodName := ⟨RX5, "passLents", "(I)V"⟩
abbrev cX5_load : ByteArray := prog_7_method_5_code
def yX5_load : MethodName := ⟨RX5, "load", "(II)I"⟩
abbrev cX5_isAhead : ByteArray := prog_7_method_6_code
def yX5_isAhead : MethodName := ⟨RX5, "isAhead", "(III)Z"⟩
abbrev cX5_placeOf : ByteArray := prog_7_method_7_code
def yX5_placeOf : MethodName := ⟨RX5, "placeOf", "(II)I"⟩
abbrev cX5_howManyGoIn : ByteArray := prog_7_method_8_code
def yX5_howManyGoIn : MethodName := ⟨RX5, "howManyGoIn", "()I"⟩
abbrev cX5_allLoads : ByteArray := prog_7_method_9_code
def yX5_allLoads : MethodName := ⟨RX5, "allLoads", "()I"⟩
abbrev cX5_allGriefs : ByteArray := prog_7_method_10_code
def yX5_allGriefs : MethodName := ⟨RX5, "allGriefs", "()I"⟩
def RX6 : String := "GriefDoors$Sights"
def TX6 : u_T := fun k => match k with
  | 0 => ("GriefDoors$Sights", "many", "I", false)
  | 1 => ("GriefDoors$Sights", "whose", "[I", true)
  | 2 => ("GriefDoors$Sights", "lents", "[I", true)
  | _ => ("GriefDoors$Sights", "steps", "[I", true)
def tyX6 : Nat → FieldType := fun k => match k with
  | 0 => .int
  | 1 => .array .int
  | 2 => .array .int
  | _ => .array .int
abbrev wsX60 : List Cond := u_ws RX6 TX6 4
theorem nmX6 : ∀ a, a < 4 → ∀ b, b < 4 → a ≠ b → (TX6 a).2.1 ≠ (TX6 b).2.1 := by decide +kernel
theorem tyX6_ok : ∀ k, k < 4 → parseFieldDescriptor (TX6 k).2.2.1 = some (tyX6 k) := by decide +kernel
abbrev cX6_init : ByteArray := prog_8_method_1_code
def yX6_init : MethodName := ⟨RX6, "<init>", "()V"⟩
abbrev cX6_append : ByteArray := prog_8_method_2_code
def yX6_append : MethodName := ⟨RX6, "append", "(III)V"⟩
abbrev cX6_possibleKinds : ByteArray := prog_8_method_3_code
def yX6_possibleKinds : MethodName := ⟨RX6, "possibleKinds", "(ILGriefDoors$Griefs;)I"⟩
abbrev cX6_likeliestKind : ByteArray := prog_8_method_4_code
def yX6_likeliestKind : MethodName := ⟨RX6, "likeliestKind", "(ILGriefDoors$Griefs;)I"⟩
abbrev cX6_howManyOf : ByteArray := prog_8_method_5_code
def yX6_howManyOf : MethodName := ⟨RX6, "howManyOf", "(I)I"⟩
abbrev cX6_howManySo : ByteArray := prog_8_method_6_code
def yX6_howManySo : MethodName := ⟨RX6, "howManySo", "(IILGriefDoors$Griefs;)I"⟩
def RX7 : String := "GriefDoors$Text"
def TX7 : u_T := fun k => match k with
  | 0 => ("GriefDoors$Text", "letters", "[I", true)
  | 1 => ("GriefDoors$Text", "length", "I", false)
  | 2 => ("GriefDoors$Text", "clauses", "I", false)
  | 3 => ("GriefDoors$Text", "words", "[I", true)
  | 4 => ("GriefDoors$Text", "counts", "[I", true)
  | 5 => ("GriefDoors$Text", "numbers", "[I", true)
  | 6 => ("GriefDoors$Text", "peopleTold", "I", false)
  | 7 => ("GriefDoors$Text", "pairsTold", "I", false)
  | 8 => ("GriefDoors$Text", "tokenStart", "I", false)
  | 9 => ("GriefDoors$Text", "tokenEnd", "I", false)
  | _ => ("GriefDoors$Text", "tokenSort", "I", false)
def tyX7 : Nat → FieldType := fun k => match k with
  | 0 => .array .int
  | 1 => .int
  | 2 => .int
  | 3 => .array .int
  | 4 => .array .int
  | 5 => .array .int
  | 6 => .int
  | 7 => .int
  | 8 => .int
  | 9 => .int
  | _ => .int
abbrev wsX70 : List Cond := u_ws RX7 TX7 11
theorem nmX7 : ∀ a, a < 11 → ∀ b, b < 11 → a ≠ b → (TX7 a).2.1 ≠ (TX7 b).2.1 := by decide +kernel
theorem tyX7_ok : ∀ k, k < 11 → parseFieldDescriptor (TX7 k).2.2.1 = some (tyX7 k) := by decide +kernel
abbrev cX7_init : ByteArray := prog_9_method_1_code
def yX7_init : MethodName := ⟨RX7, "<init>", "()V"⟩
abbrev cX7_append : ByteArray := prog_9_method_2_code
def yX7_append : MethodName := ⟨RX7, "append", "(I)V"⟩
abbrev cX7_read : ByteArray := prog_9_method_3_code
def yX7_read : MethodName := ⟨RX7, "read", "(II)I"⟩
abbrev cX7_readClause : ByteArray := prog_9_method_4_code
def yX7_readClause : MethodName := ⟨RX7, "readClause", "(I)Z"⟩
abbrev cX7_readHouse : ByteArray := prog_9_method_5_code
def yX7_readHouse : MethodName := ⟨RX7, "readHouse", "()Z"⟩
abbrev cX7_readOne : ByteArray := prog_9_method_6_code
def yX7_readOne : MethodName := ⟨RX7, "readOne", "(I)Z"⟩
abbrev cX7_readTwo : ByteArray := prog_9_method_7_code
def yX7_readTwo : MethodName := ⟨RX7, "readTwo", "(I)Z"⟩
abbrev cX7_addNumber : ByteArray := prog_9_method_8_code
def yX7_addNumber : MethodName := ⟨RX7, "addNumber", "(II)V"⟩
abbrev cX7_goOn : ByteArray := prog_9_method_9_code
def yX7_goOn : MethodName := ⟨RX7, "goOn", "()V"⟩
abbrev cX7_sortOf : ByteArray := prog_9_method_10_code
def yX7_sortOf : MethodName := ⟨RX7, "sortOf", "(I)I"⟩
abbrev cX7_numberHere : ByteArray := prog_9_method_11_code
def yX7_numberHere : MethodName := ⟨RX7, "numberHere", "()I"⟩
abbrev cX7_wordHere : ByteArray := prog_9_method_12_code
def yX7_wordHere : MethodName := ⟨RX7, "wordHere", "()I"⟩
abbrev cX7_isSpelledHere : ByteArray := prog_9_method_13_code
def yX7_isSpelledHere : MethodName := ⟨RX7, "isSpelledHere", "(Ljava/lang/String;)Z"⟩
abbrev cX7_spelling : ByteArray := prog_9_method_14_code
def yX7_spelling : MethodName := ⟨RX7, "spelling", "(I)Ljava/lang/String;"⟩
def RX8 : String := "GriefDoors$Undos"
def TX8 : u_T := fun k => match k with
  | 0 => ("GriefDoors$Undos", "many", "I", false)
  | 1 => ("GriefDoors$Undos", "latest", "I", false)
  | _ => ("GriefDoors$Undos", "past", "[LGriefDoors$Griefs;", true)
def tyX8 : Nat → FieldType := fun k => match k with
  | 0 => .int
  | 1 => .int
  | _ => .array (.object "GriefDoors$Griefs")
abbrev wsX80 : List Cond := u_ws RX8 TX8 3
theorem nmX8 : ∀ a, a < 3 → ∀ b, b < 3 → a ≠ b → (TX8 a).2.1 ≠ (TX8 b).2.1 := by decide +kernel
theorem tyX8_ok : ∀ k, k < 3 → parseFieldDescriptor (TX8 k).2.2.1 = some (tyX8 k) := by decide +kernel
abbrev cX8_init : ByteArray := prog_10_method_1_code
def yX8_init : MethodName := ⟨RX8, "<init>", "()V"⟩
abbrev cX8_remember : ByteArray := prog_10_method_2_code
def yX8_remember : MethodName := ⟨RX8, "remember", "(LGriefDoors$Griefs;)V"⟩
abbrev cX8_restore : ByteArray := prog_10_method_3_code
def yX8_restore : MethodName := ⟨RX8, "restore", "(LGriefDoors$Griefs;)V"⟩
def RX9 : String := "GriefDoors"
def TX9 : u_T := fun k => match k with
  | 0 => ("GriefDoors", "text", "LGriefDoors$Text;", true)
  | 1 => ("GriefDoors", "people", "LGriefDoors$People;", true)
  | 2 => ("GriefDoors", "pairs", "LGriefDoors$Pairs;", true)
  | 3 => ("GriefDoors", "pairsTold", "LGriefDoors$Pairs;", true)
  | 4 => ("GriefDoors", "undos", "LGriefDoors$Undos;", true)
  | 5 => ("GriefDoors", "keepings", "[LGriefDoors$Griefs;", true)
  | 6 => ("GriefDoors", "isKept", "[Z", true)
  | 7 => ("GriefDoors", "sights", "LGriefDoors$Sights;", true)
  | 8 => ("GriefDoors", "orders", "LGriefDoors$Orders;", true)
  | 9 => ("GriefDoors", "lodging", "LGriefDoors$Lodging;", true)
  | _ => ("GriefDoors", "drawers", "[LGriefDoors$Drawer;", true)
def tyX9 : Nat → FieldType := fun k => match k with
  | 0 => .object "GriefDoors$Text"
  | 1 => .object "GriefDoors$People"
  | 2 => .object "GriefDoors$Pairs"
  | 3 => .object "GriefDoors$Pairs"
  | 4 => .object "GriefDoors$Undos"
  | 5 => .array (.object "GriefDoors$Griefs")
  | 6 => .array .boolean
  | 7 => .object "GriefDoors$Sights"
  | 8 => .object "GriefDoors$Orders"
  | 9 => .object "GriefDoors$Lodging"
  | _ => .array (.object "GriefDoors$Drawer")
abbrev wsX90 : List Cond := u_ws RX9 TX9 11
theorem nmX9 : ∀ a, a < 11 → ∀ b, b < 11 → a ≠ b → (TX9 a).2.1 ≠ (TX9 b).2.1 := by decide +kernel
theorem tyX9_ok : ∀ k, k < 11 → parseFieldDescriptor (TX9 k).2.2.1 = some (tyX9 k) := by decide +kernel
abbrev cX9_init : ByteArray := prog_1_method_1_code
def yX9_init : MethodName := ⟨RX9, "<init>", "()V"⟩
abbrev cX9_write : ByteArray := prog_1_method_2_code
def yX9_write : MethodName := ⟨RX9, "write", "(I)I"⟩
abbrev cX9_erase : ByteArray := prog_1_method_3_code
def yX9_erase : MethodName := ⟨RX9, "erase", "()I"⟩
abbrev cX9_fault : ByteArray := prog_1_method_4_code
def yX9_fault : MethodName := ⟨RX9, "fault", "()I"⟩
abbrev cX9_house : ByteArray := prog_1_method_5_code
def yX9_house : MethodName := ⟨RX9, "house", "()I"⟩
abbrev cX9_person : ByteArray := prog_1_method_6_code
def yX9_person : MethodName := ⟨RX9, "person", "(II)I"⟩
abbrev cX9_grief : ByteArray := prog_1_method_7_code
def yX9_grief : MethodName := ⟨RX9, "grief", "(II)I"⟩
abbrev cX9_as : ByteArray := prog_1_method_8_code
def yX9_as : MethodName := ⟨RX9, "as", "(II)I"⟩
abbrev cX9_pair : ByteArray := prog_1_method_9_code
def yX9_pair : MethodName := ⟨RX9, "pair", "(II)I"⟩
abbrev cX9_unpair : ByteArray := prog_1_method_10_code
def yX9_unpair : MethodName := ⟨RX9, "unpair", "()I"⟩
abbrev cX9_lent : ByteArray := prog_1_method_11_code
def yX9_lent : MethodName := ⟨RX9, "lent", "(I)I"⟩
abbrev cX9_grieve : ByteArray := prog_1_method_12_code
def yX9_grieve : MethodName := ⟨RX9, "grieve", "(II)I"⟩
abbrev cX9_comfort : ByteArray := prog_1_method_13_code
def yX9_comfort : MethodName := ⟨RX9, "comfort", "(I)I"⟩
abbrev cX9_undo : ByteArray := prog_1_method_14_code
def yX9_undo : MethodName := ⟨RX9, "undo", "()I"⟩
abbrev cX9_keep : ByteArray := prog_1_method_15_code
def yX9_keep : MethodName := ⟨RX9, "keep", "(I)I"⟩
abbrev cX9_back : ByteArray := prog_1_method_16_code
def yX9_back : MethodName := ⟨RX9, "back", "(I)I"⟩
abbrev cX9_behind : ByteArray := prog_1_method_17_code
def yX9_behind : MethodName := ⟨RX9, "behind", "(III)I"⟩
abbrev cX9_enters : ByteArray := prog_1_method_18_code
def yX9_enters : MethodName := ⟨RX9, "enters", "(II)I"⟩
abbrev cX9_ahead : ByteArray := prog_1_method_19_code
def yX9_ahead : MethodName := ⟨RX9, "ahead", "(II)I"⟩
abbrev cX9_wrong : ByteArray := prog_1_method_20_code
def yX9_wrong : MethodName := ⟨RX9, "wrong", "()I"⟩
abbrev cX9_ranked : ByteArray := prog_1_method_21_code
def yX9_ranked : MethodName := ⟨RX9, "ranked", "(I)I"⟩
abbrev cX9_lines : ByteArray := prog_1_method_22_code
def yX9_lines : MethodName := ⟨RX9, "lines", "()I"⟩
abbrev cX9_next : ByteArray := prog_1_method_23_code
def yX9_next : MethodName := ⟨RX9, "next", "()I"⟩
abbrev cX9_rooms : ByteArray := prog_1_method_24_code
def yX9_rooms : MethodName := ⟨RX9, "rooms", "(II)I"⟩
abbrev cX9_misread : ByteArray := prog_1_method_25_code
def yX9_misread : MethodName := ⟨RX9, "misread", "(IIII)I"⟩
abbrev cX9_seen : ByteArray := prog_1_method_26_code
def yX9_seen : MethodName := ⟨RX9, "seen", "(III)I"⟩
abbrev cX9_forget : ByteArray := prog_1_method_27_code
def yX9_forget : MethodName := ⟨RX9, "forget", "()I"⟩
abbrev cX9_kinds : ByteArray := prog_1_method_28_code
def yX9_kinds : MethodName := ⟨RX9, "kinds", "(II)I"⟩
abbrev cX9_drawer : ByteArray := prog_1_method_29_code
def yX9_drawer : MethodName := ⟨RX9, "drawer", "(II)I"⟩
abbrev cX9_put : ByteArray := prog_1_method_30_code
def yX9_put : MethodName := ⟨RX9, "put", "(IIII)I"⟩
abbrev cX9_take : ByteArray := prog_1_method_31_code
def yX9_take : MethodName := ⟨RX9, "take", "(III)I"⟩
abbrev cX9_tidy : ByteArray := prog_1_method_32_code
def yX9_tidy : MethodName := ⟨RX9, "tidy", "(I)I"⟩
abbrev cX9_copy : ByteArray := prog_1_method_33_code
def yX9_copy : MethodName := ⟨RX9, "copy", "(IIIII)I"⟩
abbrev cX9_drop : ByteArray := prog_1_method_34_code
def yX9_drop : MethodName := ⟨RX9, "drop", "(I)I"⟩
abbrev cX9_count : ByteArray := prog_1_method_35_code
def yX9_count : MethodName := ⟨RX9, "count", "(I)I"⟩
abbrev cX9_doClause : ByteArray := prog_1_method_36_code
def yX9_doClause : MethodName := ⟨RX9, "doClause", "(I)V"⟩
abbrev cX9_beginAsTold : ByteArray := prog_1_method_37_code
def yX9_beginAsTold : MethodName := ⟨RX9, "beginAsTold", "()V"⟩
abbrev cX9_areTwo : ByteArray := prog_1_method_38_code
def yX9_areTwo : MethodName := ⟨RX9, "areTwo", "(II)Z"⟩
abbrev cX9_drawersThere : ByteArray := prog_1_method_39_code
def yX9_drawersThere : MethodName := ⟨RX9, "drawersThere", "()I"⟩
abbrev cX9_isWithin : ByteArray := prog_1_method_40_code
def yX9_isWithin : MethodName := ⟨RX9, "isWithin", "(III)Z"⟩
abbrev cX9_isDrawer : ByteArray := prog_1_method_41_code
def yX9_isDrawer : MethodName := ⟨RX9, "isDrawer", "(I)Z"⟩
abbrev cX9_canBePut : ByteArray := prog_1_method_42_code
def yX9_canBePut : MethodName := ⟨RX9, "canBePut", "(II)Z"⟩
abbrev cX9_isSuch : ByteArray := prog_1_method_43_code
def yX9_isSuch : MethodName := ⟨RX9, "isSuch", "(II)Z"⟩
abbrev cX9_stepOf : ByteArray := prog_1_method_44_code
def yX9_stepOf : MethodName := ⟨RX9, "stepOf", "(I)I"⟩
abbrev cX9_readingsAsGreater : ByteArray := prog_1_method_45_code
def yX9_readingsAsGreater : MethodName := ⟨RX9, "readingsAsGreater", "(II)I"⟩
abbrev cX9_readingsOff : ByteArray := prog_1_method_46_code
def yX9_readingsOff : MethodName := ⟨RX9, "readingsOff", "(II)I"⟩
abbrev cX9_commonDivisor : ByteArray := prog_1_method_47_code
def yX9_commonDivisor : MethodName := ⟨RX9, "commonDivisor", "(II)I"⟩
def RX10 : String := "GriefDoorsModel"
def TX10 : u_T := fun k => match k with
  | 0 => ("GriefDoorsModel", "row", "[I", true)
  | 1 => ("GriefDoorsModel", "undos", "I", false)
  | 2 => ("GriefDoorsModel", "isKept", "[Z", true)
  | 3 => ("GriefDoorsModel", "text", "[I", true)
  | 4 => ("GriefDoorsModel", "length", "I", false)
  | 5 => ("GriefDoorsModel", "seenMany", "I", false)
  | 6 => ("GriefDoorsModel", "seenPerson", "[I", true)
  | 7 => ("GriefDoorsModel", "seenLents", "[I", true)
  | 8 => ("GriefDoorsModel", "seenStep", "[I", true)
  | 9 => ("GriefDoorsModel", "sizes", "[I", true)
  | 10 => ("GriefDoorsModel", "sorts", "[I", true)
  | 11 => ("GriefDoorsModel", "values", "[I", true)
  | 12 => ("GriefDoorsModel", "first", "I", false)
  | 13 => ("GriefDoorsModel", "behind", "I", false)
  | 14 => ("GriefDoorsModel", "readPeople", "I", false)
  | 15 => ("GriefDoorsModel", "readPairs", "I", false)
  | 16 => ("GriefDoorsModel", "clauses", "I", false)
  | 17 => ("GriefDoorsModel", "doing", "Z", false)
  | 18 => ("GriefDoorsModel", "numbers", "[I", true)
  | 19 => ("GriefDoorsModel", "houseWord", "[I", true)
  | 20 => ("GriefDoorsModel", "guestWord", "[I", true)
  | 21 => ("GriefDoorsModel", "widowWord", "[I", true)
  | 22 => ("GriefDoorsModel", "generalWord", "[I", true)
  | 23 => ("GriefDoorsModel", "childWord", "[I", true)
  | 24 => ("GriefDoorsModel", "saintWord", "[I", true)
  | 25 => ("GriefDoorsModel", "pairWord", "[I", true)
  | 26 => ("GriefDoorsModel", "order", "[I", true)
  | 27 => ("GriefDoorsModel", "places", "[I", true)
  | 28 => ("GriefDoorsModel", "best", "[I", true)
  | 29 => ("GriefDoorsModel", "oftenAhead", "[I", true)
  | 30 => ("GriefDoorsModel", "linesMany", "I", false)
  | 31 => ("GriefDoorsModel", "roomOf", "[I", true)
  | 32 => ("GriefDoorsModel", "roomLoads", "[I", true)
  | 33 => ("GriefDoorsModel", "movedSorts", "[I", true)
  | _ => ("GriefDoorsModel", "movedValues", "[I", true)
def tyX10 : Nat → FieldType := fun k => match k with
  | 0 => .array .int
  | 1 => .int
  | 2 => .array .boolean
  | 3 => .array .int
  | 4 => .int
  | 5 => .int
  | 6 => .array .int
  | 7 => .array .int
  | 8 => .array .int
  | 9 => .array .int
  | 10 => .array .int
  | 11 => .array .int
  | 12 => .int
  | 13 => .int
  | 14 => .int
  | 15 => .int
  | 16 => .int
  | 17 => .boolean
  | 18 => .array .int
  | 19 => .array .int
  | 20 => .array .int
  | 21 => .array .int
  | 22 => .array .int
  | 23 => .array .int
  | 24 => .array .int
  | 25 => .array .int
  | 26 => .array .int
  | 27 => .array .int
  | 28 => .array .int
  | 29 => .array .int
  | 30 => .int
  | 31 => .array .int
  | 32 => .array .int
  | 33 => .array .int
  | _ => .array .int
abbrev wsX100 : List Cond := u_ws RX10 TX10 35
theorem nmX10 : ∀ a, a < 35 → ∀ b, b < 35 → a ≠ b → (TX10 a).2.1 ≠ (TX10 b).2.1 := by decide +kernel
theorem tyX10_ok : ∀ k, k < 35 → parseFieldDescriptor (TX10 k).2.2.1 = some (tyX10 k) := by decide +kernel
abbrev cX10_init : ByteArray := prog_12_method_1_code
def yX10_init : MethodName := ⟨RX10, "<init>", "()V"⟩
abbrev cX10_in : ByteArray := prog_12_method_2_code
def yX10_in : MethodName := ⟨RX10, "in", "(JJJ)Z"⟩
abbrev cX10_write : ByteArray := prog_12_method_4_code
def yX10_write : MethodName := ⟨RX10, "write", "(I)I"⟩
abbrev cX10_erase : ByteArray := prog_12_method_5_code
def yX10_erase : MethodName := ⟨RX10, "erase", "()I"⟩
abbrev cX10_isLetter : ByteArray := prog_12_method_6_code
def yX10_isLetter : MethodName := ⟨RX10, "isLetter", "(I)Z"⟩
abbrev cX10_isDigit : ByteArray := prog_12_method_7_code
def yX10_isDigit : MethodName := ⟨RX10, "isDigit", "(I)Z"⟩
abbrev cX10_nextToken : ByteArray := prog_12_method_8_code
def yX10_nextToken : MethodName := ⟨RX10, "nextToken", "()V"⟩
abbrev cX10_isWord : ByteArray := prog_12_method_9_code
def yX10_isWord : MethodName := ⟨RX10, "isWord", "([I)Z"⟩
abbrev cX10_number : ByteArray := prog_12_method_10_code
def yX10_number : MethodName := ⟨RX10, "number", "(III)Z"⟩
abbrev cX10_kindHere : ByteArray := prog_12_method_11_code
def yX10_kindHere : MethodName := ⟨RX10, "kindHere", "()I"⟩
abbrev cX10_readsPerson : ByteArray := prog_12_method_12_code
def yX10_readsPerson : MethodName := ⟨RX10, "readsPerson", "(I)Z"⟩
abbrev cX10_readsPair : ByteArray := prog_12_method_13_code
def yX10_readsPair : MethodName := ⟨RX10, "readsPair", "()Z"⟩
abbrev cX10_readsHouse : ByteArray := prog_12_method_14_code
def yX10_readsHouse : MethodName := ⟨RX10, "readsHouse", "()Z"⟩
abbrev cX10_readsClause : ByteArray := prog_12_method_15_code
def yX10_readsClause : MethodName := ⟨RX10, "readsClause", "()Z"⟩
abbrev cX10_reads : ByteArray := prog_12_method_16_code
def yX10_reads : MethodName := ⟨RX10, "reads", "(Z)Z"⟩
abbrev cX10_fault : ByteArray := prog_12_method_17_code
def yX10_fault : MethodName := ⟨RX10, "fault", "()I"⟩
abbrev cX10_copyRow : ByteArray := prog_12_method_18_code
def yX10_copyRow : MethodName := ⟨RX10, "copyRow", "(III)V"⟩
abbrev cX10_house : ByteArray := prog_12_method_19_code
def yX10_house : MethodName := ⟨RX10, "house", "()I"⟩
abbrev cX10_isPerson : ByteArray := prog_12_method_20_code
def yX10_isPerson : MethodName := ⟨RX10, "isPerson", "(I)Z"⟩
abbrev cX10_sumOf : ByteArray := prog_12_method_21_code
def yX10_sumOf : MethodName := ⟨RX10, "sumOf", "(II)I"⟩
abbrev cX10_greatestOf : ByteArray := prog_12_method_22_code
def yX10_greatestOf : MethodName := ⟨RX10, "greatestOf", "(II)I"⟩
abbrev cX10_loadBy : ByteArray := prog_12_method_23_code
def yX10_loadBy : MethodName := ⟨RX10, "loadBy", "(III)I"⟩
abbrev cX10_load : ByteArray := prog_12_method_24_code
def yX10_load : MethodName := ⟨RX10, "load", "(II)I"⟩
abbrev cX10_fades : ByteArray := prog_12_method_25_code
def yX10_fades : MethodName := ⟨RX10, "fades", "(I)I"⟩
abbrev cX10_stepOf : ByteArray := prog_12_method_26_code
def yX10_stepOf : MethodName := ⟨RX10, "stepOf", "(I)I"⟩
abbrev cX10_fade : ByteArray := prog_12_method_27_code
def yX10_fade : MethodName := ⟨RX10, "fade", "(III)V"⟩
abbrev cX10_passes : ByteArray := prog_12_method_28_code
def yX10_passes : MethodName := ⟨RX10, "passes", "(I)V"⟩
abbrev cX10_isAhead : ByteArray := prog_12_method_29_code
def yX10_isAhead : MethodName := ⟨RX10, "isAhead", "(III)Z"⟩
abbrev cX10_placeOf : ByteArray := prog_12_method_30_code
def yX10_placeOf : MethodName := ⟨RX10, "placeOf", "(II)I"⟩
abbrev cX10_person : ByteArray := prog_12_method_31_code
def yX10_person : MethodName := ⟨RX10, "person", "(II)I"⟩
abbrev cX10_grief : ByteArray := prog_12_method_32_code
def yX10_grief : MethodName := ⟨RX10, "grief", "(II)I"⟩
abbrev cX10_as : ByteArray := prog_12_method_33_code
def yX10_as : MethodName := ⟨RX10, "as", "(II)I"⟩
abbrev cX10_areTwo : ByteArray := prog_12_method_34_code
def yX10_areTwo : MethodName := ⟨RX10, "areTwo", "(II)Z"⟩
abbrev cX10_pair : ByteArray := prog_12_method_35_code
def yX10_pair : MethodName := ⟨RX10, "pair", "(II)I"⟩
abbrev cX10_unpair : ByteArray := prog_12_method_36_code
def yX10_unpair : MethodName := ⟨RX10, "unpair", "()I"⟩
abbrev cX10_keepPast : ByteArray := prog_12_method_37_code
def yX10_keepPast : MethodName := ⟨RX10, "keepPast", "()V"⟩
abbrev cX10_lent : ByteArray := prog_12_method_38_code
def yX10_lent : MethodName := ⟨RX10, "lent", "(I)I"⟩
abbrev cX10_grieve : ByteArray := prog_12_method_39_code
def yX10_grieve : MethodName := ⟨RX10, "grieve", "(II)I"⟩
abbrev cX10_comfort : ByteArray := prog_12_method_40_code
def yX10_comfort : MethodName := ⟨RX10, "comfort", "(I)I"⟩
abbrev cX10_undo : ByteArray := prog_12_method_41_code
def yX10_undo : MethodName := ⟨RX10, "undo", "()I"⟩
abbrev cX10_keep : ByteArray := prog_12_method_42_code
def yX10_keep : MethodName := ⟨RX10, "keep", "(I)I"⟩
abbrev cX10_back : ByteArray := prog_12_method_43_code
def yX10_back : MethodName := ⟨RX10, "back", "(I)I"⟩
abbrev cX10_layTried : ByteArray := prog_12_method_44_code
def yX10_layTried : MethodName := ⟨RX10, "layTried", "(I)V"⟩
abbrev cX10_behind : ByteArray := prog_12_method_45_code
def yX10_behind : MethodName := ⟨RX10, "behind", "(III)I"⟩
abbrev cX10_enters : ByteArray := prog_12_method_46_code
def yX10_enters : MethodName := ⟨RX10, "enters", "(II)I"⟩
abbrev cX10_ahead : ByteArray := prog_12_method_47_code
def yX10_ahead : MethodName := ⟨RX10, "ahead", "(II)I"⟩
abbrev cX10_wrong : ByteArray := prog_12_method_48_code
def yX10_wrong : MethodName := ⟨RX10, "wrong", "()I"⟩
abbrev cX10_layOrder : ByteArray := prog_12_method_49_code
def yX10_layOrder : MethodName := ⟨RX10, "layOrder", "()V"⟩
abbrev cX10_nextOrder : ByteArray := prog_12_method_50_code
def yX10_nextOrder : MethodName := ⟨RX10, "nextOrder", "()Z"⟩
abbrev cX10_change : ByteArray := prog_12_method_51_code
def yX10_change : MethodName := ⟨RX10, "change", "(II)V"⟩
abbrev cX10_broken : ByteArray := prog_12_method_52_code
def yX10_broken : MethodName := ⟨RX10, "broken", "()I"⟩
abbrev cX10_ranked : ByteArray := prog_12_method_53_code
def yX10_ranked : MethodName := ⟨RX10, "ranked", "(I)I"⟩
abbrev cX10_countLines : ByteArray := prog_12_method_54_code
def yX10_countLines : MethodName := ⟨RX10, "countLines", "()V"⟩
abbrev cX10_lines : ByteArray := prog_12_method_55_code
def yX10_lines : MethodName := ⟨RX10, "lines", "()I"⟩
abbrev cX10_next : ByteArray := prog_12_method_56_code
def yX10_next : MethodName := ⟨RX10, "next", "()I"⟩
abbrev cX10_fits : ByteArray := prog_12_method_57_code
def yX10_fits : MethodName := ⟨RX10, "fits", "(II)Z"⟩
abbrev cX10_rooms : ByteArray := prog_12_method_58_code
def yX10_rooms : MethodName := ⟨RX10, "rooms", "(II)I"⟩
abbrev cX10_misread : ByteArray := prog_12_method_59_code
def yX10_misread : MethodName := ⟨RX10, "misread", "(IIII)I"⟩
abbrev cX10_seen : ByteArray := prog_12_method_60_code
def yX10_seen : MethodName := ⟨RX10, "seen", "(III)I"⟩
abbrev cX10_forget : ByteArray := prog_12_method_61_code
def yX10_forget : MethodName := ⟨RX10, "forget", "()I"⟩
abbrev cX10_stepBy : ByteArray := prog_12_method_62_code
def yX10_stepBy : MethodName := ⟨RX10, "stepBy", "(III)I"⟩
abbrev cX10_kinds : ByteArray := prog_12_method_63_code
def yX10_kinds : MethodName := ⟨RX10, "kinds", "(II)I"⟩
abbrev cX10_isDrawer : ByteArray := prog_12_method_64_code
def yX10_isDrawer : MethodName := ⟨RX10, "isDrawer", "(I)Z"⟩
abbrev cX10_drawer : ByteArray := prog_12_method_65_code
def yX10_drawer : MethodName := ⟨RX10, "drawer", "(II)I"⟩
abbrev cX10_noPlace : ByteArray := prog_12_method_66_code
def yX10_noPlace : MethodName := ⟨RX10, "noPlace", "(II)I"⟩
abbrev cX10_put : ByteArray := prog_12_method_67_code
def yX10_put : MethodName := ⟨RX10, "put", "(IIII)I"⟩
abbrev cX10_take : ByteArray := prog_12_method_68_code
def yX10_take : MethodName := ⟨RX10, "take", "(III)I"⟩
abbrev cX10_isBehind : ByteArray := prog_12_method_69_code
def yX10_isBehind : MethodName := ⟨RX10, "isBehind", "(III)Z"⟩
abbrev cX10_tidy : ByteArray := prog_12_method_70_code
def yX10_tidy : MethodName := ⟨RX10, "tidy", "(I)I"⟩
abbrev cX10_isSpan : ByteArray := prog_12_method_71_code
def yX10_isSpan : MethodName := ⟨RX10, "isSpan", "(III)Z"⟩
abbrev cX10_copy : ByteArray := prog_12_method_72_code
def yX10_copy : MethodName := ⟨RX10, "copy", "(IIIII)I"⟩
abbrev cX10_drop : ByteArray := prog_12_method_73_code
def yX10_drop : MethodName := ⟨RX10, "drop", "(I)I"⟩
abbrev cX10_goIn : ByteArray := prog_12_method_74_code
def yX10_goIn : MethodName := ⟨RX10, "goIn", "()I"⟩
abbrev cX10_allLoads : ByteArray := prog_12_method_75_code
def yX10_allLoads : MethodName := ⟨RX10, "allLoads", "()I"⟩
abbrev cX10_allGriefs : ByteArray := prog_12_method_76_code
def yX10_allGriefs : MethodName := ⟨RX10, "allGriefs", "()I"⟩
abbrev cX10_drawersThere : ByteArray := prog_12_method_77_code
def yX10_drawersThere : MethodName := ⟨RX10, "drawersThere", "()I"⟩
abbrev cX10_count : ByteArray := prog_12_method_78_code
def yX10_count : MethodName := ⟨RX10, "count", "(I)I"⟩
def RJ9 : String := "java/lang/Math"
abbrev cJ9_max_7cf53 : ByteArray := prog_13_method_65_code
def yJ9_max_7cf53 : MethodName := ⟨RJ9, "max", "(II)I"⟩
abbrev cJ9_min_7cf53 : ByteArray := prog_13_method_69_code
def yJ9_min_7cf53 : MethodName := ⟨RJ9, "min", "(II)I"⟩
def RJ0 : String := "java/lang/String"
abbrev cJ0_length_8abf5 : ByteArray := prog_14_method_54_code
def yJ0_length_8abf5 : MethodName := ⟨RJ0, "length", "()I"⟩
abbrev cJ0_charAt_5068e : ByteArray := prog_14_method_56_code
def yJ0_charAt_5068e : MethodName := ⟨RJ0, "charAt", "(I)C"⟩
abbrev cJ0_coder_7d493 : ByteArray := prog_14_method_152_code
def yJ0_coder_7d493 : MethodName := ⟨RJ0, "coder", "()B"⟩
abbrev cJ0_isLatin1_aae02 : ByteArray := prog_14_method_154_code
def yJ0_isLatin1_aae02 : MethodName := ⟨RJ0, "isLatin1", "()Z"⟩
abbrev cJ0_checkIndex_df160 : ByteArray := prog_14_method_155_code
def yJ0_checkIndex_df160 : MethodName := ⟨RJ0, "checkIndex", "(II)V"⟩
def RJ1 : String := "java/lang/StringLatin1"
abbrev cJ1_charAt_3b067 : ByteArray := prog_15_method_2_code
def yJ1_charAt_3b067 : MethodName := ⟨RJ1, "charAt", "([BI)C"⟩
def RJ2 : String := "java/lang/StringUTF16"
abbrev cJ2_getChar_3b067 : ByteArray := prog_16_method_5_code
def yJ2_getChar_3b067 : MethodName := ⟨RJ2, "getChar", "([BI)C"⟩
abbrev cJ2_length_9d52b : ByteArray := prog_16_method_6_code
def yJ2_length_9d52b : MethodName := ⟨RJ2, "length", "([B)I"⟩
abbrev cJ2_charAt_3b067 : ByteArray := prog_16_method_83_code
def yJ2_charAt_3b067 : MethodName := ⟨RJ2, "charAt", "([BI)C"⟩
abbrev cJ2_checkIndex_2214a : ByteArray := prog_16_method_91_code
def yJ2_checkIndex_2214a : MethodName := ⟨RJ2, "checkIndex", "(I[B)V"⟩
def RJ10 : String := "java/lang/System"
def RJ3 : String := "jdk/internal/util/Preconditions"
abbrev cJ3_checkIndex_8e157 : ByteArray := prog_18_method_11_code
def yJ3_checkIndex_8e157 : MethodName := ⟨RJ3, "checkIndex", "(IILjava/util/function/BiFunction;)I"⟩
def RL : String := "GriefDoorsLaw"
abbrev cL_law : ByteArray := code
abbrev vwCl : List vw_C := [(RX0, TX0, 4), (RX1, TX1, 3), (RX2, TX2, 3), (RX3, TX3, 6), (RX4, TX4, 3), (RX5, TX5, 4), (RX6, TX6, 4), (RX7, TX7, 11), (RX8, TX8, 3), (RX9, TX9, 11), (RX10, TX10, 35)]
end
section
-- 02: a small machine of our own over places: its values, its store, its steps
abbrev gV : Type := Sum Int (Sum Int Nat)
abbrev gM : Type := Nat → Nat → Int
abbrev gL : Type := List (Option gV)
abbrev gR : Type := gM × Option gV
abbrev gE : Type := ClassFile.Instr × Nat × Nat × Nat × Nat × Nat × List (Int × Nat)
abbrev gK (α : Type) : Type := Nat → gL → List gV → gM → Option α
abbrev gCl : Type := Nat → List gV → gM → Option gR
def gI (x : Int) : Int32 := Int32.ofInt x
def gW (x : Int) : Int := (gI x).toInt
def gJ (x : Int) : Int64 := Int64.ofInt x
def gIx (x : Int) : Nat := (gW x).toNat
def gInb (i : Int) (n : Nat) : Bool := decide (0 ≤ gW i ∧ gW i < (n : Int))
def gLt (x y : Int) : Bool := decide (gW x < gW y)
def gEq (x y : Int) : Bool := decide (gW x = gW y)
def gIf {α : Type} (b : Bool) (x : Option α) : Option α := cond b x none
def gDiv (x y : Int) : Int := (gI x / gI y).toInt
def gRem (x y : Int) : Int := (gI x - gI x / gI y * gI y).toInt
def gAnd (x y : Int) : Int := (gI x &&& gI y).toInt
def gOr (x y : Int) : Int := (gI x ||| gI y).toInt
def gXor (x y : Int) : Int := (gI x ^^^ gI y).toInt
def gShl (x y : Int) : Int := (gI x <<< (gI y &&& 31)).toInt
def gShr (x y : Int) : Int := (gI x >>> (gI y &&& 31)).toInt
def gLc (x y : Int) : Int := (lg_cmp (gJ x) (gJ y)).toInt
def gMax (x y : Int) : Int := (if gI x < gI y then gI y else gI x).toInt
def gMin (x y : Int) : Int := (if gI y < gI x then gI y else gI x).toInt
def gB01 (v : Int) : Bool := gEq v 0 || gEq v 1
def gU (M : gM) (p j : Nat) (v : Int) : gM := fun q k => if q = p ∧ k = j then v else M q k
/-- a piece of a row copied: n elements of row q from sp on into row p from dp on -/
def gCp (M : gM) (q sp p dp n : Nat) : gM := fun r k => if r = p ∧ dp ≤ k ∧ k < dp + n then M q (sp + (k - dp)) else M r k
def gSwL {α : Type} (x : Int) (d : Nat) (K : Nat → Option α) : List (Int × Nat) → Option α
  | [] => K d
  | q :: l => cond (gEq x q.1) (K q.2) (gSwL x d K l)
def gBr {α : Type} (c : ClassFile.Cond) (x y : Int) (t f : Option α) : Option α := match c with
  | .eq => cond (gEq x y) t f
  | .ne => cond (gEq x y) f t
  | .lt => cond (gLt x y) t f
  | .ge => cond (gLt x y) f t
  | .gt => cond (gLt y x) t f
  | .le => cond (gLt y x) f t
def gCi {α : Type} (o : Option gR) (K : gM → Int → Option α) : Option α := match o with
  | some (M, some (.inl x)) => K M x
  | _ => none
def gCv {α : Type} (o : Option gR) (K : gM → Option α) : Option α := match o with
  | some (M, none) => K M
  | _ => none
def gCr {α : Type} (o : Option gR) (K : gM → Nat → Option α) : Option α := match o with
  | some (M, some (.inr (.inr r))) => K M r
  | _ => none
/-- no long lies in the place ahead -/
def gOkS (ls : gL) (i : Nat) : Bool := match i with
  | 0 => true
  | j + 1 => match ls[j]? with
    | some (some (.inr (.inl _))) => false
    | _ => true
def gLdI {α : Type} (ls : gL) (i : Nat) (K : Int → Option α) : Option α := match ls[i]? with
  | some (some (.inl x)) => K x
  | _ => none
def gLdL {α : Type} (ls : gL) (i : Nat) (K : Int → Option α) : Option α := match ls[i]? with
  | some (some (.inr (.inl x))) => K x
  | _ => none
def gLdA {α : Type} (ls : gL) (i : Nat) (K : Nat → Option α) : Option α := match ls[i]? with
  | some (some (.inr (.inr (r + 1)))) => K r
  | _ => none
def gSt {α : Type} (ls : gL) (i : Nat) (v : gV) (K : gL → Option α) : Option α := cond (gOkS ls i && Nat.blt i ls.length) (K (ls.set i (some v))) none
/-- the fixed shape of the store: place ↦ (tag, length, what a row of references or the slots of an object hold). Tags: 0 ints, 1 booleans, 2 rows of Griefs, 3 rows of drawers, 4 + c an object of class c; 50 the script, 51 a fixed row (each number one more) -/
abbrev gLy : Type := Nat → Nat × Nat × List Nat
def gGf {α : Type} (Ly : gLy) (M : gM) (p ci sl : Nat) (K : gV → Option α) : Option α := match Ly p with
  | (t, _, rs) => cond (Nat.beq t (ci + 4)) (match rs[sl]? with
    | some 0 => K (.inl (M p sl))
    | some (r + 1) => K (.inr (.inr (r + 1)))
    | none => none) none
def gPf {α : Type} (Ly : gLy) (M : gM) (p ci sl : Nat) (v : Int) (K : gM → Option α) : Option α := match Ly p with
  | (t, _, rs) => cond (Nat.beq t (ci + 4)) (match rs[sl]? with
    | some 0 => K (gU M p sl v)
    | _ => none) none
def gAl {α : Type} (Ly : gLy) (M : gM) (p : Nat) (i : Int) (K : Int → Option α) : Option α := match Ly p with
  | (0, n, _) => gIf (gInb i n) (K (M p (gIx i)))
  | (50, _, _) => gIf (gInb i (M 1001 0).toNat) (K (M 1000 (gIx i)))
  | (51, n, rs) => gIf (gInb i n) (K (((rs.getD (gIx i) 0 : Nat) : Int) - 1))
  | _ => none
def gAs {α : Type} (Ly : gLy) (M : gM) (p : Nat) (i v : Int) (K : gM → Option α) : Option α := match Ly p with
  | (0, n, _) => gIf (gInb i n) (K (gU M p (gIx i) v))
  | _ => none
def gBl {α : Type} (Ly : gLy) (M : gM) (p : Nat) (i : Int) (K : Int → Option α) : Option α := match Ly p with
  | (1, n, _) => gIf (gInb i n) (K (M p (gIx i)))
  | _ => none
def gBs {α : Type} (Ly : gLy) (M : gM) (p : Nat) (i v : Int) (K : gM → Option α) : Option α := match Ly p with
  | (1, n, _) => gIf (gInb i n) (gIf (gB01 v) (K (gU M p (gIx i) v)))
  | _ => none
def gAa {α : Type} (Ly : gLy) (p : Nat) (i : Int) (K : Nat → Option α) : Option α := match Ly p with
  | (2, n, [b, d]) => gIf (gInb i n) (K (b + d * gIx i))
  | (3, n, [b, d]) => gIf (gInb i n) (K (b + d * gIx i))
  | _ => none
def gLn {α : Type} (Ly : gLy) (M : gM) (p : Nat) (K : Int → Option α) : Option α := match Ly p with
  | (0, n, _) => K (n : Int)
  | (50, _, _) => K (M 1001 0)
  | (51, n, _) => K (n : Int)
  | _ => none
/-- System.arraycopy over rows of ints -/
def gAc {α : Type} (Ly : gLy) (M : gM) (q : Nat) (sp : Int) (p : Nat) (dp n : Int) (K : gM → Option α) : Option α := match Ly q, Ly p with
  | (0, n0, _), (0, n1, _) => gIf (decide (0 ≤ gW sp ∧ 0 ≤ gW dp ∧ 0 ≤ gW n ∧ gW sp + gW n ≤ (n0 : Int) ∧ gW dp + gW n ≤ (n1 : Int))) (K (gCp M q (gIx sp) p (gIx dp) (gIx n)))
  | _, _ => none
/-- the strings, by their bytes -/
def gStr (j : Nat) : List Nat := match j with
  | 0 => [103, 117, 101, 115, 116]
  | 1 => [119, 105, 100, 111, 119]
  | 2 => [103, 101, 110, 101, 114, 97, 108]
  | 3 => [99, 104, 105, 108, 100]
  | 4 => [115, 97, 105, 110, 116]
  | 5 => [104, 111, 117, 115, 101]
  | _ => [112, 97, 105, 114]
/-- what a call gives back, by the kind of its answer: 0 nothing, 1 a number, 2 a reference -/
def gRt {α : Type} (rt : Nat) (o : Option gR) (K : gM → List gV → Option α) (st : List gV) : Option α := match rt with
  | 0 => gCv o (fun M => K M st)
  | 1 => gCi o (fun M x => K M (.inl x :: st))
  | _ => gCr o (fun M r => K M (.inr (.inr r) :: st))
def gSm (st : List gV) : Bool := Nat.ble st.length 4
/-- a step. r1, r2, r3: what the tables say of the instruction; Ly the store's shape; C the calls; ρ what an answer becomes; K what follows -/
def gStep {α : Type} (Ly : gLy) (C : gCl) (ρ : gM → Option gV → Option α) (e : gE) (pc : Nat) (ls : gL) (st : List gV) (M : gM) (K : gK α) : Option α :=
  match e with
  | (i, _, r1, r2, r3, r4, tl) => match i with
    | .iconst n => K (pc + 1) ls (.inl n :: st) M
    | .bipush n => K (pc + 2) ls (.inl n :: st) M
    | .sipush n => K (pc + 3) ls (.inl n :: st) M
    | .lconst n => K (pc + 1) ls (.inr (.inl ((n : Nat) : Int)) :: st) M
    | .ldc _ => match r3 with
      | 0 => K (pc + 2) ls (.inl (r1 : Int) :: st) M
      | _ => K (pc + 2) ls (.inr (.inr (r1 + 1)) :: st) M
    | .ldc_w _ => K (pc + 3) ls (.inl (r1 : Int) :: st) M
    | .ldc2_w _ => K (pc + 3) ls (.inr (.inl ((r1 : Int) - (r2 : Int))) :: st) M
    | .iload_n n => gLdI ls n (fun x => K (pc + 1) ls (.inl x :: st) M)
    | .iload n => gLdI ls n (fun x => K (pc + 2) ls (.inl x :: st) M)
    | .lload_n n => gLdL ls n (fun x => K (pc + 1) ls (.inr (.inl x) :: st) M)
    | .lload n => gLdL ls n (fun x => K (pc + 2) ls (.inr (.inl x) :: st) M)
    | .aload_n n => gLdA ls n (fun x => K (pc + 1) ls (.inr (.inr (x + 1)) :: st) M)
    | .aload n => gLdA ls n (fun x => K (pc + 2) ls (.inr (.inr (x + 1)) :: st) M)
    | .istore_n n => match st with
      | .inl x :: st => gSt ls n (.inl x) (fun ls => K (pc + 1) ls st M)
      | _ => none
    | .istore n => match st with
      | .inl x :: st => gSt ls n (.inl x) (fun ls => K (pc + 2) ls st M)
      | _ => none
    | .astore_n n => match st with
      | .inr (.inr (r + 1)) :: st => gSt ls n (.inr (.inr (r + 1))) (fun ls => K (pc + 1) ls st M)
      | _ => none
    | .astore n => match st with
      | .inr (.inr (r + 1)) :: st => gSt ls n (.inr (.inr (r + 1))) (fun ls => K (pc + 2) ls st M)
      | _ => none
    | .iinc n d => gLdI ls n (fun x => gSt ls n (.inl (x + d)) (fun ls => K (pc + 3) ls st M))
    | .iadd => match st with
      | .inl y :: .inl x :: st => K (pc + 1) ls (.inl (x + y) :: st) M
      | _ => none
    | .isub => match st with
      | .inl y :: .inl x :: st => K (pc + 1) ls (.inl (x - y) :: st) M
      | _ => none
    | .imul => match st with
      | .inl y :: .inl x :: st => K (pc + 1) ls (.inl (x * y) :: st) M
      | _ => none
    | .idiv => match st with
      | .inl y :: .inl x :: st => cond (gEq y 0) none (K (pc + 1) ls (.inl (gDiv x y) :: st) M)
      | _ => none
    | .irem => match st with
      | .inl y :: .inl x :: st => cond (gEq y 0) none (K (pc + 1) ls (.inl (gRem x y) :: st) M)
      | _ => none
    | .iand => match st with
      | .inl y :: .inl x :: st => K (pc + 1) ls (.inl (gAnd x y) :: st) M
      | _ => none
    | .ior => match st with
      | .inl y :: .inl x :: st => K (pc + 1) ls (.inl (gOr x y) :: st) M
      | _ => none
    | .ixor => match st with
      | .inl y :: .inl x :: st => K (pc + 1) ls (.inl (gXor x y) :: st) M
      | _ => none
    | .ishl => match st with
      | .inl y :: .inl x :: st => K (pc + 1) ls (.inl (gShl x y) :: st) M
      | _ => none
    | .ishr => match st with
      | .inl y :: .inl x :: st => K (pc + 1) ls (.inl (gShr x y) :: st) M
      | _ => none
    | .i2l => match st with
      | .inl x :: st => K (pc + 1) ls (.inr (.inl (gW x)) :: st) M
      | _ => none
    | .ladd => match st with
      | .inr (.inl y) :: .inr (.inl x) :: st => K (pc + 1) ls (.inr (.inl (x + y)) :: st) M
      | _ => none
    | .lcmp => match st with
      | .inr (.inl y) :: .inr (.inl x) :: st => K (pc + 1) ls (.inl (gLc x y) :: st) M
      | _ => none
    | .dup => match st with
      | .inl x :: st => K (pc + 1) ls (.inl x :: .inl x :: st) M
      | .inr (.inr r) :: st => K (pc + 1) ls (.inr (.inr r) :: .inr (.inr r) :: st) M
      | _ => none
    | .dup2 => match st with
      | .inl x :: .inr (.inr r) :: st => K (pc + 1) ls (.inl x :: .inr (.inr r) :: .inl x :: .inr (.inr r) :: st) M
      | _ => none
    | .pop => match st with
      | .inl _ :: st => K (pc + 1) ls st M
      | _ => none
    | .goto _ => K r1 ls st M
    | .ifCond c _ => match st with
      | .inl x :: st => gBr c x 0 (K r1 ls st M) (K (pc + 3) ls st M)
      | _ => none
    | .if_icmp c _ => match st with
      | .inl y :: .inl x :: st => gBr c x y (K r1 ls st M) (K (pc + 3) ls st M)
      | _ => none
    | .tableswitch _ _ _ _ => match st with
      | .inl x :: st => gSwL x r1 (fun t => K t ls st M) tl
      | _ => none
    | .lookupswitch _ _ => match st with
      | .inl x :: st => gSwL x r1 (fun t => K t ls st M) tl
      | _ => none
    | .getfield _ => match st with
      | .inr (.inr (p + 1)) :: st => gGf Ly M p r1 r2 (fun v => K (pc + 3) ls (v :: st) M)
      | _ => none
    | .putfield _ => match st with
      | .inl v :: .inr (.inr (p + 1)) :: st => match r3 with
        | 1 => gPf Ly M p r1 r2 v (fun M => K (pc + 3) ls st M)
        | _ => gIf (gB01 v) (gPf Ly M p r1 r2 v (fun M => K (pc + 3) ls st M))
      | _ => none
    | .getstatic _ => K (pc + 3) ls (.inr (.inr (r1 + 1)) :: st) M
    | .iaload => match st with
      | .inl i :: .inr (.inr (p + 1)) :: st => gAl Ly M p i (fun v => K (pc + 1) ls (.inl v :: st) M)
      | _ => none
    | .iastore => match st with
      | .inl v :: .inl i :: .inr (.inr (p + 1)) :: st => gAs Ly M p i v (fun M => K (pc + 1) ls st M)
      | _ => none
    | .baload => match st with
      | .inl i :: .inr (.inr (p + 1)) :: st => gBl Ly M p i (fun v => K (pc + 1) ls (.inl v :: st) M)
      | _ => none
    | .bastore => match st with
      | .inl v :: .inl i :: .inr (.inr (p + 1)) :: st => gBs Ly M p i v (fun M => K (pc + 1) ls st M)
      | _ => none
    | .aaload => match st with
      | .inl i :: .inr (.inr (p + 1)) :: st => gAa Ly p i (fun r => K (pc + 1) ls (.inr (.inr (r + 1)) :: st) M)
      | _ => none
    | .arraylength => match st with
      | .inr (.inr (p + 1)) :: st => gLn Ly M p (fun v => K (pc + 1) ls (.inl v :: st) M)
      | _ => none
    | .invokevirtual _ => match st.drop r2 with
      | .inr (.inr (p + 1)) :: st1 => cond (gSm st1 && Nat.beq (Ly p).1 r3) (gRt r4 (C r1 (.inr (.inr (p + 1)) :: (st.take r2).reverse) M) (fun M st => K (pc + 3) ls st M) st1) none
      | _ => none
    | .invokestatic _ => match r3 with
      | 0 => cond (gSm (st.drop r2)) (gRt r4 (C r1 ((st.take r2).reverse) M) (fun M st => K (pc + 3) ls st M) (st.drop r2)) none
      | 1 => match st with
        | .inl y :: .inl x :: st => cond (gSm st) (K (pc + 3) ls (.inl (gMax x y) :: st) M) none
        | _ => none
      | 2 => match st with
        | .inl y :: .inl x :: st => cond (gSm st) (K (pc + 3) ls (.inl (gMin x y) :: st) M) none
        | _ => none
      | _ => match st with
        | .inl n :: .inl dp :: .inr (.inr (p + 1)) :: .inl sp :: .inr (.inr (q + 1)) :: st => cond (gSm st) (gAc Ly M q sp p dp n (fun M => K (pc + 3) ls st M)) none
        | _ => none
    | .ireturn => match st with
      | [.inl x] => match r1 with
        | 0 => ρ M (some (.inl x))
        | _ => gIf (gB01 x) (ρ M (some (.inl x)))
      | _ => none
    | .areturn => match st with
      | [.inr (.inr (r + 1))] => ρ M (some (.inr (.inr (r + 1))))
      | _ => none
    | .return_ => match st with
      | [] => ρ M none
      | _ => none
    | _ => none
/-- from one place where the code may be cut to the next -/
def gSeg {α : Type} (Ly : gLy) (C : gCl) (ρ : gM → Option gV → Option α) (code : Nat → Option gE) (hd : Nat → Bool) (B : gK α) : Nat → gK α
  | 0, _, _, _, _ => none
  | F + 1, pc, ls, st, M => match code pc with
    | none => none
    | some e => gStep Ly C ρ e pc ls st M (fun pc ls st M => cond (hd pc) (B pc ls st M) (gSeg Ly C ρ code hd B F pc ls st M))
def gRun {α : Type} (Ly : gLy) (C : gCl) (ρ : gM → Option gV → Option α) (code : Nat → Option gE) (hd : Nat → Bool) : Nat → gK α
  | 0, _, _, _, _ => none
  | n + 1, pc, ls, st, M => gSeg Ly C ρ code hd (gRun Ly C ρ code hd n) 400 pc ls st M
/-- the locals at a method's entry -/
def gArg : List gV → gL
  | [] => []
  | .inr (.inl x) :: l => some (.inr (.inl x)) :: none :: gArg l
  | v :: l => some v :: gArg l
def gEnt (mL : Nat) (args : List gV) : gL := gArg args ++ List.replicate (mL - (gArg args).length) none
end
