section
-- ===== PART A: goes FIRST, ahead of the names: the tables' words, and 'selects' of the private methods out of them =====
/-- a private method of a class that the tables say can be made, by its rows of tables_1 -/
def lw_okq (q : MethodName × Nat) : Prop := (q.1.cls ≠ "java/lang/invoke/MethodHandle" ∧ q.1.cls ≠ "java/lang/invoke/VarHandle") ∧ Cond.instantiable q.1.cls q.2 ∈ tables_1 ∧ Cond.privateMethod q.1 ∈ tables_1 ∧ Cond.instanceMethod q.1 ∈ tables_1
theorem lw_p0 : lw_okq (⟨"KeyFists$Grammar", "step", "()V"⟩, 7) := ⟨⟨by decide +kernel, by decide +kernel⟩, List.mem_of_getElem? (i := 68) (by decide +kernel), List.mem_of_getElem? (i := 395) (by decide +kernel), List.mem_of_getElem? (i := 396) (by decide +kernel)⟩
theorem lw_p1 : lw_okq (⟨"KeyFists$Grammar", "kindAt", "(I)I"⟩, 7) := ⟨⟨by decide +kernel, by decide +kernel⟩, List.mem_of_getElem? (i := 68) (by decide +kernel), List.mem_of_getElem? (i := 404) (by decide +kernel), List.mem_of_getElem? (i := 405) (by decide +kernel)⟩
theorem lw_p2 : lw_okq (⟨"KeyFists$Grammar", "parseLine", "()Z"⟩, 7) := ⟨⟨by decide +kernel, by decide +kernel⟩, List.mem_of_getElem? (i := 68) (by decide +kernel), List.mem_of_getElem? (i := 408) (by decide +kernel), List.mem_of_getElem? (i := 409) (by decide +kernel)⟩
theorem lw_p3 : lw_okq (⟨"KeyFists$Grammar", "isWord", "(Ljava/lang/String;)Z"⟩, 7) := ⟨⟨by decide +kernel, by decide +kernel⟩, List.mem_of_getElem? (i := 68) (by decide +kernel), List.mem_of_getElem? (i := 413) (by decide +kernel), List.mem_of_getElem? (i := 414) (by decide +kernel)⟩
theorem lw_p4 : lw_okq (⟨"KeyFists$Grammar", "tokenSize", "()I"⟩, 7) := ⟨⟨by decide +kernel, by decide +kernel⟩, List.mem_of_getElem? (i := 68) (by decide +kernel), List.mem_of_getElem? (i := 417) (by decide +kernel), List.mem_of_getElem? (i := 418) (by decide +kernel)⟩
theorem lw_p5 : lw_okq (⟨"KeyFists$Grammar", "parseLetter", "()Z"⟩, 7) := ⟨⟨by decide +kernel, by decide +kernel⟩, List.mem_of_getElem? (i := 68) (by decide +kernel), List.mem_of_getElem? (i := 469) (by decide +kernel), List.mem_of_getElem? (i := 470) (by decide +kernel)⟩
theorem lw_p6 : lw_okq (⟨"KeyFists$Grammar", "marksHere", "()I"⟩, 7) := ⟨⟨by decide +kernel, by decide +kernel⟩, List.mem_of_getElem? (i := 68) (by decide +kernel), List.mem_of_getElem? (i := 477) (by decide +kernel), List.mem_of_getElem? (i := 478) (by decide +kernel)⟩
theorem lw_p7 : lw_okq (⟨"KeyFists$Grammar", "parseWord", "()Z"⟩, 7) := ⟨⟨by decide +kernel, by decide +kernel⟩, List.mem_of_getElem? (i := 68) (by decide +kernel), List.mem_of_getElem? (i := 495) (by decide +kernel), List.mem_of_getElem? (i := 496) (by decide +kernel)⟩
theorem lw_p8 : lw_okq (⟨"KeyFists$Grammar", "isNewName", "(I)Z"⟩, 7) := ⟨⟨by decide +kernel, by decide +kernel⟩, List.mem_of_getElem? (i := 68) (by decide +kernel), List.mem_of_getElem? (i := 503) (by decide +kernel), List.mem_of_getElem? (i := 504) (by decide +kernel)⟩
theorem lw_p9 : lw_okq (⟨"KeyFists$Grammar", "isName", "(I)Z"⟩, 7) := ⟨⟨by decide +kernel, by decide +kernel⟩, List.mem_of_getElem? (i := 68) (by decide +kernel), List.mem_of_getElem? (i := 508) (by decide +kernel), List.mem_of_getElem? (i := 509) (by decide +kernel)⟩
theorem lw_p10 : lw_okq (⟨"KeyFists$Grammar", "noteName", "(I)V"⟩, 7) := ⟨⟨by decide +kernel, by decide +kernel⟩, List.mem_of_getElem? (i := 68) (by decide +kernel), List.mem_of_getElem? (i := 512) (by decide +kernel), List.mem_of_getElem? (i := 513) (by decide +kernel)⟩
theorem lw_p11 : lw_okq (⟨"KeyFists$Grammar", "groupHere", "()I"⟩, 7) := ⟨⟨by decide +kernel, by decide +kernel⟩, List.mem_of_getElem? (i := 68) (by decide +kernel), List.mem_of_getElem? (i := 516) (by decide +kernel), List.mem_of_getElem? (i := 517) (by decide +kernel)⟩
theorem lw_p12 : lw_okq (⟨"KeyFists", "canRead", "(II)Z"⟩, 13) := ⟨⟨by decide +kernel, by decide +kernel⟩, List.mem_of_getElem? (i := 21) (by decide +kernel), List.mem_of_getElem? (i := 639) (by decide +kernel), List.mem_of_getElem? (i := 640) (by decide +kernel)⟩
theorem lw_p13 : lw_okq (⟨"KeyFists$Hands", "spanOf", "(II)I"⟩, 2) := ⟨⟨by decide +kernel, by decide +kernel⟩, List.mem_of_getElem? (i := 96) (by decide +kernel), List.mem_of_getElem? (i := 659) (by decide +kernel), List.mem_of_getElem? (i := 660) (by decide +kernel)⟩
theorem lw_p14 : lw_okq (⟨"KeyFists$Reader", "letterCost", "(II)I"⟩, 13) := ⟨⟨by decide +kernel, by decide +kernel⟩, List.mem_of_getElem? (i := 156) (by decide +kernel), List.mem_of_getElem? (i := 680) (by decide +kernel), List.mem_of_getElem? (i := 681) (by decide +kernel)⟩
theorem lw_p15 : lw_okq (⟨"KeyFists$Reader", "waysBehind", "(I)J"⟩, 13) := ⟨⟨by decide +kernel, by decide +kernel⟩, List.mem_of_getElem? (i := 156) (by decide +kernel), List.mem_of_getElem? (i := 701) (by decide +kernel), List.mem_of_getElem? (i := 702) (by decide +kernel)⟩
def lw_privs_1 : List (MethodName × Nat) := [(⟨"KeyFists$Grammar", "step", "()V"⟩, 7), (⟨"KeyFists$Grammar", "kindAt", "(I)I"⟩, 7), (⟨"KeyFists$Grammar", "parseLine", "()Z"⟩, 7), (⟨"KeyFists$Grammar", "isWord", "(Ljava/lang/String;)Z"⟩, 7), (⟨"KeyFists$Grammar", "tokenSize", "()I"⟩, 7), (⟨"KeyFists$Grammar", "parseLetter", "()Z"⟩, 7), (⟨"KeyFists$Grammar", "marksHere", "()I"⟩, 7), (⟨"KeyFists$Grammar", "parseWord", "()Z"⟩, 7), (⟨"KeyFists$Grammar", "isNewName", "(I)Z"⟩, 7), (⟨"KeyFists$Grammar", "isName", "(I)Z"⟩, 7), (⟨"KeyFists$Grammar", "noteName", "(I)V"⟩, 7), (⟨"KeyFists$Grammar", "groupHere", "()I"⟩, 7), (⟨"KeyFists", "canRead", "(II)Z"⟩, 13), (⟨"KeyFists$Hands", "spanOf", "(II)I"⟩, 2), (⟨"KeyFists$Reader", "letterCost", "(II)I"⟩, 13), (⟨"KeyFists$Reader", "waysBehind", "(I)J"⟩, 13)]
theorem lw_r1 : ∀ q ∈ lw_privs_1, lw_okq q := List.forall_mem_cons.mpr ⟨lw_p0, List.forall_mem_cons.mpr ⟨lw_p1, List.forall_mem_cons.mpr ⟨lw_p2, List.forall_mem_cons.mpr ⟨lw_p3, List.forall_mem_cons.mpr ⟨lw_p4, List.forall_mem_cons.mpr ⟨lw_p5, List.forall_mem_cons.mpr ⟨lw_p6, List.forall_mem_cons.mpr ⟨lw_p7, List.forall_mem_cons.mpr ⟨lw_p8, List.forall_mem_cons.mpr ⟨lw_p9, List.forall_mem_cons.mpr ⟨lw_p10, List.forall_mem_cons.mpr ⟨lw_p11, List.forall_mem_cons.mpr ⟨lw_p12, List.forall_mem_cons.mpr ⟨lw_p13, List.forall_mem_cons.mpr ⟨lw_p14, List.forall_mem_cons.mpr ⟨lw_p15, fun _ h => absurd h List.not_mem_nil⟩⟩⟩⟩⟩⟩⟩⟩⟩⟩⟩⟩⟩⟩⟩⟩
theorem lw_p16 : lw_okq (⟨"KeyFists$Reader", "costFrom", "(II)I"⟩, 13) := ⟨⟨by decide +kernel, by decide +kernel⟩, List.mem_of_getElem? (i := 156) (by decide +kernel), List.mem_of_getElem? (i := 717) (by decide +kernel), List.mem_of_getElem? (i := 718) (by decide +kernel)⟩
theorem lw_p17 : lw_okq (⟨"KeyFists$Reader", "gapCost", "(I)I"⟩, 13) := ⟨⟨by decide +kernel, by decide +kernel⟩, List.mem_of_getElem? (i := 156) (by decide +kernel), List.mem_of_getElem? (i := 721) (by decide +kernel), List.mem_of_getElem? (i := 722) (by decide +kernel)⟩
theorem lw_p18 : lw_okq (⟨"KeyFists$Reader", "write", "(I)V"⟩, 13) := ⟨⟨by decide +kernel, by decide +kernel⟩, List.mem_of_getElem? (i := 156) (by decide +kernel), List.mem_of_getElem? (i := 732) (by decide +kernel), List.mem_of_getElem? (i := 733) (by decide +kernel)⟩
theorem lw_p19 : lw_okq (⟨"KeyFists$Saying", "spellLetter", "(II)Z"⟩, 5) := ⟨⟨by decide +kernel, by decide +kernel⟩, List.mem_of_getElem? (i := 202) (by decide +kernel), List.mem_of_getElem? (i := 763) (by decide +kernel), List.mem_of_getElem? (i := 764) (by decide +kernel)⟩
theorem lw_p20 : lw_okq (⟨"KeyFists$Saying", "addKind", "(I)V"⟩, 5) := ⟨⟨by decide +kernel, by decide +kernel⟩, List.mem_of_getElem? (i := 202) (by decide +kernel), List.mem_of_getElem? (i := 768) (by decide +kernel), List.mem_of_getElem? (i := 769) (by decide +kernel)⟩
theorem lw_p21 : lw_okq (⟨"KeyFists", "tapeSaysIt", "(II)Z"⟩, 13) := ⟨⟨by decide +kernel, by decide +kernel⟩, List.mem_of_getElem? (i := 21) (by decide +kernel), List.mem_of_getElem? (i := 781) (by decide +kernel), List.mem_of_getElem? (i := 782) (by decide +kernel)⟩
theorem lw_p22 : lw_okq (⟨"KeyFists", "multiplyChoices", "(LKeyFists$Product;I)V"⟩, 13) := ⟨⟨by decide +kernel, by decide +kernel⟩, List.mem_of_getElem? (i := 21) (by decide +kernel), List.mem_of_getElem? (i := 799) (by decide +kernel), List.mem_of_getElem? (i := 800) (by decide +kernel)⟩
theorem lw_p23 : lw_okq (⟨"KeyFists$Lines", "measureDistances", "(I)V"⟩, 9) := ⟨⟨by decide +kernel, by decide +kernel⟩, List.mem_of_getElem? (i := 109) (by decide +kernel), List.mem_of_getElem? (i := 857) (by decide +kernel), List.mem_of_getElem? (i := 858) (by decide +kernel)⟩
theorem lw_p24 : lw_okq (⟨"KeyFists$Lines", "firstTowards", "(I)I"⟩, 9) := ⟨⟨by decide +kernel, by decide +kernel⟩, List.mem_of_getElem? (i := 109) (by decide +kernel), List.mem_of_getElem? (i := 862) (by decide +kernel), List.mem_of_getElem? (i := 863) (by decide +kernel)⟩
theorem lw_p25 : lw_okq (⟨"KeyFists$Post", "prepare", "()V"⟩, 13) := ⟨⟨by decide +kernel, by decide +kernel⟩, List.mem_of_getElem? (i := 224) (by decide +kernel), List.mem_of_getElem? (i := 890) (by decide +kernel), List.mem_of_getElem? (i := 891) (by decide +kernel)⟩
theorem lw_p26 : lw_okq (⟨"KeyFists$Post", "nextBegin", "()I"⟩, 13) := ⟨⟨by decide +kernel, by decide +kernel⟩, List.mem_of_getElem? (i := 224) (by decide +kernel), List.mem_of_getElem? (i := 896) (by decide +kernel), List.mem_of_getElem? (i := 897) (by decide +kernel)⟩
theorem lw_p27 : lw_okq (⟨"KeyFists$Post", "nextLine", "(I)I"⟩, 13) := ⟨⟨by decide +kernel, by decide +kernel⟩, List.mem_of_getElem? (i := 224) (by decide +kernel), List.mem_of_getElem? (i := 900) (by decide +kernel), List.mem_of_getElem? (i := 901) (by decide +kernel)⟩
theorem lw_p28 : lw_okq (⟨"KeyFists$Post", "chosenFor", "(II)I"⟩, 13) := ⟨⟨by decide +kernel, by decide +kernel⟩, List.mem_of_getElem? (i := 224) (by decide +kernel), List.mem_of_getElem? (i := 907) (by decide +kernel), List.mem_of_getElem? (i := 908) (by decide +kernel)⟩
theorem lw_p29 : lw_okq (⟨"KeyFists$Post", "goesAhead", "(II)Z"⟩, 13) := ⟨⟨by decide +kernel, by decide +kernel⟩, List.mem_of_getElem? (i := 224) (by decide +kernel), List.mem_of_getElem? (i := 911) (by decide +kernel), List.mem_of_getElem? (i := 912) (by decide +kernel)⟩
theorem lw_p30 : lw_okq (⟨"KeyFists$Post", "begin", "(III)V"⟩, 13) := ⟨⟨by decide +kernel, by decide +kernel⟩, List.mem_of_getElem? (i := 224) (by decide +kernel), List.mem_of_getElem? (i := 915) (by decide +kernel), List.mem_of_getElem? (i := 916) (by decide +kernel)⟩
theorem lw_p31 : lw_okq (⟨"KeyFists$Post", "nextHeard", "(II)I"⟩, 13) := ⟨⟨by decide +kernel, by decide +kernel⟩, List.mem_of_getElem? (i := 224) (by decide +kernel), List.mem_of_getElem? (i := 944) (by decide +kernel), List.mem_of_getElem? (i := 945) (by decide +kernel)⟩
def lw_privs_2 : List (MethodName × Nat) := [(⟨"KeyFists$Reader", "costFrom", "(II)I"⟩, 13), (⟨"KeyFists$Reader", "gapCost", "(I)I"⟩, 13), (⟨"KeyFists$Reader", "write", "(I)V"⟩, 13), (⟨"KeyFists$Saying", "spellLetter", "(II)Z"⟩, 5), (⟨"KeyFists$Saying", "addKind", "(I)V"⟩, 5), (⟨"KeyFists", "tapeSaysIt", "(II)Z"⟩, 13), (⟨"KeyFists", "multiplyChoices", "(LKeyFists$Product;I)V"⟩, 13), (⟨"KeyFists$Lines", "measureDistances", "(I)V"⟩, 9), (⟨"KeyFists$Lines", "firstTowards", "(I)I"⟩, 9), (⟨"KeyFists$Post", "prepare", "()V"⟩, 13), (⟨"KeyFists$Post", "nextBegin", "()I"⟩, 13), (⟨"KeyFists$Post", "nextLine", "(I)I"⟩, 13), (⟨"KeyFists$Post", "chosenFor", "(II)I"⟩, 13), (⟨"KeyFists$Post", "goesAhead", "(II)Z"⟩, 13), (⟨"KeyFists$Post", "begin", "(III)V"⟩, 13), (⟨"KeyFists$Post", "nextHeard", "(II)I"⟩, 13)]
theorem lw_r2 : ∀ q ∈ lw_privs_2, lw_okq q := List.forall_mem_cons.mpr ⟨lw_p16, List.forall_mem_cons.mpr ⟨lw_p17, List.forall_mem_cons.mpr ⟨lw_p18, List.forall_mem_cons.mpr ⟨lw_p19, List.forall_mem_cons.mpr ⟨lw_p20, List.forall_mem_cons.mpr ⟨lw_p21, List.forall_mem_cons.mpr ⟨lw_p22, List.forall_mem_cons.mpr ⟨lw_p23, List.forall_mem_cons.mpr ⟨lw_p24, List.forall_mem_cons.mpr ⟨lw_p25, List.forall_mem_cons.mpr ⟨lw_p26, List.forall_mem_cons.mpr ⟨lw_p27, List.forall_mem_cons.mpr ⟨lw_p28, List.forall_mem_cons.mpr ⟨lw_p29, List.forall_mem_cons.mpr ⟨lw_p30, List.forall_mem_cons.mpr ⟨lw_p31, fun _ h => absurd h List.not_mem_nil⟩⟩⟩⟩⟩⟩⟩⟩⟩⟩⟩⟩⟩⟩⟩⟩
theorem lw_p32 : lw_okq (⟨"KeyFists$Post", "beginOn", "(II)I"⟩, 13) := ⟨⟨by decide +kernel, by decide +kernel⟩, List.mem_of_getElem? (i := 224) (by decide +kernel), List.mem_of_getElem? (i := 948) (by decide +kernel), List.mem_of_getElem? (i := 949) (by decide +kernel)⟩
theorem lw_p33 : lw_okq (⟨"KeyFists$Clocks", "boundByClocks", "()V"⟩, 10) := ⟨⟨by decide +kernel, by decide +kernel⟩, List.mem_of_getElem? (i := 270) (by decide +kernel), List.mem_of_getElem? (i := 997) (by decide +kernel), List.mem_of_getElem? (i := 998) (by decide +kernel)⟩
theorem lw_p34 : lw_okq (⟨"KeyFists$Clocks", "boundByFacts", "()V"⟩, 10) := ⟨⟨by decide +kernel, by decide +kernel⟩, List.mem_of_getElem? (i := 270) (by decide +kernel), List.mem_of_getElem? (i := 1001) (by decide +kernel), List.mem_of_getElem? (i := 1002) (by decide +kernel)⟩
theorem lw_p35 : lw_okq (⟨"KeyFists$Clocks", "tightenThrough", "(I)V"⟩, 10) := ⟨⟨by decide +kernel, by decide +kernel⟩, List.mem_of_getElem? (i := 270) (by decide +kernel), List.mem_of_getElem? (i := 1006) (by decide +kernel), List.mem_of_getElem? (i := 1007) (by decide +kernel)⟩
theorem lw_p36 : lw_okq (⟨"KeyFists$Clocks", "contradicts", "()Z"⟩, 10) := ⟨⟨by decide +kernel, by decide +kernel⟩, List.mem_of_getElem? (i := 270) (by decide +kernel), List.mem_of_getElem? (i := 1010) (by decide +kernel), List.mem_of_getElem? (i := 1011) (by decide +kernel)⟩
theorem lw_p37 : lw_okq (⟨"KeyFistsModel", "feeds", "(I)V"⟩, 56) := ⟨⟨by decide +kernel, by decide +kernel⟩, List.mem_of_getElem? (i := 1053) (by decide +kernel), List.mem_of_getElem? (i := 1241) (by decide +kernel), List.mem_of_getElem? (i := 1242) (by decide +kernel)⟩
theorem lw_p38 : lw_okq (⟨"KeyFistsModel", "reads", "()V"⟩, 56) := ⟨⟨by decide +kernel, by decide +kernel⟩, List.mem_of_getElem? (i := 1053) (by decide +kernel), List.mem_of_getElem? (i := 1256) (by decide +kernel), List.mem_of_getElem? (i := 1257) (by decide +kernel)⟩
theorem lw_p39 : lw_okq (⟨"KeyFistsModel", "next", "()V"⟩, 56) := ⟨⟨by decide +kernel, by decide +kernel⟩, List.mem_of_getElem? (i := 1053) (by decide +kernel), List.mem_of_getElem? (i := 1260) (by decide +kernel), List.mem_of_getElem? (i := 1261) (by decide +kernel)⟩
theorem lw_p40 : lw_okq (⟨"KeyFistsModel", "between", "(III)Z"⟩, 56) := ⟨⟨by decide +kernel, by decide +kernel⟩, List.mem_of_getElem? (i := 1053) (by decide +kernel), List.mem_of_getElem? (i := 1264) (by decide +kernel), List.mem_of_getElem? (i := 1265) (by decide +kernel)⟩
theorem lw_p41 : lw_okq (⟨"KeyFistsModel", "isWord", "(I)Z"⟩, 56) := ⟨⟨by decide +kernel, by decide +kernel⟩, List.mem_of_getElem? (i := 1053) (by decide +kernel), List.mem_of_getElem? (i := 1268) (by decide +kernel), List.mem_of_getElem? (i := 1269) (by decide +kernel)⟩
theorem lw_p42 : lw_okq (⟨"KeyFistsModel", "passes", "(Z)Z"⟩, 56) := ⟨⟨by decide +kernel, by decide +kernel⟩, List.mem_of_getElem? (i := 1053) (by decide +kernel), List.mem_of_getElem? (i := 1274) (by decide +kernel), List.mem_of_getElem? (i := 1275) (by decide +kernel)⟩
theorem lw_p43 : lw_okq (⟨"KeyFistsModel", "letterRead", "()Z"⟩, 56) := ⟨⟨by decide +kernel, by decide +kernel⟩, List.mem_of_getElem? (i := 1053) (by decide +kernel), List.mem_of_getElem? (i := 1278) (by decide +kernel), List.mem_of_getElem? (i := 1279) (by decide +kernel)⟩
theorem lw_p44 : lw_okq (⟨"KeyFistsModel", "marksHere", "()I"⟩, 56) := ⟨⟨by decide +kernel, by decide +kernel⟩, List.mem_of_getElem? (i := 1053) (by decide +kernel), List.mem_of_getElem? (i := 1282) (by decide +kernel), List.mem_of_getElem? (i := 1283) (by decide +kernel)⟩
theorem lw_p45 : lw_okq (⟨"KeyFistsModel", "closes", "()Z"⟩, 56) := ⟨⟨by decide +kernel, by decide +kernel⟩, List.mem_of_getElem? (i := 1053) (by decide +kernel), List.mem_of_getElem? (i := 1286) (by decide +kernel), List.mem_of_getElem? (i := 1287) (by decide +kernel)⟩
theorem lw_p46 : lw_okq (⟨"KeyFistsModel", "wordRead", "()Z"⟩, 56) := ⟨⟨by decide +kernel, by decide +kernel⟩, List.mem_of_getElem? (i := 1053) (by decide +kernel), List.mem_of_getElem? (i := 1290) (by decide +kernel), List.mem_of_getElem? (i := 1291) (by decide +kernel)⟩
theorem lw_p47 : lw_okq (⟨"KeyFistsModel", "nameHere", "()J"⟩, 56) := ⟨⟨by decide +kernel, by decide +kernel⟩, List.mem_of_getElem? (i := 1053) (by decide +kernel), List.mem_of_getElem? (i := 1294) (by decide +kernel), List.mem_of_getElem? (i := 1295) (by decide +kernel)⟩
def lw_privs_3 : List (MethodName × Nat) := [(⟨"KeyFists$Post", "beginOn", "(II)I"⟩, 13), (⟨"KeyFists$Clocks", "boundByClocks", "()V"⟩, 10), (⟨"KeyFists$Clocks", "boundByFacts", "()V"⟩, 10), (⟨"KeyFists$Clocks", "tightenThrough", "(I)V"⟩, 10), (⟨"KeyFists$Clocks", "contradicts", "()Z"⟩, 10), (⟨"KeyFistsModel", "feeds", "(I)V"⟩, 56), (⟨"KeyFistsModel", "reads", "()V"⟩, 56), (⟨"KeyFistsModel", "next", "()V"⟩, 56), (⟨"KeyFistsModel", "between", "(III)Z"⟩, 56), (⟨"KeyFistsModel", "isWord", "(I)Z"⟩, 56), (⟨"KeyFistsModel", "passes", "(Z)Z"⟩, 56), (⟨"KeyFistsModel", "letterRead", "()Z"⟩, 56), (⟨"KeyFistsModel", "marksHere", "()I"⟩, 56), (⟨"KeyFistsModel", "closes", "()Z"⟩, 56), (⟨"KeyFistsModel", "wordRead", "()Z"⟩, 56), (⟨"KeyFistsModel", "nameHere", "()J"⟩, 56)]
theorem lw_r3 : ∀ q ∈ lw_privs_3, lw_okq q := List.forall_mem_cons.mpr ⟨lw_p32, List.forall_mem_cons.mpr ⟨lw_p33, List.forall_mem_cons.mpr ⟨lw_p34, List.forall_mem_cons.mpr ⟨lw_p35, List.forall_mem_cons.mpr ⟨lw_p36, List.forall_mem_cons.mpr ⟨lw_p37, List.forall_mem_cons.mpr ⟨lw_p38, List.forall_mem_cons.mpr ⟨lw_p39, List.forall_mem_cons.mpr ⟨lw_p40, List.forall_mem_cons.mpr ⟨lw_p41, List.forall_mem_cons.mpr ⟨lw_p42, List.forall_mem_cons.mpr ⟨lw_p43, List.forall_mem_cons.mpr ⟨lw_p44, List.forall_mem_cons.mpr ⟨lw_p45, List.forall_mem_cons.mpr ⟨lw_p46, List.forall_mem_cons.mpr ⟨lw_p47, fun _ h => absurd h List.not_mem_nil⟩⟩⟩⟩⟩⟩⟩⟩⟩⟩⟩⟩⟩⟩⟩⟩
theorem lw_p48 : lw_okq (⟨"KeyFistsModel", "groupHere", "()I"⟩, 56) := ⟨⟨by decide +kernel, by decide +kernel⟩, List.mem_of_getElem? (i := 1053) (by decide +kernel), List.mem_of_getElem? (i := 1301) (by decide +kernel), List.mem_of_getElem? (i := 1302) (by decide +kernel)⟩
theorem lw_p49 : lw_okq (⟨"KeyFistsModel", "span", "(II)V"⟩, 56) := ⟨⟨by decide +kernel, by decide +kernel⟩, List.mem_of_getElem? (i := 1053) (by decide +kernel), List.mem_of_getElem? (i := 1326) (by decide +kernel), List.mem_of_getElem? (i := 1327) (by decide +kernel)⟩
theorem lw_p50 : lw_okq (⟨"KeyFistsModel", "isLine", "(I)Z"⟩, 56) := ⟨⟨by decide +kernel, by decide +kernel⟩, List.mem_of_getElem? (i := 1053) (by decide +kernel), List.mem_of_getElem? (i := 1349) (by decide +kernel), List.mem_of_getElem? (i := 1350) (by decide +kernel)⟩
theorem lw_p51 : lw_okq (⟨"KeyFistsModel", "biteOf", "(I)I"⟩, 56) := ⟨⟨by decide +kernel, by decide +kernel⟩, List.mem_of_getElem? (i := 1053) (by decide +kernel), List.mem_of_getElem? (i := 1353) (by decide +kernel), List.mem_of_getElem? (i := 1354) (by decide +kernel)⟩
theorem lw_p52 : lw_okq (⟨"KeyFistsModel", "takes", "(II)Z"⟩, 56) := ⟨⟨by decide +kernel, by decide +kernel⟩, List.mem_of_getElem? (i := 1053) (by decide +kernel), List.mem_of_getElem? (i := 1374) (by decide +kernel), List.mem_of_getElem? (i := 1375) (by decide +kernel)⟩
theorem lw_p53 : lw_okq (⟨"KeyFistsModel", "isHand", "(I)Z"⟩, 56) := ⟨⟨by decide +kernel, by decide +kernel⟩, List.mem_of_getElem? (i := 1053) (by decide +kernel), List.mem_of_getElem? (i := 1378) (by decide +kernel), List.mem_of_getElem? (i := 1379) (by decide +kernel)⟩
theorem lw_p54 : lw_okq (⟨"KeyFistsModel", "stands", "(II)Z"⟩, 56) := ⟨⟨by decide +kernel, by decide +kernel⟩, List.mem_of_getElem? (i := 1053) (by decide +kernel), List.mem_of_getElem? (i := 1382) (by decide +kernel), List.mem_of_getElem? (i := 1383) (by decide +kernel)⟩
theorem lw_p55 : lw_okq (⟨"KeyFistsModel", "isOf", "(II)Z"⟩, 56) := ⟨⟨by decide +kernel, by decide +kernel⟩, List.mem_of_getElem? (i := 1053) (by decide +kernel), List.mem_of_getElem? (i := 1392) (by decide +kernel), List.mem_of_getElem? (i := 1393) (by decide +kernel)⟩
theorem lw_p56 : lw_okq (⟨"KeyFistsModel", "sentAt", "(I)I"⟩, 56) := ⟨⟨by decide +kernel, by decide +kernel⟩, List.mem_of_getElem? (i := 1053) (by decide +kernel), List.mem_of_getElem? (i := 1396) (by decide +kernel), List.mem_of_getElem? (i := 1397) (by decide +kernel)⟩
theorem lw_p57 : lw_okq (⟨"KeyFistsModel", "whole", "(III)I"⟩, 56) := ⟨⟨by decide +kernel, by decide +kernel⟩, List.mem_of_getElem? (i := 1053) (by decide +kernel), List.mem_of_getElem? (i := 1406) (by decide +kernel), List.mem_of_getElem? (i := 1407) (by decide +kernel)⟩
theorem lw_p58 : lw_okq (⟨"KeyFistsModel", "costFrom", "(II)I"⟩, 56) := ⟨⟨by decide +kernel, by decide +kernel⟩, List.mem_of_getElem? (i := 1053) (by decide +kernel), List.mem_of_getElem? (i := 1410) (by decide +kernel), List.mem_of_getElem? (i := 1411) (by decide +kernel)⟩
theorem lw_p59 : lw_okq (⟨"KeyFistsModel", "costOf", "(II)I"⟩, 56) := ⟨⟨by decide +kernel, by decide +kernel⟩, List.mem_of_getElem? (i := 1053) (by decide +kernel), List.mem_of_getElem? (i := 1414) (by decide +kernel), List.mem_of_getElem? (i := 1415) (by decide +kernel)⟩
theorem lw_p60 : lw_okq (⟨"KeyFistsModel", "canSay", "()Z"⟩, 56) := ⟨⟨by decide +kernel, by decide +kernel⟩, List.mem_of_getElem? (i := 1053) (by decide +kernel), List.mem_of_getElem? (i := 1423) (by decide +kernel), List.mem_of_getElem? (i := 1424) (by decide +kernel)⟩
theorem lw_p61 : lw_okq (⟨"KeyFistsModel", "isSaying", "()Z"⟩, 56) := ⟨⟨by decide +kernel, by decide +kernel⟩, List.mem_of_getElem? (i := 1053) (by decide +kernel), List.mem_of_getElem? (i := 1427) (by decide +kernel), List.mem_of_getElem? (i := 1428) (by decide +kernel)⟩
theorem lw_p62 : lw_okq (⟨"KeyFistsModel", "lays", "()Z"⟩, 56) := ⟨⟨by decide +kernel, by decide +kernel⟩, List.mem_of_getElem? (i := 1053) (by decide +kernel), List.mem_of_getElem? (i := 1431) (by decide +kernel), List.mem_of_getElem? (i := 1432) (by decide +kernel)⟩
theorem lw_p63 : lw_okq (⟨"KeyFistsModel", "adds", "(I)V"⟩, 56) := ⟨⟨by decide +kernel, by decide +kernel⟩, List.mem_of_getElem? (i := 1053) (by decide +kernel), List.mem_of_getElem? (i := 1435) (by decide +kernel), List.mem_of_getElem? (i := 1436) (by decide +kernel)⟩
def lw_privs_4 : List (MethodName × Nat) := [(⟨"KeyFistsModel", "groupHere", "()I"⟩, 56), (⟨"KeyFistsModel", "span", "(II)V"⟩, 56), (⟨"KeyFistsModel", "isLine", "(I)Z"⟩, 56), (⟨"KeyFistsModel", "biteOf", "(I)I"⟩, 56), (⟨"KeyFistsModel", "takes", "(II)Z"⟩, 56), (⟨"KeyFistsModel", "isHand", "(I)Z"⟩, 56), (⟨"KeyFistsModel", "stands", "(II)Z"⟩, 56), (⟨"KeyFistsModel", "isOf", "(II)Z"⟩, 56), (⟨"KeyFistsModel", "sentAt", "(I)I"⟩, 56), (⟨"KeyFistsModel", "whole", "(III)I"⟩, 56), (⟨"KeyFistsModel", "costFrom", "(II)I"⟩, 56), (⟨"KeyFistsModel", "costOf", "(II)I"⟩, 56), (⟨"KeyFistsModel", "canSay", "()Z"⟩, 56), (⟨"KeyFistsModel", "isSaying", "()Z"⟩, 56), (⟨"KeyFistsModel", "lays", "()Z"⟩, 56), (⟨"KeyFistsModel", "adds", "(I)V"⟩, 56)]
theorem lw_r4 : ∀ q ∈ lw_privs_4, lw_okq q := List.forall_mem_cons.mpr ⟨lw_p48, List.forall_mem_cons.mpr ⟨lw_p49, List.forall_mem_cons.mpr ⟨lw_p50, List.forall_mem_cons.mpr ⟨lw_p51, List.forall_mem_cons.mpr ⟨lw_p52, List.forall_mem_cons.mpr ⟨lw_p53, List.forall_mem_cons.mpr ⟨lw_p54, List.forall_mem_cons.mpr ⟨lw_p55, List.forall_mem_cons.mpr ⟨lw_p56, List.forall_mem_cons.mpr ⟨lw_p57, List.forall_mem_cons.mpr ⟨lw_p58, List.forall_mem_cons.mpr ⟨lw_p59, List.forall_mem_cons.mpr ⟨lw_p60, List.forall_mem_cons.mpr ⟨lw_p61, List.forall_mem_cons.mpr ⟨lw_p62, List.forall_mem_cons.mpr ⟨lw_p63, fun _ h => absurd h List.not_mem_nil⟩⟩⟩⟩⟩⟩⟩⟩⟩⟩⟩⟩⟩⟩⟩⟩
theorem lw_p64 : lw_okq (⟨"KeyFistsModel", "saysBy", "(II)Z"⟩, 56) := ⟨⟨by decide +kernel, by decide +kernel⟩, List.mem_of_getElem? (i := 1053) (by decide +kernel), List.mem_of_getElem? (i := 1439) (by decide +kernel), List.mem_of_getElem? (i := 1440) (by decide +kernel)⟩
theorem lw_p65 : lw_okq (⟨"KeyFistsModel", "product", "(II)V"⟩, 56) := ⟨⟨by decide +kernel, by decide +kernel⟩, List.mem_of_getElem? (i := 1053) (by decide +kernel), List.mem_of_getElem? (i := 1447) (by decide +kernel), List.mem_of_getElem? (i := 1448) (by decide +kernel)⟩
theorem lw_p66 : lw_okq (⟨"KeyFistsModel", "grows", "(II)V"⟩, 56) := ⟨⟨by decide +kernel, by decide +kernel⟩, List.mem_of_getElem? (i := 1053) (by decide +kernel), List.mem_of_getElem? (i := 1451) (by decide +kernel), List.mem_of_getElem? (i := 1452) (by decide +kernel)⟩
theorem lw_p67 : lw_okq (⟨"KeyFistsModel", "firstLine", "(II)I"⟩, 56) := ⟨⟨by decide +kernel, by decide +kernel⟩, List.mem_of_getElem? (i := 1053) (by decide +kernel), List.mem_of_getElem? (i := 1474) (by decide +kernel), List.mem_of_getElem? (i := 1475) (by decide +kernel)⟩
theorem lw_p68 : lw_okq (⟨"KeyFistsModel", "leads", "(I)V"⟩, 56) := ⟨⟨by decide +kernel, by decide +kernel⟩, List.mem_of_getElem? (i := 1053) (by decide +kernel), List.mem_of_getElem? (i := 1478) (by decide +kernel), List.mem_of_getElem? (i := 1479) (by decide +kernel)⟩
theorem lw_p69 : lw_okq (⟨"KeyFistsModel", "runs", "(II)V"⟩, 56) := ⟨⟨by decide +kernel, by decide +kernel⟩, List.mem_of_getElem? (i := 1053) (by decide +kernel), List.mem_of_getElem? (i := 1494) (by decide +kernel), List.mem_of_getElem? (i := 1495) (by decide +kernel)⟩
theorem lw_p70 : lw_okq (⟨"KeyFistsModel", "comesTo", "(III)V"⟩, 56) := ⟨⟨by decide +kernel, by decide +kernel⟩, List.mem_of_getElem? (i := 1053) (by decide +kernel), List.mem_of_getElem? (i := 1498) (by decide +kernel), List.mem_of_getElem? (i := 1499) (by decide +kernel)⟩
theorem lw_p71 : lw_okq (⟨"KeyFistsModel", "chosen", "(II)I"⟩, 56) := ⟨⟨by decide +kernel, by decide +kernel⟩, List.mem_of_getElem? (i := 1053) (by decide +kernel), List.mem_of_getElem? (i := 1502) (by decide +kernel), List.mem_of_getElem? (i := 1503) (by decide +kernel)⟩
theorem lw_p72 : lw_okq (⟨"KeyFistsModel", "isEvent", "(I)Z"⟩, 56) := ⟨⟨by decide +kernel, by decide +kernel⟩, List.mem_of_getElem? (i := 1053) (by decide +kernel), List.mem_of_getElem? (i := 1523) (by decide +kernel), List.mem_of_getElem? (i := 1524) (by decide +kernel)⟩
theorem lw_p73 : lw_okq (⟨"KeyFistsModel", "canBe", "()Z"⟩, 56) := ⟨⟨by decide +kernel, by decide +kernel⟩, List.mem_of_getElem? (i := 1053) (by decide +kernel), List.mem_of_getElem? (i := 1536) (by decide +kernel), List.mem_of_getElem? (i := 1537) (by decide +kernel)⟩
theorem lw_p74 : lw_okq (⟨"KeyFistsModel", "bounds", "(III)V"⟩, 56) := ⟨⟨by decide +kernel, by decide +kernel⟩, List.mem_of_getElem? (i := 1053) (by decide +kernel), List.mem_of_getElem? (i := 1541) (by decide +kernel), List.mem_of_getElem? (i := 1542) (by decide +kernel)⟩
def lw_privs_5 : List (MethodName × Nat) := [(⟨"KeyFistsModel", "saysBy", "(II)Z"⟩, 56), (⟨"KeyFistsModel", "product", "(II)V"⟩, 56), (⟨"KeyFistsModel", "grows", "(II)V"⟩, 56), (⟨"KeyFistsModel", "firstLine", "(II)I"⟩, 56), (⟨"KeyFistsModel", "leads", "(I)V"⟩, 56), (⟨"KeyFistsModel", "runs", "(II)V"⟩, 56), (⟨"KeyFistsModel", "comesTo", "(III)V"⟩, 56), (⟨"KeyFistsModel", "chosen", "(II)I"⟩, 56), (⟨"KeyFistsModel", "isEvent", "(I)Z"⟩, 56), (⟨"KeyFistsModel", "canBe", "()Z"⟩, 56), (⟨"KeyFistsModel", "bounds", "(III)V"⟩, 56)]
theorem lw_r5 : ∀ q ∈ lw_privs_5, lw_okq q := List.forall_mem_cons.mpr ⟨lw_p64, List.forall_mem_cons.mpr ⟨lw_p65, List.forall_mem_cons.mpr ⟨lw_p66, List.forall_mem_cons.mpr ⟨lw_p67, List.forall_mem_cons.mpr ⟨lw_p68, List.forall_mem_cons.mpr ⟨lw_p69, List.forall_mem_cons.mpr ⟨lw_p70, List.forall_mem_cons.mpr ⟨lw_p71, List.forall_mem_cons.mpr ⟨lw_p72, List.forall_mem_cons.mpr ⟨lw_p73, List.forall_mem_cons.mpr ⟨lw_p74, fun _ h => absurd h List.not_mem_nil⟩⟩⟩⟩⟩⟩⟩⟩⟩⟩⟩
def lw_privs : List (MethodName × Nat) := lw_privs_1 ++ (lw_privs_2 ++ (lw_privs_3 ++ (lw_privs_4 ++ (lw_privs_5))))
def lw_tbl : List Cond := k2_sels lw_privs ++ tables_1
theorem lw_privs_ok : ∀ q ∈ lw_privs, lw_okq q := by
  show ∀ q ∈ lw_privs_1 ++ (lw_privs_2 ++ (lw_privs_3 ++ (lw_privs_4 ++ (lw_privs_5)))), lw_okq q
  exact List.forall_mem_append.mpr ⟨lw_r1, List.forall_mem_append.mpr ⟨lw_r2, List.forall_mem_append.mpr ⟨lw_r3, List.forall_mem_append.mpr ⟨lw_r4, lw_r5⟩⟩⟩⟩
end
section
/-! ===== BEGIN printed: names, fields, word lists, decode rows ===== -/
def RX0 : String := "KeyFists$Clocks"
def TX0 : u_T := fun k => match k with
  | 0 => ("KeyFists$Clocks", "leasts", "[I", true)
  | 1 => ("KeyFists$Clocks", "greatests", "[I", true)
  | 2 => ("KeyFists$Clocks", "stations", "[I", true)
  | 3 => ("KeyFists$Clocks", "minutes", "[I", true)
  | 4 => ("KeyFists$Clocks", "events", "I", false)
  | 5 => ("KeyFists$Clocks", "laters", "[I", true)
  | 6 => ("KeyFists$Clocks", "earliers", "[I", true)
  | 7 => ("KeyFists$Clocks", "gaps", "[I", true)
  | 8 => ("KeyFists$Clocks", "facts", "I", false)
  | _ => ("KeyFists$Clocks", "mostAhead", "[[I", true)
def tyX0 : Nat → FieldType := fun k => match k with
  | 0 => .array .int
  | 1 => .array .int
  | 2 => .array .int
  | 3 => .array .int
  | 4 => .int
  | 5 => .array .int
  | 6 => .array .int
  | 7 => .array .int
  | 8 => .int
  | _ => .array (.array .int)
abbrev wsX00 : List Cond := u_ws RX0 TX0 10
theorem nmX0 : ∀ a, a < 10 → ∀ b, b < 10 → a ≠ b → (TX0 a).2.1 ≠ (TX0 b).2.1 := by decide +kernel
theorem tyX0_ok : ∀ k, k < 10 → parseFieldDescriptor (TX0 k).2.2.1 = some (tyX0 k) := by decide +kernel
abbrev cX0_init : ByteArray := prog_2_method_1_code
def yX0_init : MethodName := ⟨RX0, "<init>", "()V"⟩
abbrev cX0_events : ByteArray := prog_2_method_2_code
def yX0_events : MethodName := ⟨RX0, "events", "()I"⟩
abbrev cX0_facts : ByteArray := prog_2_method_3_code
def yX0_facts : MethodName := ⟨RX0, "facts", "()I"⟩
abbrev cX0_hasEvent : ByteArray := prog_2_method_4_code
def yX0_hasEvent : MethodName := ⟨RX0, "hasEvent", "(I)Z"⟩
abbrev cX0_setClock : ByteArray := prog_2_method_5_code
def yX0_setClock : MethodName := ⟨RX0, "setClock", "(III)V"⟩
abbrev cX0_addEvent : ByteArray := prog_2_method_6_code
def yX0_addEvent : MethodName := ⟨RX0, "addEvent", "(II)I"⟩
abbrev cX0_addFact : ByteArray := prog_2_method_7_code
def yX0_addFact : MethodName := ⟨RX0, "addFact", "(III)I"⟩
abbrev cX0_dropFact : ByteArray := prog_2_method_8_code
def yX0_dropFact : MethodName := ⟨RX0, "dropFact", "()I"⟩
abbrev cX0_canBe : ByteArray := prog_2_method_9_code
def yX0_canBe : MethodName := ⟨RX0, "canBe", "()Z"⟩
abbrev cX0_boundByClocks : ByteArray := prog_2_method_10_code
def yX0_boundByClocks : MethodName := ⟨RX0, "boundByClocks", "()V"⟩
abbrev cX0_boundByFacts : ByteArray := prog_2_method_11_code
def yX0_boundByFacts : MethodName := ⟨RX0, "boundByFacts", "()V"⟩
abbrev cX0_tightenThrough : ByteArray := prog_2_method_12_code
def yX0_tightenThrough : MethodName := ⟨RX0, "tightenThrough", "(I)V"⟩
abbrev cX0_contradicts : ByteArray := prog_2_method_13_code
def yX0_contradicts : MethodName := ⟨RX0, "contradicts", "()Z"⟩
abbrev cX0_leastBehind : ByteArray := prog_2_method_14_code
def yX0_leastBehind : MethodName := ⟨RX0, "leastBehind", "(II)I"⟩
abbrev cX0_greatestBehind : ByteArray := prog_2_method_15_code
def yX0_greatestBehind : MethodName := ⟨RX0, "greatestBehind", "(II)I"⟩
def RX1 : String := "KeyFists$Code"
def TX1 : u_T := fun k => match k with
  | 0 => ("KeyFists$Code", "marks", "[I", true)
  | 1 => ("KeyFists$Code", "sizes", "[I", true)
  | 2 => ("KeyFists$Code", "kinds", "[I", true)
  | 3 => ("KeyFists$Code", "groups", "[I", true)
  | 4 => ("KeyFists$Code", "letters", "I", false)
  | _ => ("KeyFists$Code", "words", "I", false)
def tyX1 : Nat → FieldType := fun k => match k with
  | 0 => .array .int
  | 1 => .array .int
  | 2 => .array .int
  | 3 => .array .int
  | 4 => .int
  | _ => .int
abbrev wsX10 : List Cond := u_ws RX1 TX1 6
theorem nmX1 : ∀ a, a < 6 → ∀ b, b < 6 → a ≠ b → (TX1 a).2.1 ≠ (TX1 b).2.1 := by decide +kernel
theorem tyX1_ok : ∀ k, k < 6 → parseFieldDescriptor (TX1 k).2.2.1 = some (tyX1 k) := by decide +kernel
abbrev cX1_init : ByteArray := prog_3_method_1_code
def yX1_init : MethodName := ⟨RX1, "<init>", "()V"⟩
abbrev cX1_empty : ByteArray := prog_3_method_2_code
def yX1_empty : MethodName := ⟨RX1, "empty", "()V"⟩
abbrev cX1_become : ByteArray := prog_3_method_3_code
def yX1_become : MethodName := ⟨RX1, "become", "(LKeyFists$Code;)V"⟩
abbrev cX1_letters : ByteArray := prog_3_method_4_code
def yX1_letters : MethodName := ⟨RX1, "letters", "()I"⟩
abbrev cX1_words : ByteArray := prog_3_method_5_code
def yX1_words : MethodName := ⟨RX1, "words", "()I"⟩
abbrev cX1_hasRoomForWord : ByteArray := prog_3_method_6_code
def yX1_hasRoomForWord : MethodName := ⟨RX1, "hasRoomForWord", "()Z"⟩
abbrev cX1_hasLetter : ByteArray := prog_3_method_7_code
def yX1_hasLetter : MethodName := ⟨RX1, "hasLetter", "(I)Z"⟩
abbrev cX1_hasMarks : ByteArray := prog_3_method_8_code
def yX1_hasMarks : MethodName := ⟨RX1, "hasMarks", "(I)Z"⟩
abbrev cX1_hasGroup : ByteArray := prog_3_method_9_code
def yX1_hasGroup : MethodName := ⟨RX1, "hasGroup", "(I)Z"⟩
abbrev cX1_addLetter : ByteArray := prog_3_method_10_code
def yX1_addLetter : MethodName := ⟨RX1, "addLetter", "(II)V"⟩
abbrev cX1_addGroup : ByteArray := prog_3_method_11_code
def yX1_addGroup : MethodName := ⟨RX1, "addGroup", "(I)V"⟩
abbrev cX1_marksOf : ByteArray := prog_3_method_12_code
def yX1_marksOf : MethodName := ⟨RX1, "marksOf", "(I)I"⟩
abbrev cX1_sizeOf : ByteArray := prog_3_method_13_code
def yX1_sizeOf : MethodName := ⟨RX1, "sizeOf", "(I)I"⟩
abbrev cX1_kindOf : ByteArray := prog_3_method_14_code
def yX1_kindOf : MethodName := ⟨RX1, "kindOf", "(II)I"⟩
abbrev cX1_groupOf : ByteArray := prog_3_method_15_code
def yX1_groupOf : MethodName := ⟨RX1, "groupOf", "(I)I"⟩
abbrev cX1_kthNear : ByteArray := prog_3_method_16_code
def yX1_kthNear : MethodName := ⟨RX1, "kthNear", "(III)I"⟩
abbrev cX1_unlikeLetters : ByteArray := prog_3_method_17_code
def yX1_unlikeLetters : MethodName := ⟨RX1, "unlikeLetters", "(II)I"⟩
def RX2 : String := "KeyFists$Grammar"
def TX2 : u_T := fun k => match k with
  | 0 => ("KeyFists$Grammar", "text", "LKeyFists$Text;", true)
  | 1 => ("KeyFists$Grammar", "code", "LKeyFists$Code;", true)
  | 2 => ("KeyFists$Grammar", "nameStarts", "[I", true)
  | 3 => ("KeyFists$Grammar", "nameSizes", "[I", true)
  | 4 => ("KeyFists$Grammar", "kind", "I", false)
  | 5 => ("KeyFists$Grammar", "start", "I", false)
  | _ => ("KeyFists$Grammar", "behind", "I", false)
def tyX2 : Nat → FieldType := fun k => match k with
  | 0 => .object "KeyFists$Text"
  | 1 => .object "KeyFists$Code"
  | 2 => .array .int
  | 3 => .array .int
  | 4 => .int
  | 5 => .int
  | _ => .int
abbrev wsX20 : List Cond := u_ws RX2 TX2 7
theorem nmX2 : ∀ a, a < 7 → ∀ b, b < 7 → a ≠ b → (TX2 a).2.1 ≠ (TX2 b).2.1 := by decide +kernel
theorem tyX2_ok : ∀ k, k < 7 → parseFieldDescriptor (TX2 k).2.2.1 = some (tyX2 k) := by decide +kernel
abbrev cX2_init : ByteArray := prog_4_method_1_code
def yX2_init : MethodName := ⟨RX2, "<init>", "(LKeyFists$Text;LKeyFists$Code;)V"⟩
abbrev cX2_parse : ByteArray := prog_4_method_2_code
def yX2_parse : MethodName := ⟨RX2, "parse", "()I"⟩
abbrev cX2_parseLine : ByteArray := prog_4_method_3_code
def yX2_parseLine : MethodName := ⟨RX2, "parseLine", "()Z"⟩
abbrev cX2_parseLetter : ByteArray := prog_4_method_4_code
def yX2_parseLetter : MethodName := ⟨RX2, "parseLetter", "()Z"⟩
abbrev cX2_parseWord : ByteArray := prog_4_method_5_code
def yX2_parseWord : MethodName := ⟨RX2, "parseWord", "()Z"⟩
abbrev cX2_step : ByteArray := prog_4_method_6_code
def yX2_step : MethodName := ⟨RX2, "step", "()V"⟩
abbrev cX2_kindAt : ByteArray := prog_4_method_7_code
def yX2_kindAt : MethodName := ⟨RX2, "kindAt", "(I)I"⟩
abbrev cX2_tokenSize : ByteArray := prog_4_method_8_code
def yX2_tokenSize : MethodName := ⟨RX2, "tokenSize", "()I"⟩
abbrev cX2_isWord : ByteArray := prog_4_method_9_code
def yX2_isWord : MethodName := ⟨RX2, "isWord", "(Ljava/lang/String;)Z"⟩
abbrev cX2_marksHere : ByteArray := prog_4_method_10_code
def yX2_marksHere : MethodName := ⟨RX2, "marksHere", "()I"⟩
abbrev cX2_groupHere : ByteArray := prog_4_method_11_code
def yX2_groupHere : MethodName := ⟨RX2, "groupHere", "()I"⟩
abbrev cX2_isNewName : ByteArray := prog_4_method_12_code
def yX2_isNewName : MethodName := ⟨RX2, "isNewName", "(I)Z"⟩
abbrev cX2_isName : ByteArray := prog_4_method_13_code
def yX2_isName : MethodName := ⟨RX2, "isName", "(I)Z"⟩
abbrev cX2_noteName : ByteArray := prog_4_method_14_code
def yX2_noteName : MethodName := ⟨RX2, "noteName", "(I)V"⟩
def RX3 : String := "KeyFists$Hands"
def TX3 : u_T := fun k => match k with
  | 0 => ("KeyFists$Hands", "spans", "[I", true)
  | _ => ("KeyFists$Hands", "size", "I", false)
def tyX3 : Nat → FieldType := fun k => match k with
  | 0 => .array .int
  | _ => .int
abbrev wsX30 : List Cond := u_ws RX3 TX3 2
theorem nmX3 : ∀ a, a < 2 → ∀ b, b < 2 → a ≠ b → (TX3 a).2.1 ≠ (TX3 b).2.1 := by decide +kernel
theorem tyX3_ok : ∀ k, k < 2 → parseFieldDescriptor (TX3 k).2.2.1 = some (tyX3 k) := by decide +kernel
abbrev cX3_init : ByteArray := prog_5_method_1_code
def yX3_init : MethodName := ⟨RX3, "<init>", "()V"⟩
abbrev cX3_size : ByteArray := prog_5_method_2_code
def yX3_size : MethodName := ⟨RX3, "size", "()I"⟩
abbrev cX3_has : ByteArray := prog_5_method_3_code
def yX3_has : MethodName := ⟨RX3, "has", "(I)Z"⟩
abbrev cX3_isSpan : ByteArray := prog_5_method_4_code
def yX3_isSpan : MethodName := ⟨RX3, "isSpan", "(I)Z"⟩
abbrev cX3_add : ByteArray := prog_5_method_5_code
def yX3_add : MethodName := ⟨RX3, "add", "(IIIII)I"⟩
abbrev cX3_leastOf : ByteArray := prog_5_method_6_code
def yX3_leastOf : MethodName := ⟨RX3, "leastOf", "(II)I"⟩
abbrev cX3_greatestOf : ByteArray := prog_5_method_7_code
def yX3_greatestOf : MethodName := ⟨RX3, "greatestOf", "(II)I"⟩
abbrev cX3_choicesOf : ByteArray := prog_5_method_8_code
def yX3_choicesOf : MethodName := ⟨RX3, "choicesOf", "(II)I"⟩
abbrev cX3_spanOf : ByteArray := prog_5_method_9_code
def yX3_spanOf : MethodName := ⟨RX3, "spanOf", "(II)I"⟩
def RX4 : String := "KeyFists$Lines"
def TX4 : u_T := fun k => match k with
  | 0 => ("KeyFists$Lines", "starts", "[I", true)
  | 1 => ("KeyFists$Lines", "ends", "[I", true)
  | 2 => ("KeyFists$Lines", "bites", "[I", true)
  | 3 => ("KeyFists$Lines", "leaks", "[I", true)
  | 4 => ("KeyFists$Lines", "distances", "[I", true)
  | 5 => ("KeyFists$Lines", "found", "[I", true)
  | 6 => ("KeyFists$Lines", "foundSize", "I", false)
  | 7 => ("KeyFists$Lines", "size", "I", false)
  | _ => ("KeyFists$Lines", "rainNow", "I", false)
def tyX4 : Nat → FieldType := fun k => match k with
  | 0 => .array .int
  | 1 => .array .int
  | 2 => .array .int
  | 3 => .array .int
  | 4 => .array .int
  | 5 => .array .int
  | 6 => .int
  | 7 => .int
  | _ => .int
abbrev wsX40 : List Cond := u_ws RX4 TX4 9
theorem nmX4 : ∀ a, a < 9 → ∀ b, b < 9 → a ≠ b → (TX4 a).2.1 ≠ (TX4 b).2.1 := by decide +kernel
theorem tyX4_ok : ∀ k, k < 9 → parseFieldDescriptor (TX4 k).2.2.1 = some (tyX4 k) := by decide +kernel
abbrev cX4_init : ByteArray := prog_6_method_1_code
def yX4_init : MethodName := ⟨RX4, "<init>", "()V"⟩
abbrev cX4_size : ByteArray := prog_6_method_2_code
def yX4_size : MethodName := ⟨RX4, "size", "()I"⟩
abbrev cX4_rainNow : ByteArray := prog_6_method_3_code
def yX4_rainNow : MethodName := ⟨RX4, "rainNow", "()I"⟩
abbrev cX4_setRain : ByteArray := prog_6_method_4_code
def yX4_setRain : MethodName := ⟨RX4, "setRain", "(I)V"⟩
abbrev cX4_has : ByteArray := prog_6_method_5_code
def yX4_has : MethodName := ⟨RX4, "has", "(I)Z"⟩
abbrev cX4_add : ByteArray := prog_6_method_6_code
def yX4_add : MethodName := ⟨RX4, "add", "(IIII)I"⟩
abbrev cX4_biteOf : ByteArray := prog_6_method_7_code
def yX4_biteOf : MethodName := ⟨RX4, "biteOf", "(I)I"⟩
abbrev cX4_endOf : ByteArray := prog_6_method_8_code
def yX4_endOf : MethodName := ⟨RX4, "endOf", "(I)I"⟩
abbrev cX4_routeAt : ByteArray := prog_6_method_9_code
def yX4_routeAt : MethodName := ⟨RX4, "routeAt", "(I)I"⟩
abbrev cX4_findRoute : ByteArray := prog_6_method_10_code
def yX4_findRoute : MethodName := ⟨RX4, "findRoute", "(II)I"⟩
abbrev cX4_measureDistances : ByteArray := prog_6_method_11_code
def yX4_measureDistances : MethodName := ⟨RX4, "measureDistances", "(I)V"⟩
abbrev cX4_firstTowards : ByteArray := prog_6_method_12_code
def yX4_firstTowards : MethodName := ⟨RX4, "firstTowards", "(I)I"⟩
def RX5 : String := "KeyFists$Post"
def TX5 : u_T := fun k => match k with
  | 0 => ("KeyFists$Post", "lines", "LKeyFists$Lines;", true)
  | 1 => ("KeyFists$Post", "starts", "[I", true)
  | 2 => ("KeyFists$Post", "ends", "[I", true)
  | 3 => ("KeyFists$Post", "minutes", "[I", true)
  | 4 => ("KeyFists$Post", "words", "[I", true)
  | 5 => ("KeyFists$Post", "priorities", "[I", true)
  | 6 => ("KeyFists$Post", "size", "I", false)
  | 7 => ("KeyFists$Post", "routes", "[I", true)
  | 8 => ("KeyFists$Post", "begins", "[I", true)
  | 9 => ("KeyFists$Post", "routeSizes", "[I", true)
  | 10 => ("KeyFists$Post", "begun", "[I", true)
  | 11 => ("KeyFists$Post", "thereSince", "[I", true)
  | _ => ("KeyFists$Post", "freeFrom", "[I", true)
def tyX5 : Nat → FieldType := fun k => match k with
  | 0 => .object "KeyFists$Lines"
  | 1 => .array .int
  | 2 => .array .int
  | 3 => .array .int
  | 4 => .array .int
  | 5 => .array .int
  | 6 => .int
  | 7 => .array .int
  | 8 => .array .int
  | 9 => .array .int
  | 10 => .array .int
  | 11 => .array .int
  | _ => .array .int
abbrev wsX50 : List Cond := u_ws RX5 TX5 13
theorem nmX5 : ∀ a, a < 13 → ∀ b, b < 13 → a ≠ b → (TX5 a).2.1 ≠ (TX5 b).2.1 := by decide +kernel
theorem tyX5_ok : ∀ k, k < 13 → parseFieldDescriptor (TX5 k).2.2.1 = some (tyX5 k) := by decide +kernel
abbrev cX5_init : ByteArray := prog_7_method_1_code
def yX5_init : MethodName := ⟨RX5, "<init>", "(LKeyFists$Lines;)V"⟩
abbrev cX5_size : ByteArray := prog_7_method_2_code
def yX5_size : MethodName := ⟨RX5, "size", "()I"⟩
abbrev cX5_has : ByteArray := prog_7_method_3_code
def yX5_has : MethodName := ⟨RX5, "has", "(I)Z"⟩
abbrev cX5_add : ByteArray := prog_7_method_4_code
def yX5_add : MethodName := ⟨RX5, "add", "(IIIII)I"⟩
abbrev cX5_runAll : ByteArray := prog_7_method_5_code
def yX5_runAll : MethodName := ⟨RX5, "runAll", "()V"⟩
abbrev cX5_prepare : ByteArray := prog_7_method_6_code
def yX5_prepare : MethodName := ⟨RX5, "prepare", "()V"⟩
abbrev cX5_nextBegin : ByteArray := prog_7_method_7_code
def yX5_nextBegin : MethodName := ⟨RX5, "nextBegin", "()I"⟩
abbrev cX5_nextLine : ByteArray := prog_7_method_8_code
def yX5_nextLine : MethodName := ⟨RX5, "nextLine", "(I)I"⟩
abbrev cX5_chosenFor : ByteArray := prog_7_method_9_code
def yX5_chosenFor : MethodName := ⟨RX5, "chosenFor", "(II)I"⟩
abbrev cX5_goesAhead : ByteArray := prog_7_method_10_code
def yX5_goesAhead : MethodName := ⟨RX5, "goesAhead", "(II)Z"⟩
abbrev cX5_begin : ByteArray := prog_7_method_11_code
def yX5_begin : MethodName := ⟨RX5, "begin", "(III)V"⟩
abbrev cX5_arrivalOf : ByteArray := prog_7_method_12_code
def yX5_arrivalOf : MethodName := ⟨RX5, "arrivalOf", "(I)I"⟩
abbrev cX5_waitOf : ByteArray := prog_7_method_13_code
def yX5_waitOf : MethodName := ⟨RX5, "waitOf", "(I)I"⟩
abbrev cX5_whereIs : ByteArray := prog_7_method_14_code
def yX5_whereIs : MethodName := ⟨RX5, "whereIs", "(II)I"⟩
abbrev cX5_kthHeard : ByteArray := prog_7_method_15_code
def yX5_kthHeard : MethodName := ⟨RX5, "kthHeard", "(II)I"⟩
abbrev cX5_nextHeard : ByteArray := prog_7_method_16_code
def yX5_nextHeard : MethodName := ⟨RX5, "nextHeard", "(II)I"⟩
abbrev cX5_beginOn : ByteArray := prog_7_method_17_code
def yX5_beginOn : MethodName := ⟨RX5, "beginOn", "(II)I"⟩
def RX6 : String := "KeyFists$Product"
def TX6 : u_T := fun k => match k with
  | _ => ("KeyFists$Product", "limbs", "[I", true)
def tyX6 : Nat → FieldType := fun k => match k with
  | _ => .array .int
abbrev wsX60 : List Cond := u_ws RX6 TX6 1
theorem nmX6 : ∀ a, a < 1 → ∀ b, b < 1 → a ≠ b → (TX6 a).2.1 ≠ (TX6 b).2.1 := by decide +kernel
theorem tyX6_ok : ∀ k, k < 1 → parseFieldDescriptor (TX6 k).2.2.1 = some (tyX6 k) := by decide +kernel
abbrev cX6_init : ByteArray := prog_8_method_1_code
def yX6_init : MethodName := ⟨RX6, "<init>", "()V"⟩
abbrev cX6_becomeOne : ByteArray := prog_8_method_2_code
def yX6_becomeOne : MethodName := ⟨RX6, "becomeOne", "()V"⟩
abbrev cX6_multiply : ByteArray := prog_8_method_3_code
def yX6_multiply : MethodName := ⟨RX6, "multiply", "(I)V"⟩
abbrev cX6_compareWith : ByteArray := prog_8_method_4_code
def yX6_compareWith : MethodName := ⟨RX6, "compareWith", "(LKeyFists$Product;)I"⟩
def RX7 : String := "KeyFists$Reader"
def TX7 : u_T := fun k => match k with
  | 0 => ("KeyFists$Reader", "code", "LKeyFists$Code;", true)
  | 1 => ("KeyFists$Reader", "tape", "LKeyFists$Tape;", true)
  | 2 => ("KeyFists$Reader", "hands", "LKeyFists$Hands;", true)
  | 3 => ("KeyFists$Reader", "lines", "LKeyFists$Lines;", true)
  | 4 => ("KeyFists$Reader", "leasts", "[I", true)
  | 5 => ("KeyFists$Reader", "greatests", "[I", true)
  | 6 => ("KeyFists$Reader", "taken", "I", false)
  | 7 => ("KeyFists$Reader", "markCount", "I", false)
  | 8 => ("KeyFists$Reader", "ways", "[I", true)
  | 9 => ("KeyFists$Reader", "costs", "[I", true)
  | 10 => ("KeyFists$Reader", "firstLetters", "[I", true)
  | 11 => ("KeyFists$Reader", "row", "[I", true)
  | _ => ("KeyFists$Reader", "rowSize", "I", false)
def tyX7 : Nat → FieldType := fun k => match k with
  | 0 => .object "KeyFists$Code"
  | 1 => .object "KeyFists$Tape"
  | 2 => .object "KeyFists$Hands"
  | 3 => .object "KeyFists$Lines"
  | 4 => .array .int
  | 5 => .array .int
  | 6 => .int
  | 7 => .int
  | 8 => .array .int
  | 9 => .array .int
  | 10 => .array .int
  | 11 => .array .int
  | _ => .int
abbrev wsX70 : List Cond := u_ws RX7 TX7 13
theorem nmX7 : ∀ a, a < 13 → ∀ b, b < 13 → a ≠ b → (TX7 a).2.1 ≠ (TX7 b).2.1 := by decide +kernel
theorem tyX7_ok : ∀ k, k < 13 → parseFieldDescriptor (TX7 k).2.2.1 = some (tyX7 k) := by decide +kernel
abbrev cX7_init : ByteArray := prog_9_method_1_code
def yX7_init : MethodName := ⟨RX7, "<init>", "(LKeyFists$Code;LKeyFists$Tape;LKeyFists$Hands;LKeyFists$Lines;)V"⟩
abbrev cX7_listen : ByteArray := prog_9_method_2_code
def yX7_listen : MethodName := ⟨RX7, "listen", "(II)V"⟩
abbrev cX7_costOf : ByteArray := prog_9_method_3_code
def yX7_costOf : MethodName := ⟨RX7, "costOf", "(II)I"⟩
abbrev cX7_countAll : ByteArray := prog_9_method_4_code
def yX7_countAll : MethodName := ⟨RX7, "countAll", "()I"⟩
abbrev cX7_waysBehind : ByteArray := prog_9_method_5_code
def yX7_waysBehind : MethodName := ⟨RX7, "waysBehind", "(I)J"⟩
abbrev cX7_findNearest : ByteArray := prog_9_method_6_code
def yX7_findNearest : MethodName := ⟨RX7, "findNearest", "()I"⟩
abbrev cX7_writeNearest : ByteArray := prog_9_method_7_code
def yX7_writeNearest : MethodName := ⟨RX7, "writeNearest", "()V"⟩
abbrev cX7_write : ByteArray := prog_9_method_8_code
def yX7_write : MethodName := ⟨RX7, "write", "(I)V"⟩
abbrev cX7_rowSize : ByteArray := prog_9_method_9_code
def yX7_rowSize : MethodName := ⟨RX7, "rowSize", "()I"⟩
abbrev cX7_rowAt : ByteArray := prog_9_method_10_code
def yX7_rowAt : MethodName := ⟨RX7, "rowAt", "(I)I"⟩
abbrev cX7_costFrom : ByteArray := prog_9_method_11_code
def yX7_costFrom : MethodName := ⟨RX7, "costFrom", "(II)I"⟩
abbrev cX7_letterCost : ByteArray := prog_9_method_12_code
def yX7_letterCost : MethodName := ⟨RX7, "letterCost", "(II)I"⟩
abbrev cX7_gapCost : ByteArray := prog_9_method_13_code
def yX7_gapCost : MethodName := ⟨RX7, "gapCost", "(I)I"⟩
def RX8 : String := "KeyFists$Saying"
def TX8 : u_T := fun k => match k with
  | 0 => ("KeyFists$Saying", "text", "LKeyFists$Text;", true)
  | 1 => ("KeyFists$Saying", "code", "LKeyFists$Code;", true)
  | 2 => ("KeyFists$Saying", "kinds", "[I", true)
  | 3 => ("KeyFists$Saying", "drawn", "[I", true)
  | _ => ("KeyFists$Saying", "size", "I", false)
def tyX8 : Nat → FieldType := fun k => match k with
  | 0 => .object "KeyFists$Text"
  | 1 => .object "KeyFists$Code"
  | 2 => .array .int
  | 3 => .array .int
  | _ => .int
abbrev wsX80 : List Cond := u_ws RX8 TX8 5
theorem nmX8 : ∀ a, a < 5 → ∀ b, b < 5 → a ≠ b → (TX8 a).2.1 ≠ (TX8 b).2.1 := by decide +kernel
theorem tyX8_ok : ∀ k, k < 5 → parseFieldDescriptor (TX8 k).2.2.1 = some (tyX8 k) := by decide +kernel
abbrev cX8_init : ByteArray := prog_10_method_1_code
def yX8_init : MethodName := ⟨RX8, "<init>", "(LKeyFists$Text;LKeyFists$Code;)V"⟩
abbrev cX8_size : ByteArray := prog_10_method_2_code
def yX8_size : MethodName := ⟨RX8, "size", "()I"⟩
abbrev cX8_kindAt : ByteArray := prog_10_method_3_code
def yX8_kindAt : MethodName := ⟨RX8, "kindAt", "(I)I"⟩
abbrev cX8_isThere : ByteArray := prog_10_method_4_code
def yX8_isThere : MethodName := ⟨RX8, "isThere", "()Z"⟩
abbrev cX8_spell : ByteArray := prog_10_method_5_code
def yX8_spell : MethodName := ⟨RX8, "spell", "()I"⟩
abbrev cX8_spellLetter : ByteArray := prog_10_method_6_code
def yX8_spellLetter : MethodName := ⟨RX8, "spellLetter", "(II)Z"⟩
abbrev cX8_addKind : ByteArray := prog_10_method_7_code
def yX8_addKind : MethodName := ⟨RX8, "addKind", "(I)V"⟩
abbrev cX8_draw : ByteArray := prog_10_method_8_code
def yX8_draw : MethodName := ⟨RX8, "draw", "(LKeyFists$Hands;II)V"⟩
abbrev cX8_sendThrough : ByteArray := prog_10_method_9_code
def yX8_sendThrough : MethodName := ⟨RX8, "sendThrough", "(ILKeyFists$Tape;)V"⟩
def RX9 : String := "KeyFists$Tape"
def TX9 : u_T := fun k => match k with
  | 0 => ("KeyFists$Tape", "lengths", "[I", true)
  | _ => ("KeyFists$Tape", "size", "I", false)
def tyX9 : Nat → FieldType := fun k => match k with
  | 0 => .array .int
  | _ => .int
abbrev wsX90 : List Cond := u_ws RX9 TX9 2
theorem nmX9 : ∀ a, a < 2 → ∀ b, b < 2 → a ≠ b → (TX9 a).2.1 ≠ (TX9 b).2.1 := by decide +kernel
theorem tyX9_ok : ∀ k, k < 2 → parseFieldDescriptor (TX9 k).2.2.1 = some (tyX9 k) := by decide +kernel
abbrev cX9_init : ByteArray := prog_11_method_1_code
def yX9_init : MethodName := ⟨RX9, "<init>", "()V"⟩
abbrev cX9_size : ByteArray := prog_11_method_2_code
def yX9_size : MethodName := ⟨RX9, "size", "()I"⟩
abbrev cX9_add : ByteArray := prog_11_method_3_code
def yX9_add : MethodName := ⟨RX9, "add", "(I)I"⟩
abbrev cX9_keep : ByteArray := prog_11_method_4_code
def yX9_keep : MethodName := ⟨RX9, "keep", "(I)Z"⟩
abbrev cX9_at : ByteArray := prog_11_method_5_code
def yX9_at : MethodName := ⟨RX9, "at", "(I)I"⟩
abbrev cX9_isWhole : ByteArray := prog_11_method_6_code
def yX9_isWhole : MethodName := ⟨RX9, "isWhole", "()Z"⟩
def RX10 : String := "KeyFists$Text"
def TX10 : u_T := fun k => match k with
  | 0 => ("KeyFists$Text", "bytes", "[I", true)
  | _ => ("KeyFists$Text", "size", "I", false)
def tyX10 : Nat → FieldType := fun k => match k with
  | 0 => .array .int
  | _ => .int
abbrev wsX100 : List Cond := u_ws RX10 TX10 2
theorem nmX10 : ∀ a, a < 2 → ∀ b, b < 2 → a ≠ b → (TX10 a).2.1 ≠ (TX10 b).2.1 := by decide +kernel
theorem tyX10_ok : ∀ k, k < 2 → parseFieldDescriptor (TX10 k).2.2.1 = some (tyX10 k) := by decide +kernel
abbrev cX10_init : ByteArray := prog_12_method_1_code
def yX10_init : MethodName := ⟨RX10, "<init>", "()V"⟩
abbrev cX10_size : ByteArray := prog_12_method_2_code
def yX10_size : MethodName := ⟨RX10, "size", "()I"⟩
abbrev cX10_hasRoom : ByteArray := prog_12_method_3_code
def yX10_hasRoom : MethodName := ⟨RX10, "hasRoom", "()Z"⟩
abbrev cX10_add : ByteArray := prog_12_method_4_code
def yX10_add : MethodName := ⟨RX10, "add", "(I)V"⟩
abbrev cX10_keep : ByteArray := prog_12_method_5_code
def yX10_keep : MethodName := ⟨RX10, "keep", "(I)Z"⟩
abbrev cX10_at : ByteArray := prog_12_method_6_code
def yX10_at : MethodName := ⟨RX10, "at", "(I)I"⟩
abbrev cX10_isLetter : ByteArray := prog_12_method_7_code
def yX10_isLetter : MethodName := ⟨RX10, "isLetter", "(I)Z"⟩
def RX11 : String := "KeyFists"
def TX11 : u_T := fun k => match k with
  | 0 => ("KeyFists", "text", "LKeyFists$Text;", true)
  | 1 => ("KeyFists", "code", "LKeyFists$Code;", true)
  | 2 => ("KeyFists", "draft", "LKeyFists$Code;", true)
  | 3 => ("KeyFists", "grammar", "LKeyFists$Grammar;", true)
  | 4 => ("KeyFists", "hands", "LKeyFists$Hands;", true)
  | 5 => ("KeyFists", "lines", "LKeyFists$Lines;", true)
  | 6 => ("KeyFists", "tape", "LKeyFists$Tape;", true)
  | 7 => ("KeyFists", "reader", "LKeyFists$Reader;", true)
  | 8 => ("KeyFists", "saying", "LKeyFists$Saying;", true)
  | 9 => ("KeyFists", "post", "LKeyFists$Post;", true)
  | 10 => ("KeyFists", "clocks", "LKeyFists$Clocks;", true)
  | 11 => ("KeyFists", "oneProduct", "LKeyFists$Product;", true)
  | _ => ("KeyFists", "otherProduct", "LKeyFists$Product;", true)
def tyX11 : Nat → FieldType := fun k => match k with
  | 0 => .object "KeyFists$Text"
  | 1 => .object "KeyFists$Code"
  | 2 => .object "KeyFists$Code"
  | 3 => .object "KeyFists$Grammar"
  | 4 => .object "KeyFists$Hands"
  | 5 => .object "KeyFists$Lines"
  | 6 => .object "KeyFists$Tape"
  | 7 => .object "KeyFists$Reader"
  | 8 => .object "KeyFists$Saying"
  | 9 => .object "KeyFists$Post"
  | 10 => .object "KeyFists$Clocks"
  | 11 => .object "KeyFists$Product"
  | _ => .object "KeyFists$Product"
abbrev wsX110 : List Cond := u_ws RX11 TX11 13
theorem nmX11 : ∀ a, a < 13 → ∀ b, b < 13 → a ≠ b → (TX11 a).2.1 ≠ (TX11 b).2.1 := by decide +kernel
theorem tyX11_ok : ∀ k, k < 13 → parseFieldDescriptor (TX11 k).2.2.1 = some (tyX11 k) := by decide +kernel
abbrev cX11_init : ByteArray := prog_1_method_1_code
def yX11_init : MethodName := ⟨RX11, "<init>", "()V"⟩
abbrev cX11_feed : ByteArray := prog_1_method_2_code
def yX11_feed : MethodName := ⟨RX11, "feed", "(IIIII)I"⟩
abbrev cX11_end : ByteArray := prog_1_method_3_code
def yX11_end : MethodName := ⟨RX11, "end", "(I)Z"⟩
abbrev cX11_fault : ByteArray := prog_1_method_4_code
def yX11_fault : MethodName := ⟨RX11, "fault", "()I"⟩
abbrev cX11_code : ByteArray := prog_1_method_5_code
def yX11_code : MethodName := ⟨RX11, "code", "()I"⟩
abbrev cX11_marks : ByteArray := prog_1_method_6_code
def yX11_marks : MethodName := ⟨RX11, "marks", "(I)I"⟩
abbrev cX11_group : ByteArray := prog_1_method_7_code
def yX11_group : MethodName := ⟨RX11, "group", "(I)I"⟩
abbrev cX11_mended : ByteArray := prog_1_method_8_code
def yX11_mended : MethodName := ⟨RX11, "mended", "(III)I"⟩
abbrev cX11_hand : ByteArray := prog_1_method_9_code
def yX11_hand : MethodName := ⟨RX11, "hand", "(IIIII)I"⟩
abbrev cX11_line : ByteArray := prog_1_method_10_code
def yX11_line : MethodName := ⟨RX11, "line", "(IIII)I"⟩
abbrev cX11_rain : ByteArray := prog_1_method_11_code
def yX11_rain : MethodName := ⟨RX11, "rain", "(I)Z"⟩
abbrev cX11_bite : ByteArray := prog_1_method_12_code
def yX11_bite : MethodName := ⟨RX11, "bite", "(I)I"⟩
abbrev cX11_isStation : ByteArray := prog_1_method_13_code
def yX11_isStation : MethodName := ⟨RX11, "isStation", "(I)Z"⟩
abbrev cX11_areTwoStations : ByteArray := prog_1_method_14_code
def yX11_areTwoStations : MethodName := ⟨RX11, "areTwoStations", "(II)Z"⟩
abbrev cX11_length : ByteArray := prog_1_method_15_code
def yX11_length : MethodName := ⟨RX11, "length", "(I)I"⟩
abbrev cX11_cut : ByteArray := prog_1_method_16_code
def yX11_cut : MethodName := ⟨RX11, "cut", "(I)Z"⟩
abbrev cX11_tape : ByteArray := prog_1_method_17_code
def yX11_tape : MethodName := ⟨RX11, "tape", "(I)I"⟩
abbrev cX11_readings : ByteArray := prog_1_method_18_code
def yX11_readings : MethodName := ⟨RX11, "readings", "(II)I"⟩
abbrev cX11_nearest : ByteArray := prog_1_method_19_code
def yX11_nearest : MethodName := ⟨RX11, "nearest", "(III)I"⟩
abbrev cX11_canRead : ByteArray := prog_1_method_20_code
def yX11_canRead : MethodName := ⟨RX11, "canRead", "(II)Z"⟩
abbrev cX11_suspects : ByteArray := prog_1_method_21_code
def yX11_suspects : MethodName := ⟨RX11, "suspects", "(I)I"⟩
abbrev cX11_likelier : ByteArray := prog_1_method_22_code
def yX11_likelier : MethodName := ⟨RX11, "likelier", "(III)I"⟩
abbrev cX11_tapeSaysIt : ByteArray := prog_1_method_23_code
def yX11_tapeSaysIt : MethodName := ⟨RX11, "tapeSaysIt", "(II)Z"⟩
abbrev cX11_multiplyChoices : ByteArray := prog_1_method_24_code
def yX11_multiplyChoices : MethodName := ⟨RX11, "multiplyChoices", "(LKeyFists$Product;I)V"⟩
abbrev cX11_key : ByteArray := prog_1_method_25_code
def yX11_key : MethodName := ⟨RX11, "key", "(III)I"⟩
abbrev cX11_message : ByteArray := prog_1_method_26_code
def yX11_message : MethodName := ⟨RX11, "message", "(III)I"⟩
abbrev cX11_route : ByteArray := prog_1_method_27_code
def yX11_route : MethodName := ⟨RX11, "route", "(III)I"⟩
abbrev cX11_sent : ByteArray := prog_1_method_28_code
def yX11_sent : MethodName := ⟨RX11, "sent", "(III)I"⟩
abbrev cX11_tap : ByteArray := prog_1_method_29_code
def yX11_tap : MethodName := ⟨RX11, "tap", "(II)I"⟩
abbrev cX11_clock : ByteArray := prog_1_method_30_code
def yX11_clock : MethodName := ⟨RX11, "clock", "(III)Z"⟩
abbrev cX11_event : ByteArray := prog_1_method_31_code
def yX11_event : MethodName := ⟨RX11, "event", "(II)I"⟩
abbrev cX11_fact : ByteArray := prog_1_method_32_code
def yX11_fact : MethodName := ⟨RX11, "fact", "(III)I"⟩
abbrev cX11_undo : ByteArray := prog_1_method_33_code
def yX11_undo : MethodName := ⟨RX11, "undo", "()I"⟩
abbrev cX11_apart : ByteArray := prog_1_method_34_code
def yX11_apart : MethodName := ⟨RX11, "apart", "(III)I"⟩
abbrev cX11_first : ByteArray := prog_1_method_35_code
def yX11_first : MethodName := ⟨RX11, "first", "(II)I"⟩
abbrev cX11_count : ByteArray := prog_1_method_36_code
def yX11_count : MethodName := ⟨RX11, "count", "(I)I"⟩
def RX12 : String := "KeyFistsModel"
def TX12 : u_T := fun k => match k with
  | 0 => ("KeyFistsModel", "text", "[B", true)
  | 1 => ("KeyFistsModel", "textMany", "I", false)
  | 2 => ("KeyFistsModel", "at", "I", false)
  | 3 => ("KeyFistsModel", "to", "I", false)
  | 4 => ("KeyFistsModel", "faultAt", "I", false)
  | 5 => ("KeyFistsModel", "marks", "[[I", true)
  | 6 => ("KeyFistsModel", "groups", "[[I", true)
  | 7 => ("KeyFistsModel", "names", "[[J", true)
  | 8 => ("KeyFistsModel", "letters", "[I", true)
  | 9 => ("KeyFistsModel", "wordMany", "[I", true)
  | 10 => ("KeyFistsModel", "words", "[Ljava/lang/String;", true)
  | 11 => ("KeyFistsModel", "least", "[I", true)
  | 12 => ("KeyFistsModel", "greatest", "[I", true)
  | 13 => ("KeyFistsModel", "lineFrom", "[I", true)
  | 14 => ("KeyFistsModel", "lineTo", "[I", true)
  | 15 => ("KeyFistsModel", "bites", "[I", true)
  | 16 => ("KeyFistsModel", "leaks", "[I", true)
  | 17 => ("KeyFistsModel", "tape", "[I", true)
  | 18 => ("KeyFistsModel", "hands", "I", false)
  | 19 => ("KeyFistsModel", "lines", "I", false)
  | 20 => ("KeyFistsModel", "rain", "I", false)
  | 21 => ("KeyFistsModel", "lengths", "I", false)
  | 22 => ("KeyFistsModel", "hand", "I", false)
  | 23 => ("KeyFistsModel", "biteNow", "I", false)
  | 24 => ("KeyFistsModel", "ways", "[I", true)
  | 25 => ("KeyFistsModel", "cheap", "[I", true)
  | 26 => ("KeyFistsModel", "row", "[B", true)
  | 27 => ("KeyFistsModel", "kinds", "[I", true)
  | 28 => ("KeyFistsModel", "kindMany", "I", false)
  | 29 => ("KeyFistsModel", "big", "[I", true)
  | 30 => ("KeyFistsModel", "from", "[I", true)
  | 31 => ("KeyFistsModel", "goal", "[I", true)
  | 32 => ("KeyFistsModel", "up", "[I", true)
  | 33 => ("KeyFistsModel", "size", "[I", true)
  | 34 => ("KeyFistsModel", "priority", "[I", true)
  | 35 => ("KeyFistsModel", "far", "[I", true)
  | 36 => ("KeyFistsModel", "messages", "I", false)
  | 37 => ("KeyFistsModel", "where", "[I", true)
  | 38 => ("KeyFistsModel", "since", "[I", true)
  | 39 => ("KeyFistsModel", "comes", "[I", true)
  | 40 => ("KeyFistsModel", "arrived", "[I", true)
  | 41 => ("KeyFistsModel", "rode", "[I", true)
  | 42 => ("KeyFistsModel", "onLine", "[I", true)
  | 43 => ("KeyFistsModel", "heard", "[I", true)
  | 44 => ("KeyFistsModel", "wanted", "[I", true)
  | 45 => ("KeyFistsModel", "heardMany", "I", false)
  | 46 => ("KeyFistsModel", "clockLeast", "[I", true)
  | 47 => ("KeyFistsModel", "clockGreatest", "[I", true)
  | 48 => ("KeyFistsModel", "eventStation", "[I", true)
  | 49 => ("KeyFistsModel", "eventMinute", "[I", true)
  | 50 => ("KeyFistsModel", "factOne", "[I", true)
  | 51 => ("KeyFistsModel", "factBehind", "[I", true)
  | 52 => ("KeyFistsModel", "factBy", "[I", true)
  | 53 => ("KeyFistsModel", "most", "[I", true)
  | 54 => ("KeyFistsModel", "events", "I", false)
  | _ => ("KeyFistsModel", "facts", "I", false)
def tyX12 : Nat → FieldType := fun k => match k with
  | 0 => .array .byte
  | 1 => .int
  | 2 => .int
  | 3 => .int
  | 4 => .int
  | 5 => .array (.array .int)
  | 6 => .array (.array .int)
  | 7 => .array (.array .long)
  | 8 => .array .int
  | 9 => .array .int
  | 10 => .array (.object "java/lang/String")
  | 11 => .array .int
  | 12 => .array .int
  | 13 => .array .int
  | 14 => .array .int
  | 15 => .array .int
  | 16 => .array .int
  | 17 => .array .int
  | 18 => .int
  | 19 => .int
  | 20 => .int
  | 21 => .int
  | 22 => .int
  | 23 => .int
  | 24 => .array .int
  | 25 => .array .int
  | 26 => .array .byte
  | 27 => .array .int
  | 28 => .int
  | 29 => .array .int
  | 30 => .array .int
  | 31 => .array .int
  | 32 => .array .int
  | 33 => .array .int
  | 34 => .array .int
  | 35 => .array .int
  | 36 => .int
  | 37 => .array .int
  | 38 => .array .int
  | 39 => .array .int
  | 40 => .array .int
  | 41 => .array .int
  | 42 => .array .int
  | 43 => .array .int
  | 44 => .array .int
  | 45 => .int
  | 46 => .array .int
  | 47 => .array .int
  | 48 => .array .int
  | 49 => .array .int
  | 50 => .array .int
  | 51 => .array .int
  | 52 => .array .int
  | 53 => .array .int
  | 54 => .int
  | _ => .int
abbrev wsX120 : List Cond := u_ws RX12 TX12 56
theorem nmX12 : ∀ a, a < 56 → ∀ b, b < 56 → a ≠ b → (TX12 a).2.1 ≠ (TX12 b).2.1 := by decide +kernel
theorem tyX12_ok : ∀ k, k < 56 → parseFieldDescriptor (TX12 k).2.2.1 = some (tyX12 k) := by decide +kernel
abbrev cX12_init : ByteArray := prog_14_method_1_code
def yX12_init : MethodName := ⟨RX12, "<init>", "()V"⟩
abbrev cX12_in : ByteArray := prog_14_method_2_code
def yX12_in : MethodName := ⟨RX12, "in", "(JJJ)Z"⟩
abbrev cX12_feeds : ByteArray := prog_14_method_3_code
def yX12_feeds : MethodName := ⟨RX12, "feeds", "(I)V"⟩
abbrev cX12_feed : ByteArray := prog_14_method_4_code
def yX12_feed : MethodName := ⟨RX12, "feed", "(IIIII)I"⟩
abbrev cX12_end : ByteArray := prog_14_method_5_code
def yX12_end : MethodName := ⟨RX12, "end", "(I)Z"⟩
abbrev cX12_between : ByteArray := prog_14_method_6_code
def yX12_between : MethodName := ⟨RX12, "between", "(III)Z"⟩
abbrev cX12_next : ByteArray := prog_14_method_7_code
def yX12_next : MethodName := ⟨RX12, "next", "()V"⟩
abbrev cX12_passes : ByteArray := prog_14_method_8_code
def yX12_passes : MethodName := ⟨RX12, "passes", "(Z)Z"⟩
abbrev cX12_isWord : ByteArray := prog_14_method_9_code
def yX12_isWord : MethodName := ⟨RX12, "isWord", "(I)Z"⟩
abbrev cX12_closes : ByteArray := prog_14_method_10_code
def yX12_closes : MethodName := ⟨RX12, "closes", "()Z"⟩
abbrev cX12_marksHere : ByteArray := prog_14_method_11_code
def yX12_marksHere : MethodName := ⟨RX12, "marksHere", "()I"⟩
abbrev cX12_letterRead : ByteArray := prog_14_method_12_code
def yX12_letterRead : MethodName := ⟨RX12, "letterRead", "()Z"⟩
abbrev cX12_nameHere : ByteArray := prog_14_method_13_code
def yX12_nameHere : MethodName := ⟨RX12, "nameHere", "()J"⟩
abbrev cX12_groupHere : ByteArray := prog_14_method_14_code
def yX12_groupHere : MethodName := ⟨RX12, "groupHere", "()I"⟩
abbrev cX12_wordRead : ByteArray := prog_14_method_15_code
def yX12_wordRead : MethodName := ⟨RX12, "wordRead", "()Z"⟩
abbrev cX12_reads : ByteArray := prog_14_method_16_code
def yX12_reads : MethodName := ⟨RX12, "reads", "()V"⟩
abbrev cX12_fault : ByteArray := prog_14_method_17_code
def yX12_fault : MethodName := ⟨RX12, "fault", "()I"⟩
abbrev cX12_code : ByteArray := prog_14_method_18_code
def yX12_code : MethodName := ⟨RX12, "code", "()I"⟩
abbrev cX12_marks : ByteArray := prog_14_method_19_code
def yX12_marks : MethodName := ⟨RX12, "marks", "(I)I"⟩
abbrev cX12_group : ByteArray := prog_14_method_20_code
def yX12_group : MethodName := ⟨RX12, "group", "(I)I"⟩
abbrev cX12_isSpan : ByteArray := prog_14_method_21_code
def yX12_isSpan : MethodName := ⟨RX12, "isSpan", "(I)Z"⟩
abbrev cX12_span : ByteArray := prog_14_method_22_code
def yX12_span : MethodName := ⟨RX12, "span", "(II)V"⟩
abbrev cX12_hand : ByteArray := prog_14_method_23_code
def yX12_hand : MethodName := ⟨RX12, "hand", "(IIIII)I"⟩
abbrev cX12_isStation : ByteArray := prog_14_method_24_code
def yX12_isStation : MethodName := ⟨RX12, "isStation", "(I)Z"⟩
abbrev cX12_line : ByteArray := prog_14_method_25_code
def yX12_line : MethodName := ⟨RX12, "line", "(IIII)I"⟩
abbrev cX12_rain : ByteArray := prog_14_method_26_code
def yX12_rain : MethodName := ⟨RX12, "rain", "(I)Z"⟩
abbrev cX12_isLine : ByteArray := prog_14_method_27_code
def yX12_isLine : MethodName := ⟨RX12, "isLine", "(I)Z"⟩
abbrev cX12_isHand : ByteArray := prog_14_method_28_code
def yX12_isHand : MethodName := ⟨RX12, "isHand", "(I)Z"⟩
abbrev cX12_biteOf : ByteArray := prog_14_method_29_code
def yX12_biteOf : MethodName := ⟨RX12, "biteOf", "(I)I"⟩
abbrev cX12_bite : ByteArray := prog_14_method_30_code
def yX12_bite : MethodName := ⟨RX12, "bite", "(I)I"⟩
abbrev cX12_length : ByteArray := prog_14_method_31_code
def yX12_length : MethodName := ⟨RX12, "length", "(I)I"⟩
abbrev cX12_cut : ByteArray := prog_14_method_32_code
def yX12_cut : MethodName := ⟨RX12, "cut", "(I)Z"⟩
abbrev cX12_tape : ByteArray := prog_14_method_33_code
def yX12_tape : MethodName := ⟨RX12, "tape", "(I)I"⟩
abbrev cX12_sentAt : ByteArray := prog_14_method_34_code
def yX12_sentAt : MethodName := ⟨RX12, "sentAt", "(I)I"⟩
abbrev cX12_isOf : ByteArray := prog_14_method_35_code
def yX12_isOf : MethodName := ⟨RX12, "isOf", "(II)Z"⟩
abbrev cX12_costOf : ByteArray := prog_14_method_36_code
def yX12_costOf : MethodName := ⟨RX12, "costOf", "(II)I"⟩
abbrev cX12_marksMany : ByteArray := prog_14_method_37_code
def yX12_marksMany : MethodName := ⟨RX12, "marksMany", "(I)I"⟩
abbrev cX12_kindOf : ByteArray := prog_14_method_38_code
def yX12_kindOf : MethodName := ⟨RX12, "kindOf", "(II)I"⟩
abbrev cX12_stands : ByteArray := prog_14_method_39_code
def yX12_stands : MethodName := ⟨RX12, "stands", "(II)Z"⟩
abbrev cX12_costFrom : ByteArray := prog_14_method_40_code
def yX12_costFrom : MethodName := ⟨RX12, "costFrom", "(II)I"⟩
abbrev cX12_takes : ByteArray := prog_14_method_41_code
def yX12_takes : MethodName := ⟨RX12, "takes", "(II)Z"⟩
abbrev cX12_readings : ByteArray := prog_14_method_42_code
def yX12_readings : MethodName := ⟨RX12, "readings", "(II)I"⟩
abbrev cX12_whole : ByteArray := prog_14_method_43_code
def yX12_whole : MethodName := ⟨RX12, "whole", "(III)I"⟩
abbrev cX12_nearest : ByteArray := prog_14_method_44_code
def yX12_nearest : MethodName := ⟨RX12, "nearest", "(III)I"⟩
abbrev cX12_isSaying : ByteArray := prog_14_method_45_code
def yX12_isSaying : MethodName := ⟨RX12, "isSaying", "()Z"⟩
abbrev cX12_adds : ByteArray := prog_14_method_46_code
def yX12_adds : MethodName := ⟨RX12, "adds", "(I)V"⟩
abbrev cX12_lays : ByteArray := prog_14_method_47_code
def yX12_lays : MethodName := ⟨RX12, "lays", "()Z"⟩
abbrev cX12_saysBy : ByteArray := prog_14_method_48_code
def yX12_saysBy : MethodName := ⟨RX12, "saysBy", "(II)Z"⟩
abbrev cX12_canSay : ByteArray := prog_14_method_49_code
def yX12_canSay : MethodName := ⟨RX12, "canSay", "()Z"⟩
abbrev cX12_suspects : ByteArray := prog_14_method_50_code
def yX12_suspects : MethodName := ⟨RX12, "suspects", "(I)I"⟩
abbrev cX12_grows : ByteArray := prog_14_method_51_code
def yX12_grows : MethodName := ⟨RX12, "grows", "(II)V"⟩
abbrev cX12_product : ByteArray := prog_14_method_52_code
def yX12_product : MethodName := ⟨RX12, "product", "(II)V"⟩
abbrev cX12_likelier : ByteArray := prog_14_method_53_code
def yX12_likelier : MethodName := ⟨RX12, "likelier", "(III)I"⟩
abbrev cX12_key : ByteArray := prog_14_method_54_code
def yX12_key : MethodName := ⟨RX12, "key", "(III)I"⟩
abbrev cX12_mended : ByteArray := prog_14_method_55_code
def yX12_mended : MethodName := ⟨RX12, "mended", "(III)I"⟩
abbrev cX12_leads : ByteArray := prog_14_method_56_code
def yX12_leads : MethodName := ⟨RX12, "leads", "(I)V"⟩
abbrev cX12_firstLine : ByteArray := prog_14_method_57_code
def yX12_firstLine : MethodName := ⟨RX12, "firstLine", "(II)I"⟩
abbrev cX12_route : ByteArray := prog_14_method_58_code
def yX12_route : MethodName := ⟨RX12, "route", "(III)I"⟩
abbrev cX12_message : ByteArray := prog_14_method_59_code
def yX12_message : MethodName := ⟨RX12, "message", "(III)I"⟩
abbrev cX12_chosen : ByteArray := prog_14_method_60_code
def yX12_chosen : MethodName := ⟨RX12, "chosen", "(II)I"⟩
abbrev cX12_comesTo : ByteArray := prog_14_method_61_code
def yX12_comesTo : MethodName := ⟨RX12, "comesTo", "(III)V"⟩
abbrev cX12_runs : ByteArray := prog_14_method_62_code
def yX12_runs : MethodName := ⟨RX12, "runs", "(II)V"⟩
abbrev cX12_sent : ByteArray := prog_14_method_63_code
def yX12_sent : MethodName := ⟨RX12, "sent", "(III)I"⟩
abbrev cX12_tap : ByteArray := prog_14_method_64_code
def yX12_tap : MethodName := ⟨RX12, "tap", "(II)I"⟩
abbrev cX12_clock : ByteArray := prog_14_method_65_code
def yX12_clock : MethodName := ⟨RX12, "clock", "(III)Z"⟩
abbrev cX12_event : ByteArray := prog_14_method_66_code
def yX12_event : MethodName := ⟨RX12, "event", "(II)I"⟩
abbrev cX12_isEvent : ByteArray := prog_14_method_67_code
def yX12_isEvent : MethodName := ⟨RX12, "isEvent", "(I)Z"⟩
abbrev cX12_fact : ByteArray := prog_14_method_68_code
def yX12_fact : MethodName := ⟨RX12, "fact", "(III)I"⟩
abbrev cX12_undo : ByteArray := prog_14_method_69_code
def yX12_undo : MethodName := ⟨RX12, "undo", "()I"⟩
abbrev cX12_bounds : ByteArray := prog_14_method_70_code
def yX12_bounds : MethodName := ⟨RX12, "bounds", "(III)V"⟩
abbrev cX12_canBe : ByteArray := prog_14_method_71_code
def yX12_canBe : MethodName := ⟨RX12, "canBe", "()Z"⟩
abbrev cX12_apart : ByteArray := prog_14_method_72_code
def yX12_apart : MethodName := ⟨RX12, "apart", "(III)I"⟩
abbrev cX12_first : ByteArray := prog_14_method_73_code
def yX12_first : MethodName := ⟨RX12, "first", "(II)I"⟩
abbrev cX12_count : ByteArray := prog_14_method_74_code
def yX12_count : MethodName := ⟨RX12, "count", "(I)I"⟩
def RJ6 : String := "java/lang/Integer"
def TJ6 : u_T := fun k => match k with
  | _ => ("", "", "", false)
def tyJ6 : Nat → FieldType := fun k => match k with
  | _ => .int
abbrev wsJ60 : List Cond := u_ws RJ6 TJ6 0
theorem nmJ6 : ∀ a, a < 0 → ∀ b, b < 0 → a ≠ b → (TJ6 a).2.1 ≠ (TJ6 b).2.1 := by decide +kernel
theorem tyJ6_ok : ∀ k, k < 0 → parseFieldDescriptor (TJ6 k).2.2.1 = some (tyJ6 k) := by decide +kernel
abbrev cJ6_compare_7cf53 : ByteArray := prog_15_method_40_code
def yJ6_compare_7cf53 : MethodName := ⟨RJ6, "compare", "(II)I"⟩
def RJ9 : String := "java/lang/Math"
def TJ9 : u_T := fun k => match k with
  | _ => ("", "", "", false)
def tyJ9 : Nat → FieldType := fun k => match k with
  | _ => .int
abbrev wsJ90 : List Cond := u_ws RJ9 TJ9 0
theorem nmJ9 : ∀ a, a < 0 → ∀ b, b < 0 → a ≠ b → (TJ9 a).2.1 ≠ (TJ9 b).2.1 := by decide +kernel
theorem tyJ9_ok : ∀ k, k < 0 → parseFieldDescriptor (TJ9 k).2.2.1 = some (tyJ9 k) := by decide +kernel
abbrev cJ9_abs_0f7a4 : ByteArray := prog_16_method_59_code
def yJ9_abs_0f7a4 : MethodName := ⟨RJ9, "abs", "(I)I"⟩
abbrev cJ9_max_7cf53 : ByteArray := prog_16_method_65_code
def yJ9_max_7cf53 : MethodName := ⟨RJ9, "max", "(II)I"⟩
abbrev cJ9_min_7cf53 : ByteArray := prog_16_method_69_code
def yJ9_min_7cf53 : MethodName := ⟨RJ9, "min", "(II)I"⟩
abbrev cJ9_min_f86c9 : ByteArray := prog_16_method_70_code
def yJ9_min_f86c9 : MethodName := ⟨RJ9, "min", "(JJ)J"⟩
def RJ0 : String := "java/lang/String"
def TJ0 : u_T := fun k => match k with
  | _ => ("", "", "", false)
def tyJ0 : Nat → FieldType := fun k => match k with
  | _ => .int
abbrev wsJ00 : List Cond := u_ws RJ0 TJ0 0
theorem nmJ0 : ∀ a, a < 0 → ∀ b, b < 0 → a ≠ b → (TJ0 a).2.1 ≠ (TJ0 b).2.1 := by decide +kernel
theorem tyJ0_ok : ∀ k, k < 0 → parseFieldDescriptor (TJ0 k).2.2.1 = some (tyJ0 k) := by decide +kernel
abbrev cJ0_length_8abf5 : ByteArray := prog_17_method_54_code
def yJ0_length_8abf5 : MethodName := ⟨RJ0, "length", "()I"⟩
abbrev cJ0_charAt_5068e : ByteArray := prog_17_method_56_code
def yJ0_charAt_5068e : MethodName := ⟨RJ0, "charAt", "(I)C"⟩
abbrev cJ0_coder_7d493 : ByteArray := prog_17_method_152_code
def yJ0_coder_7d493 : MethodName := ⟨RJ0, "coder", "()B"⟩
abbrev cJ0_isLatin1_aae02 : ByteArray := prog_17_method_154_code
def yJ0_isLatin1_aae02 : MethodName := ⟨RJ0, "isLatin1", "()Z"⟩
abbrev cJ0_checkIndex_df160 : ByteArray := prog_17_method_155_code
def yJ0_checkIndex_df160 : MethodName := ⟨RJ0, "checkIndex", "(II)V"⟩
def RJ1 : String := "java/lang/StringLatin1"
def TJ1 : u_T := fun k => match k with
  | _ => ("", "", "", false)
def tyJ1 : Nat → FieldType := fun k => match k with
  | _ => .int
abbrev wsJ10 : List Cond := u_ws RJ1 TJ1 0
theorem nmJ1 : ∀ a, a < 0 → ∀ b, b < 0 → a ≠ b → (TJ1 a).2.1 ≠ (TJ1 b).2.1 := by decide +kernel
theorem tyJ1_ok : ∀ k, k < 0 → parseFieldDescriptor (TJ1 k).2.2.1 = some (tyJ1 k) := by decide +kernel
abbrev cJ1_charAt_3b067 : ByteArray := prog_18_method_2_code
def yJ1_charAt_3b067 : MethodName := ⟨RJ1, "charAt", "([BI)C"⟩
def RJ2 : String := "java/lang/StringUTF16"
def TJ2 : u_T := fun k => match k with
  | _ => ("", "", "", false)
def tyJ2 : Nat → FieldType := fun k => match k with
  | _ => .int
abbrev wsJ20 : List Cond := u_ws RJ2 TJ2 0
theorem nmJ2 : ∀ a, a < 0 → ∀ b, b < 0 → a ≠ b → (TJ2 a).2.1 ≠ (TJ2 b).2.1 := by decide +kernel
theorem tyJ2_ok : ∀ k, k < 0 → parseFieldDescriptor (TJ2 k).2.2.1 = some (tyJ2 k) := by decide +kernel
abbrev cJ2_getChar_3b067 : ByteArray := prog_19_method_5_code
def yJ2_getChar_3b067 : MethodName := ⟨RJ2, "getChar", "([BI)C"⟩
abbrev cJ2_length_9d52b : ByteArray := prog_19_method_6_code
def yJ2_length_9d52b : MethodName := ⟨RJ2, "length", "([B)I"⟩
abbrev cJ2_charAt_3b067 : ByteArray := prog_19_method_83_code
def yJ2_charAt_3b067 : MethodName := ⟨RJ2, "charAt", "([BI)C"⟩
abbrev cJ2_checkIndex_2214a : ByteArray := prog_19_method_91_code
def yJ2_checkIndex_2214a : MethodName := ⟨RJ2, "checkIndex", "(I[B)V"⟩
def RJ3 : String := "jdk/internal/util/Preconditions"
def TJ3 : u_T := fun k => match k with
  | _ => ("", "", "", false)
def tyJ3 : Nat → FieldType := fun k => match k with
  | _ => .int
abbrev wsJ30 : List Cond := u_ws RJ3 TJ3 0
theorem nmJ3 : ∀ a, a < 0 → ∀ b, b < 0 → a ≠ b → (TJ3 a).2.1 ≠ (TJ3 b).2.1 := by decide +kernel
theorem tyJ3_ok : ∀ k, k < 0 → parseFieldDescriptor (TJ3 k).2.2.1 = some (tyJ3 k) := by decide +kernel
abbrev cJ3_checkIndex_8e157 : ByteArray := prog_20_method_11_code
def yJ3_checkIndex_8e157 : MethodName := ⟨RJ3, "checkIndex", "(IILjava/util/function/BiFunction;)I"⟩
def RL : String := "KeyFistsLaw"
abbrev cL_law : ByteArray := code
def yL_law : MethodName := ⟨RL, "law", "([I)Z"⟩
abbrev vwCl : List vw_C := [(RX0, TX0, 10), (RX1, TX1, 6), (RX2, TX2, 7), (RX3, TX3, 2), (RX4, TX4, 9), (RX5, TX5, 13), (RX6, TX6, 1), (RX7, TX7, 13), (RX8, TX8, 5), (RX9, TX9, 2), (RX10, TX10, 2), (RX11, TX11, 13), (RX12, TX12, 56)]
end
section
theorem dX0_init_0 : decode cX0_init 0 = .ok (.aload_n 0, 1) := by decide +kernel
theorem dX0_init_1 : decode cX0_init 1 = .ok (.invokespecial 3, 3) := by decide +kernel
theorem dX0_init_4 : decode cX0_init 4 = .ok (.aload_n 0, 1) := by decide +kernel
theorem dX0_init_5 : decode cX0_init 5 = .ok (.bipush 6, 2) := by decide +kernel
theorem dX0_init_7 : decode cX0_init 7 = .ok (.newarray .int, 2) := by decide +kernel
theorem dX0_init_9 : decode cX0_init 9 = .ok (.putfield 9, 3) := by decide +kernel
theorem dX0_init_12 : decode cX0_init 12 = .ok (.aload_n 0, 1) := by decide +kernel
theorem dX0_init_13 : decode cX0_init 13 = .ok (.bipush 6, 2) := by decide +kernel
theorem dX0_init_15 : decode cX0_init 15 = .ok (.newarray .int, 2) := by decide +kernel
theorem dX0_init_17 : decode cX0_init 17 = .ok (.putfield 15, 3) := by decide +kernel
theorem dX0_init_20 : decode cX0_init 20 = .ok (.aload_n 0, 1) := by decide +kernel
theorem dX0_init_21 : decode cX0_init 21 = .ok (.bipush 12, 2) := by decide +kernel
theorem dX0_init_23 : decode cX0_init 23 = .ok (.newarray .int, 2) := by decide +kernel
theorem dX0_init_25 : decode cX0_init 25 = .ok (.putfield 18, 3) := by decide +kernel
theorem dX0_init_28 : decode cX0_init 28 = .ok (.aload_n 0, 1) := by decide +kernel
theorem dX0_init_29 : decode cX0_init 29 = .ok (.bipush 12, 2) := by decide +kernel
theorem dX0_init_31 : decode cX0_init 31 = .ok (.newarray .int, 2) := by decide +kernel
theorem dX0_init_33 : decode cX0_init 33 = .ok (.putfield 21, 3) := by decide +kernel
theorem dX0_init_36 : decode cX0_init 36 = .ok (.aload_n 0, 1) := by decide +kernel
theorem dX0_init_37 : decode cX0_init 37 = .ok (.bipush 12, 2) := by decide +kernel
theorem dX0_init_39 : decode cX0_init 39 = .ok (.newarray .int, 2) := by decide +kernel
theorem dX0_init_41 : decode cX0_init 41 = .ok (.putfield 24, 3) := by decide +kernel
theorem dX0_init_44 : decode cX0_init 44 = .ok (.aload_n 0, 1) := by decide +kernel
theorem dX0_init_45 : decode cX0_init 45 = .ok (.bipush 12, 2) := by decide +kernel
theorem dX0_init_47 : decode cX0_init 47 = .ok (.newarray .int, 2) := by decide +kernel
theorem dX0_init_49 : decode cX0_init 49 = .ok (.putfield 27, 3) := by decide +kernel
theorem dX0_init_52 : decode cX0_init 52 = .ok (.aload_n 0, 1) := by decide +kernel
theorem dX0_init_53 : decode cX0_init 53 = .ok (.bipush 12, 2) := by decide +kernel
theorem dX0_init_55 : decode cX0_init 55 = .ok (.newarray .int, 2) := by decide +kernel
theorem dX0_init_57 : decode cX0_init 57 = .ok (.putfield 30, 3) := by decide +kernel
theorem dX0_init_60 : decode cX0_init 60 = .ok (.aload_n 0, 1) := by decide +kernel
theorem dX0_init_61 : decode cX0_init 61 = .ok (.bipush 6, 2) := by decide +kernel
theorem dX0_init_63 : decode cX0_init 63 = .ok (.bipush 6, 2) := by decide +kernel
theorem dX0_init_65 : decode cX0_init 65 = .ok (.multianewarray 33 2, 4) := by decide +kernel
theorem dX0_init_69 : decode cX0_init 69 = .ok (.putfield 35, 3) := by decide +kernel
theorem dX0_init_72 : decode cX0_init 72 = .ok (.return_, 1) := by decide +kernel
theorem dX0_events_0 : decode cX0_events 0 = .ok (.aload_n 0, 1) := by decide +kernel
theorem dX0_events_1 : decode cX0_events 1 = .ok (.getfield 38, 3) := by decide +kernel
theorem dX0_events_4 : decode cX0_events 4 = .ok (.ireturn, 1) := by decide +kernel
theorem dX0_facts_0 : decode cX0_facts 0 = .ok (.aload_n 0, 1) := by decide +kernel
theorem dX0_facts_1 : decode cX0_facts 1 = .ok (.getfield 42, 3) := by decide +kernel
theorem dX0_facts_4 : decode cX0_facts 4 = .ok (.ireturn, 1) := by decide +kernel
theorem dX0_hasEvent_0 : decode cX0_hasEvent 0 = .ok (.iload_n 1, 1) := by decide +kernel
theorem dX0_hasEvent_1 : decode cX0_hasEvent 1 = .ok (.ifCond .lt 15, 3) := by decide +kernel
theorem dX0_hasEvent_4 : decode cX0_hasEvent 4 = .ok (.iload_n 1, 1) := by decide +kernel
theorem dX0_hasEvent_5 : decode cX0_hasEvent 5 = .ok (.aload_n 0, 1) := by decide +kernel
theorem dX0_hasEvent_6 : decode cX0_hasEvent 6 = .ok (.getfield 38, 3) := by decide +kernel
theorem dX0_hasEvent_9 : decode cX0_hasEvent 9 = .ok (.if_icmp .ge 7, 3) := by decide +kernel
theorem dX0_hasEvent_12 : decode cX0_hasEvent 12 = .ok (.iconst 1, 1) := by decide +kernel
theorem dX0_hasEvent_13 : decode cX0_hasEvent 13 = .ok (.goto 4, 3) := by decide +kernel
theorem dX0_hasEvent_16 : decode cX0_hasEvent 16 = .ok (.iconst 0, 1) := by decide +kernel
theorem dX0_hasEvent_17 : decode cX0_hasEvent 17 = .ok (.ireturn, 1) := by decide +kernel
theorem dX0_setClock_0 : decode cX0_setClock 0 = .ok (.iload_n 1, 1) := by decide +kernel
theorem dX0_setClock_1 : decode cX0_setClock 1 = .ok (.invokestatic 45, 3) := by decide +kernel
theorem dX0_setClock_4 : decode cX0_setClock 4 = .ok (.ifCond .eq 17, 3) := by decide +kernel
theorem dX0_setClock_7 : decode cX0_setClock 7 = .ok (.aload_n 0, 1) := by decide +kernel
theorem dX0_setClock_8 : decode cX0_setClock 8 = .ok (.getfield 9, 3) := by decide +kernel
theorem dX0_setClock_11 : decode cX0_setClock 11 = .ok (.iload_n 1, 1) := by decide +kernel
theorem dX0_setClock_12 : decode cX0_setClock 12 = .ok (.iload_n 2, 1) := by decide +kernel
theorem dX0_setClock_13 : decode cX0_setClock 13 = .ok (.iastore, 1) := by decide +kernel
theorem dX0_setClock_14 : decode cX0_setClock 14 = .ok (.aload_n 0, 1) := by decide +kernel
theorem dX0_setClock_15 : decode cX0_setClock 15 = .ok (.getfield 15, 3) := by decide +kernel
theorem dX0_setClock_18 : decode cX0_setClock 18 = .ok (.iload_n 1, 1) := by decide +kernel
theorem dX0_setClock_19 : decode cX0_setClock 19 = .ok (.iload_n 3, 1) := by decide +kernel
theorem dX0_setClock_20 : decode cX0_setClock 20 = .ok (.iastore, 1) := by decide +kernel
theorem dX0_setClock_21 : decode cX0_setClock 21 = .ok (.return_, 1) := by decide +kernel
theorem dX0_addEvent_0 : decode cX0_addEvent 0 = .ok (.aload_n 0, 1) := by decide +kernel
theorem dX0_addEvent_1 : decode cX0_addEvent 1 = .ok (.getfield 38, 3) := by decide +kernel
theorem dX0_addEvent_4 : decode cX0_addEvent 4 = .ok (.bipush 12, 2) := by decide +kernel
theorem dX0_addEvent_6 : decode cX0_addEvent 6 = .ok (.if_icmp .lt 5, 3) := by decide +kernel
theorem dX0_addEvent_9 : decode cX0_addEvent 9 = .ok (.iconst (-1), 1) := by decide +kernel
theorem dX0_addEvent_10 : decode cX0_addEvent 10 = .ok (.ireturn, 1) := by decide +kernel
theorem dX0_addEvent_11 : decode cX0_addEvent 11 = .ok (.aload_n 0, 1) := by decide +kernel
theorem dX0_addEvent_12 : decode cX0_addEvent 12 = .ok (.getfield 18, 3) := by decide +kernel
theorem dX0_addEvent_15 : decode cX0_addEvent 15 = .ok (.aload_n 0, 1) := by decide +kernel
theorem dX0_addEvent_16 : decode cX0_addEvent 16 = .ok (.getfield 38, 3) := by decide +kernel
theorem dX0_addEvent_19 : decode cX0_addEvent 19 = .ok (.iload_n 1, 1) := by decide +kernel
theorem dX0_addEvent_20 : decode cX0_addEvent 20 = .ok (.iastore, 1) := by decide +kernel
theorem dX0_addEvent_21 : decode cX0_addEvent 21 = .ok (.aload_n 0, 1) := by decide +kernel
theorem dX0_addEvent_22 : decode cX0_addEvent 22 = .ok (.getfield 21, 3) := by decide +kernel
theorem dX0_addEvent_25 : decode cX0_addEvent 25 = .ok (.aload_n 0, 1) := by decide +kernel
theorem dX0_addEvent_26 : decode cX0_addEvent 26 = .ok (.getfield 38, 3) := by decide +kernel
theorem dX0_addEvent_29 : decode cX0_addEvent 29 = .ok (.iload_n 2, 1) := by decide +kernel
theorem dX0_addEvent_30 : decode cX0_addEvent 30 = .ok (.iastore, 1) := by decide +kernel
theorem dX0_addEvent_31 : decode cX0_addEvent 31 = .ok (.aload_n 0, 1) := by decide +kernel
theorem dX0_addEvent_32 : decode cX0_addEvent 32 = .ok (.dup, 1) := by decide +kernel
theorem dX0_addEvent_33 : decode cX0_addEvent 33 = .ok (.getfield 38, 3) := by decide +kernel
theorem dX0_addEvent_36 : decode cX0_addEvent 36 = .ok (.iconst 1, 1) := by decide +kernel
theorem dX0_addEvent_37 : decode cX0_addEvent 37 = .ok (.iadd, 1) := by decide +kernel
theorem dX0_addEvent_38 : decode cX0_addEvent 38 = .ok (.putfield 38, 3) := by decide +kernel
theorem dX0_addEvent_41 : decode cX0_addEvent 41 = .ok (.aload_n 0, 1) := by decide +kernel
theorem dX0_addEvent_42 : decode cX0_addEvent 42 = .ok (.getfield 38, 3) := by decide +kernel
theorem dX0_addEvent_45 : decode cX0_addEvent 45 = .ok (.iconst 1, 1) := by decide +kernel
theorem dX0_addEvent_46 : decode cX0_addEvent 46 = .ok (.isub, 1) := by decide +kernel
theorem dX0_addEvent_47 : decode cX0_addEvent 47 = .ok (.ireturn, 1) := by decide +kernel
theorem dX0_addFact_0 : decode cX0_addFact 0 = .ok (.aload_n 0, 1) := by decide +kernel
theorem dX0_addFact_1 : decode cX0_addFact 1 = .ok (.getfield 42, 3) := by decide +kernel
theorem dX0_addFact_4 : decode cX0_addFact 4 = .ok (.bipush 12, 2) := by decide +kernel
theorem dX0_addFact_6 : decode cX0_addFact 6 = .ok (.if_icmp .lt 5, 3) := by decide +kernel
theorem dX0_addFact_9 : decode cX0_addFact 9 = .ok (.iconst (-1), 1) := by decide +kernel
theorem dX0_addFact_10 : decode cX0_addFact 10 = .ok (.ireturn, 1) := by decide +kernel
theorem dX0_addFact_11 : decode cX0_addFact 11 = .ok (.aload_n 0, 1) := by decide +kernel
theorem dX0_addFact_12 : decode cX0_addFact 12 = .ok (.getfield 24, 3) := by decide +kernel
theorem dX0_addFact_15 : decode cX0_addFact 15 = .ok (.aload_n 0, 1) := by decide +kernel
theorem dX0_addFact_16 : decode cX0_addFact 16 = .ok (.getfield 42, 3) := by decide +kernel
theorem dX0_addFact_19 : decode cX0_addFact 19 = .ok (.iload_n 1, 1) := by decide +kernel
theorem dX0_addFact_20 : decode cX0_addFact 20 = .ok (.iastore, 1) := by decide +kernel
theorem dX0_addFact_21 : decode cX0_addFact 21 = .ok (.aload_n 0, 1) := by decide +kernel
theorem dX0_addFact_22 : decode cX0_addFact 22 = .ok (.getfield 27, 3) := by decide +kernel
theorem dX0_addFact_25 : decode cX0_addFact 25 = .ok (.aload_n 0, 1) := by decide +kernel
theorem dX0_addFact_26 : decode cX0_addFact 26 = .ok (.getfield 42, 3) := by decide +kernel
theorem dX0_addFact_29 : decode cX0_addFact 29 = .ok (.iload_n 2, 1) := by decide +kernel
theorem dX0_addFact_30 : decode cX0_addFact 30 = .ok (.iastore, 1) := by decide +kernel
theorem dX0_addFact_31 : decode cX0_addFact 31 = .ok (.aload_n 0, 1) := by decide +kernel
theorem dX0_addFact_32 : decode cX0_addFact 32 = .ok (.getfield 30, 3) := by decide +kernel
theorem dX0_addFact_35 : decode cX0_addFact 35 = .ok (.aload_n 0, 1) := by decide +kernel
theorem dX0_addFact_36 : decode cX0_addFact 36 = .ok (.getfield 42, 3) := by decide +kernel
theorem dX0_addFact_39 : decode cX0_addFact 39 = .ok (.iload_n 3, 1) := by decide +kernel
theorem dX0_addFact_40 : decode cX0_addFact 40 = .ok (.iastore, 1) := by decide +kernel
theorem dX0_addFact_41 : decode cX0_addFact 41 = .ok (.aload_n 0, 1) := by decide +kernel
theorem dX0_addFact_42 : decode cX0_addFact 42 = .ok (.dup, 1) := by decide +kernel
theorem dX0_addFact_43 : decode cX0_addFact 43 = .ok (.getfield 42, 3) := by decide +kernel
theorem dX0_addFact_46 : decode cX0_addFact 46 = .ok (.iconst 1, 1) := by decide +kernel
theorem dX0_addFact_47 : decode cX0_addFact 47 = .ok (.iadd, 1) := by decide +kernel
theorem dX0_addFact_48 : decode cX0_addFact 48 = .ok (.putfield 42, 3) := by decide +kernel
theorem dX0_addFact_51 : decode cX0_addFact 51 = .ok (.aload_n 0, 1) := by decide +kernel
theorem dX0_addFact_52 : decode cX0_addFact 52 = .ok (.getfield 42, 3) := by decide +kernel
theorem dX0_addFact_55 : decode cX0_addFact 55 = .ok (.ireturn, 1) := by decide +kernel
theorem dX0_dropFact_0 : decode cX0_dropFact 0 = .ok (.aload_n 0, 1) := by decide +kernel
theorem dX0_dropFact_1 : decode cX0_dropFact 1 = .ok (.getfield 42, 3) := by decide +kernel
theorem dX0_dropFact_4 : decode cX0_dropFact 4 = .ok (.ifCond .ne 5, 3) := by decide +kernel
theorem dX0_dropFact_7 : decode cX0_dropFact 7 = .ok (.iconst (-1), 1) := by decide +kernel
theorem dX0_dropFact_8 : decode cX0_dropFact 8 = .ok (.ireturn, 1) := by decide +kernel
theorem dX0_dropFact_9 : decode cX0_dropFact 9 = .ok (.aload_n 0, 1) := by decide +kernel
theorem dX0_dropFact_10 : decode cX0_dropFact 10 = .ok (.dup, 1) := by decide +kernel
theorem dX0_dropFact_11 : decode cX0_dropFact 11 = .ok (.getfield 42, 3) := by decide +kernel
theorem dX0_dropFact_14 : decode cX0_dropFact 14 = .ok (.iconst 1, 1) := by decide +kernel
theorem dX0_dropFact_15 : decode cX0_dropFact 15 = .ok (.isub, 1) := by decide +kernel
theorem dX0_dropFact_16 : decode cX0_dropFact 16 = .ok (.putfield 42, 3) := by decide +kernel
theorem dX0_dropFact_19 : decode cX0_dropFact 19 = .ok (.aload_n 0, 1) := by decide +kernel
theorem dX0_dropFact_20 : decode cX0_dropFact 20 = .ok (.getfield 42, 3) := by decide +kernel
theorem dX0_dropFact_23 : decode cX0_dropFact 23 = .ok (.ireturn, 1) := by decide +kernel
theorem dX0_canBe_0 : decode cX0_canBe 0 = .ok (.aload_n 0, 1) := by decide +kernel
theorem dX0_canBe_1 : decode cX0_canBe 1 = .ok (.invokevirtual 49, 3) := by decide +kernel
theorem dX0_canBe_4 : decode cX0_canBe 4 = .ok (.aload_n 0, 1) := by decide +kernel
theorem dX0_canBe_5 : decode cX0_canBe 5 = .ok (.invokevirtual 52, 3) := by decide +kernel
theorem dX0_canBe_8 : decode cX0_canBe 8 = .ok (.iconst 0, 1) := by decide +kernel
theorem dX0_canBe_9 : decode cX0_canBe 9 = .ok (.istore_n 1, 1) := by decide +kernel
theorem dX0_canBe_10 : decode cX0_canBe 10 = .ok (.iload_n 1, 1) := by decide +kernel
theorem dX0_canBe_11 : decode cX0_canBe 11 = .ok (.bipush 6, 2) := by decide +kernel
theorem dX0_canBe_13 : decode cX0_canBe 13 = .ok (.if_icmp .ge 23, 3) := by decide +kernel
theorem dX0_canBe_16 : decode cX0_canBe 16 = .ok (.aload_n 0, 1) := by decide +kernel
theorem dX0_canBe_17 : decode cX0_canBe 17 = .ok (.iload_n 1, 1) := by decide +kernel
theorem dX0_canBe_18 : decode cX0_canBe 18 = .ok (.invokevirtual 55, 3) := by decide +kernel
theorem dX0_canBe_21 : decode cX0_canBe 21 = .ok (.aload_n 0, 1) := by decide +kernel
theorem dX0_canBe_22 : decode cX0_canBe 22 = .ok (.invokevirtual 59, 3) := by decide +kernel
theorem dX0_canBe_25 : decode cX0_canBe 25 = .ok (.ifCond .eq 5, 3) := by decide +kernel
theorem dX0_canBe_28 : decode cX0_canBe 28 = .ok (.iconst 0, 1) := by decide +kernel
theorem dX0_canBe_29 : decode cX0_canBe 29 = .ok (.ireturn, 1) := by decide +kernel
theorem dX0_canBe_30 : decode cX0_canBe 30 = .ok (.iinc 1 1, 3) := by decide +kernel
theorem dX0_canBe_33 : decode cX0_canBe 33 = .ok (.goto (-23), 3) := by decide +kernel
theorem dX0_canBe_36 : decode cX0_canBe 36 = .ok (.iconst 1, 1) := by decide +kernel
theorem dX0_canBe_37 : decode cX0_canBe 37 = .ok (.ireturn, 1) := by decide +kernel
theorem dX0_boundByClocks_0 : decode cX0_boundByClocks 0 = .ok (.iconst 0, 1) := by decide +kernel
theorem dX0_boundByClocks_1 : decode cX0_boundByClocks 1 = .ok (.istore_n 1, 1) := by decide +kernel
theorem dX0_boundByClocks_2 : decode cX0_boundByClocks 2 = .ok (.iload_n 1, 1) := by decide +kernel
theorem dX0_boundByClocks_3 : decode cX0_boundByClocks 3 = .ok (.bipush 6, 2) := by decide +kernel
theorem dX0_boundByClocks_5 : decode cX0_boundByClocks 5 = .ok (.if_icmp .ge 53, 3) := by decide +kernel
theorem dX0_boundByClocks_8 : decode cX0_boundByClocks 8 = .ok (.iconst 0, 1) := by decide +kernel
theorem dX0_boundByClocks_9 : decode cX0_boundByClocks 9 = .ok (.istore_n 2, 1) := by decide +kernel
theorem dX0_boundByClocks_10 : decode cX0_boundByClocks 10 = .ok (.iload_n 2, 1) := by decide +kernel
theorem dX0_boundByClocks_11 : decode cX0_boundByClocks 11 = .ok (.bipush 6, 2) := by decide +kernel
theorem dX0_boundByClocks_13 : decode cX0_boundByClocks 13 = .ok (.if_icmp .ge 39, 3) := by decide +kernel
theorem dX0_boundByClocks_16 : decode cX0_boundByClocks 16 = .ok (.aload_n 0, 1) := by decide +kernel
theorem dX0_boundByClocks_17 : decode cX0_boundByClocks 17 = .ok (.getfield 35, 3) := by decide +kernel
theorem dX0_boundByClocks_20 : decode cX0_boundByClocks 20 = .ok (.iload_n 1, 1) := by decide +kernel
theorem dX0_boundByClocks_21 : decode cX0_boundByClocks 21 = .ok (.aaload, 1) := by decide +kernel
theorem dX0_boundByClocks_22 : decode cX0_boundByClocks 22 = .ok (.iload_n 2, 1) := by decide +kernel
theorem dX0_boundByClocks_23 : decode cX0_boundByClocks 23 = .ok (.iload_n 1, 1) := by decide +kernel
theorem dX0_boundByClocks_24 : decode cX0_boundByClocks 24 = .ok (.iload_n 2, 1) := by decide +kernel
theorem dX0_boundByClocks_25 : decode cX0_boundByClocks 25 = .ok (.if_icmp .ne 7, 3) := by decide +kernel
theorem dX0_boundByClocks_28 : decode cX0_boundByClocks 28 = .ok (.iconst 0, 1) := by decide +kernel
theorem dX0_boundByClocks_29 : decode cX0_boundByClocks 29 = .ok (.goto 16, 3) := by decide +kernel
theorem dX0_boundByClocks_32 : decode cX0_boundByClocks 32 = .ok (.aload_n 0, 1) := by decide +kernel
theorem dX0_boundByClocks_33 : decode cX0_boundByClocks 33 = .ok (.getfield 15, 3) := by decide +kernel
theorem dX0_boundByClocks_36 : decode cX0_boundByClocks 36 = .ok (.iload_n 2, 1) := by decide +kernel
theorem dX0_boundByClocks_37 : decode cX0_boundByClocks 37 = .ok (.iaload, 1) := by decide +kernel
theorem dX0_boundByClocks_38 : decode cX0_boundByClocks 38 = .ok (.aload_n 0, 1) := by decide +kernel
theorem dX0_boundByClocks_39 : decode cX0_boundByClocks 39 = .ok (.getfield 9, 3) := by decide +kernel
theorem dX0_boundByClocks_42 : decode cX0_boundByClocks 42 = .ok (.iload_n 1, 1) := by decide +kernel
theorem dX0_boundByClocks_43 : decode cX0_boundByClocks 43 = .ok (.iaload, 1) := by decide +kernel
theorem dX0_boundByClocks_44 : decode cX0_boundByClocks 44 = .ok (.isub, 1) := by decide +kernel
theorem dX0_boundByClocks_45 : decode cX0_boundByClocks 45 = .ok (.iastore, 1) := by decide +kernel
theorem dX0_boundByClocks_46 : decode cX0_boundByClocks 46 = .ok (.iinc 2 1, 3) := by decide +kernel
theorem dX0_boundByClocks_49 : decode cX0_boundByClocks 49 = .ok (.goto (-39), 3) := by decide +kernel
theorem dX0_boundByClocks_52 : decode cX0_boundByClocks 52 = .ok (.iinc 1 1, 3) := by decide +kernel
theorem dX0_boundByClocks_55 : decode cX0_boundByClocks 55 = .ok (.goto (-53), 3) := by decide +kernel
theorem dX0_boundByClocks_58 : decode cX0_boundByClocks 58 = .ok (.return_, 1) := by decide +kernel
theorem dX0_boundByFacts_0 : decode cX0_boundByFacts 0 = .ok (.iconst 0, 1) := by decide +kernel
theorem dX0_boundByFacts_1 : decode cX0_boundByFacts 1 = .ok (.istore_n 1, 1) := by decide +kernel
theorem dX0_boundByFacts_2 : decode cX0_boundByFacts 2 = .ok (.iload_n 1, 1) := by decide +kernel
theorem dX0_boundByFacts_3 : decode cX0_boundByFacts 3 = .ok (.aload_n 0, 1) := by decide +kernel
theorem dX0_boundByFacts_4 : decode cX0_boundByFacts 4 = .ok (.getfield 42, 3) := by decide +kernel
theorem dX0_boundByFacts_7 : decode cX0_boundByFacts 7 = .ok (.if_icmp .ge 86, 3) := by decide +kernel
theorem dX0_boundByFacts_10 : decode cX0_boundByFacts 10 = .ok (.aload_n 0, 1) := by decide +kernel
theorem dX0_boundByFacts_11 : decode cX0_boundByFacts 11 = .ok (.getfield 24, 3) := by decide +kernel
theorem dX0_boundByFacts_14 : decode cX0_boundByFacts 14 = .ok (.iload_n 1, 1) := by decide +kernel
theorem dX0_boundByFacts_15 : decode cX0_boundByFacts 15 = .ok (.iaload, 1) := by decide +kernel
theorem dX0_boundByFacts_16 : decode cX0_boundByFacts 16 = .ok (.istore_n 2, 1) := by decide +kernel
theorem dX0_boundByFacts_17 : decode cX0_boundByFacts 17 = .ok (.aload_n 0, 1) := by decide +kernel
theorem dX0_boundByFacts_18 : decode cX0_boundByFacts 18 = .ok (.getfield 27, 3) := by decide +kernel
theorem dX0_boundByFacts_21 : decode cX0_boundByFacts 21 = .ok (.iload_n 1, 1) := by decide +kernel
theorem dX0_boundByFacts_22 : decode cX0_boundByFacts 22 = .ok (.iaload, 1) := by decide +kernel
theorem dX0_boundByFacts_23 : decode cX0_boundByFacts 23 = .ok (.istore_n 3, 1) := by decide +kernel
theorem dX0_boundByFacts_24 : decode cX0_boundByFacts 24 = .ok (.aload_n 0, 1) := by decide +kernel
theorem dX0_boundByFacts_25 : decode cX0_boundByFacts 25 = .ok (.getfield 21, 3) := by decide +kernel
theorem dX0_boundByFacts_28 : decode cX0_boundByFacts 28 = .ok (.iload_n 2, 1) := by decide +kernel
theorem dX0_boundByFacts_29 : decode cX0_boundByFacts 29 = .ok (.iaload, 1) := by decide +kernel
theorem dX0_boundByFacts_30 : decode cX0_boundByFacts 30 = .ok (.aload_n 0, 1) := by decide +kernel
theorem dX0_boundByFacts_31 : decode cX0_boundByFacts 31 = .ok (.getfield 21, 3) := by decide +kernel
theorem dX0_boundByFacts_34 : decode cX0_boundByFacts 34 = .ok (.iload_n 3, 1) := by decide +kernel
theorem dX0_boundByFacts_35 : decode cX0_boundByFacts 35 = .ok (.iaload, 1) := by decide +kernel
theorem dX0_boundByFacts_36 : decode cX0_boundByFacts 36 = .ok (.isub, 1) := by decide +kernel
theorem dX0_boundByFacts_37 : decode cX0_boundByFacts 37 = .ok (.aload_n 0, 1) := by decide +kernel
theorem dX0_boundByFacts_38 : decode cX0_boundByFacts 38 = .ok (.getfield 30, 3) := by decide +kernel
theorem dX0_boundByFacts_41 : decode cX0_boundByFacts 41 = .ok (.iload_n 1, 1) := by decide +kernel
theorem dX0_boundByFacts_42 : decode cX0_boundByFacts 42 = .ok (.iaload, 1) := by decide +kernel
theorem dX0_boundByFacts_43 : decode cX0_boundByFacts 43 = .ok (.isub, 1) := by decide +kernel
theorem dX0_boundByFacts_44 : decode cX0_boundByFacts 44 = .ok (.istore 4, 2) := by decide +kernel
theorem dX0_boundByFacts_46 : decode cX0_boundByFacts 46 = .ok (.aload_n 0, 1) := by decide +kernel
theorem dX0_boundByFacts_47 : decode cX0_boundByFacts 47 = .ok (.getfield 18, 3) := by decide +kernel
theorem dX0_boundByFacts_50 : decode cX0_boundByFacts 50 = .ok (.iload_n 3, 1) := by decide +kernel
theorem dX0_boundByFacts_51 : decode cX0_boundByFacts 51 = .ok (.iaload, 1) := by decide +kernel
theorem dX0_boundByFacts_52 : decode cX0_boundByFacts 52 = .ok (.istore 5, 2) := by decide +kernel
theorem dX0_boundByFacts_54 : decode cX0_boundByFacts 54 = .ok (.aload_n 0, 1) := by decide +kernel
theorem dX0_boundByFacts_55 : decode cX0_boundByFacts 55 = .ok (.getfield 18, 3) := by decide +kernel
theorem dX0_boundByFacts_58 : decode cX0_boundByFacts 58 = .ok (.iload_n 2, 1) := by decide +kernel
theorem dX0_boundByFacts_59 : decode cX0_boundByFacts 59 = .ok (.iaload, 1) := by decide +kernel
theorem dX0_boundByFacts_60 : decode cX0_boundByFacts 60 = .ok (.istore 6, 2) := by decide +kernel
theorem dX0_boundByFacts_62 : decode cX0_boundByFacts 62 = .ok (.aload_n 0, 1) := by decide +kernel
theorem dX0_boundByFacts_63 : decode cX0_boundByFacts 63 = .ok (.getfield 35, 3) := by decide +kernel
theorem dX0_boundByFacts_66 : decode cX0_boundByFacts 66 = .ok (.iload 5, 2) := by decide +kernel
theorem dX0_boundByFacts_68 : decode cX0_boundByFacts 68 = .ok (.aaload, 1) := by decide +kernel
theorem dX0_boundByFacts_69 : decode cX0_boundByFacts 69 = .ok (.iload 6, 2) := by decide +kernel
theorem dX0_boundByFacts_71 : decode cX0_boundByFacts 71 = .ok (.aload_n 0, 1) := by decide +kernel
theorem dX0_boundByFacts_72 : decode cX0_boundByFacts 72 = .ok (.getfield 35, 3) := by decide +kernel
theorem dX0_boundByFacts_75 : decode cX0_boundByFacts 75 = .ok (.iload 5, 2) := by decide +kernel
theorem dX0_boundByFacts_77 : decode cX0_boundByFacts 77 = .ok (.aaload, 1) := by decide +kernel
theorem dX0_boundByFacts_78 : decode cX0_boundByFacts 78 = .ok (.iload 6, 2) := by decide +kernel
theorem dX0_boundByFacts_80 : decode cX0_boundByFacts 80 = .ok (.iaload, 1) := by decide +kernel
theorem dX0_boundByFacts_81 : decode cX0_boundByFacts 81 = .ok (.iload 4, 2) := by decide +kernel
theorem dX0_boundByFacts_83 : decode cX0_boundByFacts 83 = .ok (.invokestatic 63, 3) := by decide +kernel
theorem dX0_boundByFacts_86 : decode cX0_boundByFacts 86 = .ok (.iastore, 1) := by decide +kernel
theorem dX0_boundByFacts_87 : decode cX0_boundByFacts 87 = .ok (.iinc 1 1, 3) := by decide +kernel
theorem dX0_boundByFacts_90 : decode cX0_boundByFacts 90 = .ok (.goto (-88), 3) := by decide +kernel
theorem dX0_boundByFacts_93 : decode cX0_boundByFacts 93 = .ok (.return_, 1) := by decide +kernel
theorem dX0_tightenThrough_0 : decode cX0_tightenThrough 0 = .ok (.iconst 0, 1) := by decide +kernel
theorem dX0_tightenThrough_1 : decode cX0_tightenThrough 1 = .ok (.istore_n 2, 1) := by decide +kernel
theorem dX0_tightenThrough_2 : decode cX0_tightenThrough 2 = .ok (.iload_n 2, 1) := by decide +kernel
theorem dX0_tightenThrough_3 : decode cX0_tightenThrough 3 = .ok (.bipush 6, 2) := by decide +kernel
theorem dX0_tightenThrough_5 : decode cX0_tightenThrough 5 = .ok (.if_icmp .ge 63, 3) := by decide +kernel
theorem dX0_tightenThrough_8 : decode cX0_tightenThrough 8 = .ok (.iconst 0, 1) := by decide +kernel
theorem dX0_tightenThrough_9 : decode cX0_tightenThrough 9 = .ok (.istore_n 3, 1) := by decide +kernel
theorem dX0_tightenThrough_10 : decode cX0_tightenThrough 10 = .ok (.iload_n 3, 1) := by decide +kernel
theorem dX0_tightenThrough_11 : decode cX0_tightenThrough 11 = .ok (.bipush 6, 2) := by decide +kernel
theorem dX0_tightenThrough_13 : decode cX0_tightenThrough 13 = .ok (.if_icmp .ge 49, 3) := by decide +kernel
theorem dX0_tightenThrough_16 : decode cX0_tightenThrough 16 = .ok (.aload_n 0, 1) := by decide +kernel
theorem dX0_tightenThrough_17 : decode cX0_tightenThrough 17 = .ok (.getfield 35, 3) := by decide +kernel
theorem dX0_tightenThrough_20 : decode cX0_tightenThrough 20 = .ok (.iload_n 2, 1) := by decide +kernel
theorem dX0_tightenThrough_21 : decode cX0_tightenThrough 21 = .ok (.aaload, 1) := by decide +kernel
theorem dX0_tightenThrough_22 : decode cX0_tightenThrough 22 = .ok (.iload_n 1, 1) := by decide +kernel
theorem dX0_tightenThrough_23 : decode cX0_tightenThrough 23 = .ok (.iaload, 1) := by decide +kernel
theorem dX0_tightenThrough_24 : decode cX0_tightenThrough 24 = .ok (.aload_n 0, 1) := by decide +kernel
theorem dX0_tightenThrough_25 : decode cX0_tightenThrough 25 = .ok (.getfield 35, 3) := by decide +kernel
theorem dX0_tightenThrough_28 : decode cX0_tightenThrough 28 = .ok (.iload_n 1, 1) := by decide +kernel
theorem dX0_tightenThrough_29 : decode cX0_tightenThrough 29 = .ok (.aaload, 1) := by decide +kernel
theorem dX0_tightenThrough_30 : decode cX0_tightenThrough 30 = .ok (.iload_n 3, 1) := by decide +kernel
theorem dX0_tightenThrough_31 : decode cX0_tightenThrough 31 = .ok (.iaload, 1) := by decide +kernel
theorem dX0_tightenThrough_32 : decode cX0_tightenThrough 32 = .ok (.iadd, 1) := by decide +kernel
theorem dX0_tightenThrough_33 : decode cX0_tightenThrough 33 = .ok (.istore 4, 2) := by decide +kernel
theorem dX0_tightenThrough_35 : decode cX0_tightenThrough 35 = .ok (.aload_n 0, 1) := by decide +kernel
theorem dX0_tightenThrough_36 : decode cX0_tightenThrough 36 = .ok (.getfield 35, 3) := by decide +kernel
theorem dX0_tightenThrough_39 : decode cX0_tightenThrough 39 = .ok (.iload_n 2, 1) := by decide +kernel
theorem dX0_tightenThrough_40 : decode cX0_tightenThrough 40 = .ok (.aaload, 1) := by decide +kernel
theorem dX0_tightenThrough_41 : decode cX0_tightenThrough 41 = .ok (.iload_n 3, 1) := by decide +kernel
theorem dX0_tightenThrough_42 : decode cX0_tightenThrough 42 = .ok (.aload_n 0, 1) := by decide +kernel
theorem dX0_tightenThrough_43 : decode cX0_tightenThrough 43 = .ok (.getfield 35, 3) := by decide +kernel
theorem dX0_tightenThrough_46 : decode cX0_tightenThrough 46 = .ok (.iload_n 2, 1) := by decide +kernel
theorem dX0_tightenThrough_47 : decode cX0_tightenThrough 47 = .ok (.aaload, 1) := by decide +kernel
theorem dX0_tightenThrough_48 : decode cX0_tightenThrough 48 = .ok (.iload_n 3, 1) := by decide +kernel
theorem dX0_tightenThrough_49 : decode cX0_tightenThrough 49 = .ok (.iaload, 1) := by decide +kernel
theorem dX0_tightenThrough_50 : decode cX0_tightenThrough 50 = .ok (.iload 4, 2) := by decide +kernel
theorem dX0_tightenThrough_52 : decode cX0_tightenThrough 52 = .ok (.invokestatic 63, 3) := by decide +kernel
theorem dX0_tightenThrough_55 : decode cX0_tightenThrough 55 = .ok (.iastore, 1) := by decide +kernel
theorem dX0_tightenThrough_56 : decode cX0_tightenThrough 56 = .ok (.iinc 3 1, 3) := by decide +kernel
theorem dX0_tightenThrough_59 : decode cX0_tightenThrough 59 = .ok (.goto (-49), 3) := by decide +kernel
theorem dX0_tightenThrough_62 : decode cX0_tightenThrough 62 = .ok (.iinc 2 1, 3) := by decide +kernel
theorem dX0_tightenThrough_65 : decode cX0_tightenThrough 65 = .ok (.goto (-63), 3) := by decide +kernel
theorem dX0_tightenThrough_68 : decode cX0_tightenThrough 68 = .ok (.return_, 1) := by decide +kernel
theorem dX0_contradicts_0 : decode cX0_contradicts 0 = .ok (.iconst 0, 1) := by decide +kernel
theorem dX0_contradicts_1 : decode cX0_contradicts 1 = .ok (.istore_n 1, 1) := by decide +kernel
theorem dX0_contradicts_2 : decode cX0_contradicts 2 = .ok (.iload_n 1, 1) := by decide +kernel
theorem dX0_contradicts_3 : decode cX0_contradicts 3 = .ok (.bipush 6, 2) := by decide +kernel
theorem dX0_contradicts_5 : decode cX0_contradicts 5 = .ok (.if_icmp .ge 22, 3) := by decide +kernel
theorem dX0_contradicts_8 : decode cX0_contradicts 8 = .ok (.aload_n 0, 1) := by decide +kernel
theorem dX0_contradicts_9 : decode cX0_contradicts 9 = .ok (.getfield 35, 3) := by decide +kernel
theorem dX0_contradicts_12 : decode cX0_contradicts 12 = .ok (.iload_n 1, 1) := by decide +kernel
theorem dX0_contradicts_13 : decode cX0_contradicts 13 = .ok (.aaload, 1) := by decide +kernel
theorem dX0_contradicts_14 : decode cX0_contradicts 14 = .ok (.iload_n 1, 1) := by decide +kernel
theorem dX0_contradicts_15 : decode cX0_contradicts 15 = .ok (.iaload, 1) := by decide +kernel
theorem dX0_contradicts_16 : decode cX0_contradicts 16 = .ok (.ifCond .ge 5, 3) := by decide +kernel
theorem dX0_contradicts_19 : decode cX0_contradicts 19 = .ok (.iconst 1, 1) := by decide +kernel
theorem dX0_contradicts_20 : decode cX0_contradicts 20 = .ok (.ireturn, 1) := by decide +kernel
theorem dX0_contradicts_21 : decode cX0_contradicts 21 = .ok (.iinc 1 1, 3) := by decide +kernel
theorem dX0_contradicts_24 : decode cX0_contradicts 24 = .ok (.goto (-22), 3) := by decide +kernel
theorem dX0_contradicts_27 : decode cX0_contradicts 27 = .ok (.iconst 0, 1) := by decide +kernel
theorem dX0_contradicts_28 : decode cX0_contradicts 28 = .ok (.ireturn, 1) := by decide +kernel
theorem dX0_leastBehind_0 : decode cX0_leastBehind 0 = .ok (.aload_n 0, 1) := by decide +kernel
theorem dX0_leastBehind_1 : decode cX0_leastBehind 1 = .ok (.iload_n 1, 1) := by decide +kernel
theorem dX0_leastBehind_2 : decode cX0_leastBehind 2 = .ok (.invokevirtual 69, 3) := by decide +kernel
theorem dX0_leastBehind_5 : decode cX0_leastBehind 5 = .ok (.ifCond .eq 11, 3) := by decide +kernel
theorem dX0_leastBehind_8 : decode cX0_leastBehind 8 = .ok (.aload_n 0, 1) := by decide +kernel
theorem dX0_leastBehind_9 : decode cX0_leastBehind 9 = .ok (.iload_n 2, 1) := by decide +kernel
theorem dX0_leastBehind_10 : decode cX0_leastBehind 10 = .ok (.invokevirtual 69, 3) := by decide +kernel
theorem dX0_leastBehind_13 : decode cX0_leastBehind 13 = .ok (.ifCond .ne 6, 3) := by decide +kernel
theorem dX0_leastBehind_16 : decode cX0_leastBehind 16 = .ok (.ldc 72, 2) := by decide +kernel
theorem dX0_leastBehind_18 : decode cX0_leastBehind 18 = .ok (.ireturn, 1) := by decide +kernel
theorem dX0_leastBehind_19 : decode cX0_leastBehind 19 = .ok (.aload_n 0, 1) := by decide +kernel
theorem dX0_leastBehind_20 : decode cX0_leastBehind 20 = .ok (.getfield 21, 3) := by decide +kernel
theorem dX0_leastBehind_23 : decode cX0_leastBehind 23 = .ok (.iload_n 2, 1) := by decide +kernel
theorem dX0_leastBehind_24 : decode cX0_leastBehind 24 = .ok (.iaload, 1) := by decide +kernel
theorem dX0_leastBehind_25 : decode cX0_leastBehind 25 = .ok (.aload_n 0, 1) := by decide +kernel
theorem dX0_leastBehind_26 : decode cX0_leastBehind 26 = .ok (.getfield 21, 3) := by decide +kernel
theorem dX0_leastBehind_29 : decode cX0_leastBehind 29 = .ok (.iload_n 1, 1) := by decide +kernel
theorem dX0_leastBehind_30 : decode cX0_leastBehind 30 = .ok (.iaload, 1) := by decide +kernel
theorem dX0_leastBehind_31 : decode cX0_leastBehind 31 = .ok (.isub, 1) := by decide +kernel
theorem dX0_leastBehind_32 : decode cX0_leastBehind 32 = .ok (.aload_n 0, 1) := by decide +kernel
theorem dX0_leastBehind_33 : decode cX0_leastBehind 33 = .ok (.getfield 35, 3) := by decide +kernel
theorem dX0_leastBehind_36 : decode cX0_leastBehind 36 = .ok (.aload_n 0, 1) := by decide +kernel
theorem dX0_leastBehind_37 : decode cX0_leastBehind 37 = .ok (.getfield 18, 3) := by decide +kernel
theorem dX0_leastBehind_40 : decode cX0_leastBehind 40 = .ok (.iload_n 1, 1) := by decide +kernel
theorem dX0_leastBehind_41 : decode cX0_leastBehind 41 = .ok (.iaload, 1) := by decide +kernel
theorem dX0_leastBehind_42 : decode cX0_leastBehind 42 = .ok (.aaload, 1) := by decide +kernel
theorem dX0_leastBehind_43 : decode cX0_leastBehind 43 = .ok (.aload_n 0, 1) := by decide +kernel
theorem dX0_leastBehind_44 : decode cX0_leastBehind 44 = .ok (.getfield 18, 3) := by decide +kernel
theorem dX0_leastBehind_47 : decode cX0_leastBehind 47 = .ok (.iload_n 2, 1) := by decide +kernel
theorem dX0_leastBehind_48 : decode cX0_leastBehind 48 = .ok (.iaload, 1) := by decide +kernel
theorem dX0_leastBehind_49 : decode cX0_leastBehind 49 = .ok (.iaload, 1) := by decide +kernel
theorem dX0_leastBehind_50 : decode cX0_leastBehind 50 = .ok (.isub, 1) := by decide +kernel
theorem dX0_leastBehind_51 : decode cX0_leastBehind 51 = .ok (.ireturn, 1) := by decide +kernel
theorem dX0_greatestBehind_0 : decode cX0_greatestBehind 0 = .ok (.aload_n 0, 1) := by decide +kernel
theorem dX0_greatestBehind_1 : decode cX0_greatestBehind 1 = .ok (.iload_n 1, 1) := by decide +kernel
theorem dX0_greatestBehind_2 : decode cX0_greatestBehind 2 = .ok (.invokevirtual 69, 3) := by decide +kernel
theorem dX0_greatestBehind_5 : decode cX0_greatestBehind 5 = .ok (.ifCond .eq 11, 3) := by decide +kernel
theorem dX0_greatestBehind_8 : decode cX0_greatestBehind 8 = .ok (.aload_n 0, 1) := by decide +kernel
theorem dX0_greatestBehind_9 : decode cX0_greatestBehind 9 = .ok (.iload_n 2, 1) := by decide +kernel
theorem dX0_greatestBehind_10 : decode cX0_greatestBehind 10 = .ok (.invokevirtual 69, 3) := by decide +kernel
theorem dX0_greatestBehind_13 : decode cX0_greatestBehind 13 = .ok (.ifCond .ne 6, 3) := by decide +kernel
theorem dX0_greatestBehind_16 : decode cX0_greatestBehind 16 = .ok (.ldc 72, 2) := by decide +kernel
theorem dX0_greatestBehind_18 : decode cX0_greatestBehind 18 = .ok (.ireturn, 1) := by decide +kernel
theorem dX0_greatestBehind_19 : decode cX0_greatestBehind 19 = .ok (.aload_n 0, 1) := by decide +kernel
theorem dX0_greatestBehind_20 : decode cX0_greatestBehind 20 = .ok (.getfield 21, 3) := by decide +kernel
theorem dX0_greatestBehind_23 : decode cX0_greatestBehind 23 = .ok (.iload_n 2, 1) := by decide +kernel
theorem dX0_greatestBehind_24 : decode cX0_greatestBehind 24 = .ok (.iaload, 1) := by decide +kernel
theorem dX0_greatestBehind_25 : decode cX0_greatestBehind 25 = .ok (.aload_n 0, 1) := by decide +kernel
theorem dX0_greatestBehind_26 : decode cX0_greatestBehind 26 = .ok (.getfield 21, 3) := by decide +kernel
theorem dX0_greatestBehind_29 : decode cX0_greatestBehind 29 = .ok (.iload_n 1, 1) := by decide +kernel
theorem dX0_greatestBehind_30 : decode cX0_greatestBehind 30 = .ok (.iaload, 1) := by decide +kernel
theorem dX0_greatestBehind_31 : decode cX0_greatestBehind 31 = .ok (.isub, 1) := by decide +kernel
theorem dX0_greatestBehind_32 : decode cX0_greatestBehind 32 = .ok (.aload_n 0, 1) := by decide +kernel
theorem dX0_greatestBehind_33 : decode cX0_greatestBehind 33 = .ok (.getfield 35, 3) := by decide +kernel
theorem dX0_greatestBehind_36 : decode cX0_greatestBehind 36 = .ok (.aload_n 0, 1) := by decide +kernel
theorem dX0_greatestBehind_37 : decode cX0_greatestBehind 37 = .ok (.getfield 18, 3) := by decide +kernel
theorem dX0_greatestBehind_40 : decode cX0_greatestBehind 40 = .ok (.iload_n 2, 1) := by decide +kernel
theorem dX0_greatestBehind_41 : decode cX0_greatestBehind 41 = .ok (.iaload, 1) := by decide +kernel
theorem dX0_greatestBehind_42 : decode cX0_greatestBehind 42 = .ok (.aaload, 1) := by decide +kernel
theorem dX0_greatestBehind_43 : decode cX0_greatestBehind 43 = .ok (.aload_n 0, 1) := by decide +kernel
theorem dX0_greatestBehind_44 : decode cX0_greatestBehind 44 = .ok (.getfield 18, 3) := by decide +kernel
theorem dX0_greatestBehind_47 : decode cX0_greatestBehind 47 = .ok (.iload_n 1, 1) := by decide +kernel
theorem dX0_greatestBehind_48 : decode cX0_greatestBehind 48 = .ok (.iaload, 1) := by decide +kernel
theorem dX0_greatestBehind_49 : decode cX0_greatestBehind 49 = .ok (.iaload, 1) := by decide +kernel
theorem dX0_greatestBehind_50 : decode cX0_greatestBehind 50 = .ok (.iadd, 1) := by decide +kernel
theorem dX0_greatestBehind_51 : decode cX0_greatestBehind 51 = .ok (.ireturn, 1) := by decide +kernel
theorem dX1_init_0 : decode cX1_init 0 = .ok (.aload_n 0, 1) := by decide +kernel
theorem dX1_init_1 : decode cX1_init 1 = .ok (.invokespecial 3, 3) := by decide +kernel
theorem dX1_init_4 : decode cX1_init 4 = .ok (.aload_n 0, 1) := by decide +kernel
theorem dX1_init_5 : decode cX1_init 5 = .ok (.bipush 26, 2) := by decide +kernel
theorem dX1_init_7 : decode cX1_init 7 = .ok (.newarray .int, 2) := by decide +kernel
theorem dX1_init_9 : decode cX1_init 9 = .ok (.putfield 9, 3) := by decide +kernel
theorem dX1_init_12 : decode cX1_init 12 = .ok (.aload_n 0, 1) := by decide +kernel
theorem dX1_init_13 : decode cX1_init 13 = .ok (.bipush 26, 2) := by decide +kernel
theorem dX1_init_15 : decode cX1_init 15 = .ok (.newarray .int, 2) := by decide +kernel
theorem dX1_init_17 : decode cX1_init 17 = .ok (.putfield 15, 3) := by decide +kernel
theorem dX1_init_20 : decode cX1_init 20 = .ok (.aload_n 0, 1) := by decide +kernel
theorem dX1_init_21 : decode cX1_init 21 = .ok (.sipush 130, 3) := by decide +kernel
theorem dX1_init_24 : decode cX1_init 24 = .ok (.newarray .int, 2) := by decide +kernel
theorem dX1_init_26 : decode cX1_init 26 = .ok (.putfield 18, 3) := by decide +kernel
theorem dX1_init_29 : decode cX1_init 29 = .ok (.aload_n 0, 1) := by decide +kernel
theorem dX1_init_30 : decode cX1_init 30 = .ok (.bipush 20, 2) := by decide +kernel
theorem dX1_init_32 : decode cX1_init 32 = .ok (.newarray .int, 2) := by decide +kernel
theorem dX1_init_34 : decode cX1_init 34 = .ok (.putfield 21, 3) := by decide +kernel
theorem dX1_init_37 : decode cX1_init 37 = .ok (.return_, 1) := by decide +kernel
theorem dX1_empty_0 : decode cX1_empty 0 = .ok (.iconst 0, 1) := by decide +kernel
theorem dX1_empty_1 : decode cX1_empty 1 = .ok (.istore_n 1, 1) := by decide +kernel
theorem dX1_empty_2 : decode cX1_empty 2 = .ok (.iload_n 1, 1) := by decide +kernel
theorem dX1_empty_3 : decode cX1_empty 3 = .ok (.bipush 26, 2) := by decide +kernel
theorem dX1_empty_5 : decode cX1_empty 5 = .ok (.if_icmp .ge 23, 3) := by decide +kernel
theorem dX1_empty_8 : decode cX1_empty 8 = .ok (.aload_n 0, 1) := by decide +kernel
theorem dX1_empty_9 : decode cX1_empty 9 = .ok (.getfield 9, 3) := by decide +kernel
theorem dX1_empty_12 : decode cX1_empty 12 = .ok (.iload_n 1, 1) := by decide +kernel
theorem dX1_empty_13 : decode cX1_empty 13 = .ok (.iconst 0, 1) := by decide +kernel
theorem dX1_empty_14 : decode cX1_empty 14 = .ok (.iastore, 1) := by decide +kernel
theorem dX1_empty_15 : decode cX1_empty 15 = .ok (.aload_n 0, 1) := by decide +kernel
theorem dX1_empty_16 : decode cX1_empty 16 = .ok (.getfield 15, 3) := by decide +kernel
theorem dX1_empty_19 : decode cX1_empty 19 = .ok (.iload_n 1, 1) := by decide +kernel
theorem dX1_empty_20 : decode cX1_empty 20 = .ok (.iconst 0, 1) := by decide +kernel
theorem dX1_empty_21 : decode cX1_empty 21 = .ok (.iastore, 1) := by decide +kernel
theorem dX1_empty_22 : decode cX1_empty 22 = .ok (.iinc 1 1, 3) := by decide +kernel
theorem dX1_empty_25 : decode cX1_empty 25 = .ok (.goto (-23), 3) := by decide +kernel
theorem dX1_empty_28 : decode cX1_empty 28 = .ok (.aload_n 0, 1) := by decide +kernel
theorem dX1_empty_29 : decode cX1_empty 29 = .ok (.iconst 0, 1) := by decide +kernel
theorem dX1_empty_30 : decode cX1_empty 30 = .ok (.putfield 24, 3) := by decide +kernel
theorem dX1_empty_33 : decode cX1_empty 33 = .ok (.aload_n 0, 1) := by decide +kernel
theorem dX1_empty_34 : decode cX1_empty 34 = .ok (.iconst 0, 1) := by decide +kernel
theorem dX1_empty_35 : decode cX1_empty 35 = .ok (.putfield 28, 3) := by decide +kernel
theorem dX1_empty_38 : decode cX1_empty 38 = .ok (.return_, 1) := by decide +kernel
theorem dX1_become_0 : decode cX1_become 0 = .ok (.iconst 0, 1) := by decide +kernel
theorem dX1_become_1 : decode cX1_become 1 = .ok (.istore_n 2, 1) := by decide +kernel
theorem dX1_become_2 : decode cX1_become 2 = .ok (.iload_n 2, 1) := by decide +kernel
theorem dX1_become_3 : decode cX1_become 3 = .ok (.bipush 26, 2) := by decide +kernel
theorem dX1_become_5 : decode cX1_become 5 = .ok (.if_icmp .ge 33, 3) := by decide +kernel
theorem dX1_become_8 : decode cX1_become 8 = .ok (.aload_n 0, 1) := by decide +kernel
theorem dX1_become_9 : decode cX1_become 9 = .ok (.getfield 9, 3) := by decide +kernel
theorem dX1_become_12 : decode cX1_become 12 = .ok (.iload_n 2, 1) := by decide +kernel
theorem dX1_become_13 : decode cX1_become 13 = .ok (.aload_n 1, 1) := by decide +kernel
theorem dX1_become_14 : decode cX1_become 14 = .ok (.getfield 9, 3) := by decide +kernel
theorem dX1_become_17 : decode cX1_become 17 = .ok (.iload_n 2, 1) := by decide +kernel
theorem dX1_become_18 : decode cX1_become 18 = .ok (.iaload, 1) := by decide +kernel
theorem dX1_become_19 : decode cX1_become 19 = .ok (.iastore, 1) := by decide +kernel
theorem dX1_become_20 : decode cX1_become 20 = .ok (.aload_n 0, 1) := by decide +kernel
theorem dX1_become_21 : decode cX1_become 21 = .ok (.getfield 15, 3) := by decide +kernel
theorem dX1_become_24 : decode cX1_become 24 = .ok (.iload_n 2, 1) := by decide +kernel
theorem dX1_become_25 : decode cX1_become 25 = .ok (.aload_n 1, 1) := by decide +kernel
theorem dX1_become_26 : decode cX1_become 26 = .ok (.getfield 15, 3) := by decide +kernel
theorem dX1_become_29 : decode cX1_become 29 = .ok (.iload_n 2, 1) := by decide +kernel
theorem dX1_become_30 : decode cX1_become 30 = .ok (.iaload, 1) := by decide +kernel
theorem dX1_become_31 : decode cX1_become 31 = .ok (.iastore, 1) := by decide +kernel
theorem dX1_become_32 : decode cX1_become 32 = .ok (.iinc 2 1, 3) := by decide +kernel
theorem dX1_become_35 : decode cX1_become 35 = .ok (.goto (-33), 3) := by decide +kernel
theorem dX1_become_38 : decode cX1_become 38 = .ok (.iconst 0, 1) := by decide +kernel
theorem dX1_become_39 : decode cX1_become 39 = .ok (.istore_n 2, 1) := by decide +kernel
theorem dX1_become_40 : decode cX1_become 40 = .ok (.iload_n 2, 1) := by decide +kernel
theorem dX1_become_41 : decode cX1_become 41 = .ok (.sipush 130, 3) := by decide +kernel
theorem dX1_become_44 : decode cX1_become 44 = .ok (.if_icmp .ge 21, 3) := by decide +kernel
theorem dX1_become_47 : decode cX1_become 47 = .ok (.aload_n 0, 1) := by decide +kernel
theorem dX1_become_48 : decode cX1_become 48 = .ok (.getfield 18, 3) := by decide +kernel
theorem dX1_become_51 : decode cX1_become 51 = .ok (.iload_n 2, 1) := by decide +kernel
theorem dX1_become_52 : decode cX1_become 52 = .ok (.aload_n 1, 1) := by decide +kernel
theorem dX1_become_53 : decode cX1_become 53 = .ok (.getfield 18, 3) := by decide +kernel
theorem dX1_become_56 : decode cX1_become 56 = .ok (.iload_n 2, 1) := by decide +kernel
theorem dX1_become_57 : decode cX1_become 57 = .ok (.iaload, 1) := by decide +kernel
theorem dX1_become_58 : decode cX1_become 58 = .ok (.iastore, 1) := by decide +kernel
theorem dX1_become_59 : decode cX1_become 59 = .ok (.iinc 2 1, 3) := by decide +kernel
theorem dX1_become_62 : decode cX1_become 62 = .ok (.goto (-22), 3) := by decide +kernel
theorem dX1_become_65 : decode cX1_become 65 = .ok (.iconst 0, 1) := by decide +kernel
theorem dX1_become_66 : decode cX1_become 66 = .ok (.istore_n 2, 1) := by decide +kernel
theorem dX1_become_67 : decode cX1_become 67 = .ok (.iload_n 2, 1) := by decide +kernel
theorem dX1_become_68 : decode cX1_become 68 = .ok (.bipush 20, 2) := by decide +kernel
theorem dX1_become_70 : decode cX1_become 70 = .ok (.if_icmp .ge 21, 3) := by decide +kernel
theorem dX1_become_73 : decode cX1_become 73 = .ok (.aload_n 0, 1) := by decide +kernel
theorem dX1_become_74 : decode cX1_become 74 = .ok (.getfield 21, 3) := by decide +kernel
theorem dX1_become_77 : decode cX1_become 77 = .ok (.iload_n 2, 1) := by decide +kernel
theorem dX1_become_78 : decode cX1_become 78 = .ok (.aload_n 1, 1) := by decide +kernel
theorem dX1_become_79 : decode cX1_become 79 = .ok (.getfield 21, 3) := by decide +kernel
theorem dX1_become_82 : decode cX1_become 82 = .ok (.iload_n 2, 1) := by decide +kernel
theorem dX1_become_83 : decode cX1_become 83 = .ok (.iaload, 1) := by decide +kernel
theorem dX1_become_84 : decode cX1_become 84 = .ok (.iastore, 1) := by decide +kernel
theorem dX1_become_85 : decode cX1_become 85 = .ok (.iinc 2 1, 3) := by decide +kernel
theorem dX1_become_88 : decode cX1_become 88 = .ok (.goto (-21), 3) := by decide +kernel
theorem dX1_become_91 : decode cX1_become 91 = .ok (.aload_n 0, 1) := by decide +kernel
theorem dX1_become_92 : decode cX1_become 92 = .ok (.aload_n 1, 1) := by decide +kernel
theorem dX1_become_93 : decode cX1_become 93 = .ok (.getfield 24, 3) := by decide +kernel
theorem dX1_become_96 : decode cX1_become 96 = .ok (.putfield 24, 3) := by decide +kernel
theorem dX1_become_99 : decode cX1_become 99 = .ok (.aload_n 0, 1) := by decide +kernel
theorem dX1_become_100 : decode cX1_become 100 = .ok (.aload_n 1, 1) := by decide +kernel
theorem dX1_become_101 : decode cX1_become 101 = .ok (.getfield 28, 3) := by decide +kernel
theorem dX1_become_104 : decode cX1_become 104 = .ok (.putfield 28, 3) := by decide +kernel
theorem dX1_become_107 : decode cX1_become 107 = .ok (.return_, 1) := by decide +kernel
theorem dX1_letters_0 : decode cX1_letters 0 = .ok (.aload_n 0, 1) := by decide +kernel
theorem dX1_letters_1 : decode cX1_letters 1 = .ok (.getfield 24, 3) := by decide +kernel
theorem dX1_letters_4 : decode cX1_letters 4 = .ok (.ireturn, 1) := by decide +kernel
theorem dX1_words_0 : decode cX1_words 0 = .ok (.aload_n 0, 1) := by decide +kernel
theorem dX1_words_1 : decode cX1_words 1 = .ok (.getfield 28, 3) := by decide +kernel
theorem dX1_words_4 : decode cX1_words 4 = .ok (.ireturn, 1) := by decide +kernel
theorem dX1_hasRoomForWord_0 : decode cX1_hasRoomForWord 0 = .ok (.aload_n 0, 1) := by decide +kernel
theorem dX1_hasRoomForWord_1 : decode cX1_hasRoomForWord 1 = .ok (.getfield 28, 3) := by decide +kernel
theorem dX1_hasRoomForWord_4 : decode cX1_hasRoomForWord 4 = .ok (.bipush 20, 2) := by decide +kernel
theorem dX1_hasRoomForWord_6 : decode cX1_hasRoomForWord 6 = .ok (.if_icmp .ge 7, 3) := by decide +kernel
theorem dX1_hasRoomForWord_9 : decode cX1_hasRoomForWord 9 = .ok (.iconst 1, 1) := by decide +kernel
theorem dX1_hasRoomForWord_10 : decode cX1_hasRoomForWord 10 = .ok (.goto 4, 3) := by decide +kernel
theorem dX1_hasRoomForWord_13 : decode cX1_hasRoomForWord 13 = .ok (.iconst 0, 1) := by decide +kernel
theorem dX1_hasRoomForWord_14 : decode cX1_hasRoomForWord 14 = .ok (.ireturn, 1) := by decide +kernel
theorem dX1_hasLetter_0 : decode cX1_hasLetter 0 = .ok (.iload_n 1, 1) := by decide +kernel
theorem dX1_hasLetter_1 : decode cX1_hasLetter 1 = .ok (.ifCond .lt 22, 3) := by decide +kernel
theorem dX1_hasLetter_4 : decode cX1_hasLetter 4 = .ok (.iload_n 1, 1) := by decide +kernel
theorem dX1_hasLetter_5 : decode cX1_hasLetter 5 = .ok (.bipush 26, 2) := by decide +kernel
theorem dX1_hasLetter_7 : decode cX1_hasLetter 7 = .ok (.if_icmp .ge 16, 3) := by decide +kernel
theorem dX1_hasLetter_10 : decode cX1_hasLetter 10 = .ok (.aload_n 0, 1) := by decide +kernel
theorem dX1_hasLetter_11 : decode cX1_hasLetter 11 = .ok (.getfield 15, 3) := by decide +kernel
theorem dX1_hasLetter_14 : decode cX1_hasLetter 14 = .ok (.iload_n 1, 1) := by decide +kernel
theorem dX1_hasLetter_15 : decode cX1_hasLetter 15 = .ok (.iaload, 1) := by decide +kernel
theorem dX1_hasLetter_16 : decode cX1_hasLetter 16 = .ok (.ifCond .le 7, 3) := by decide +kernel
theorem dX1_hasLetter_19 : decode cX1_hasLetter 19 = .ok (.iconst 1, 1) := by decide +kernel
theorem dX1_hasLetter_20 : decode cX1_hasLetter 20 = .ok (.goto 4, 3) := by decide +kernel
theorem dX1_hasLetter_23 : decode cX1_hasLetter 23 = .ok (.iconst 0, 1) := by decide +kernel
theorem dX1_hasLetter_24 : decode cX1_hasLetter 24 = .ok (.ireturn, 1) := by decide +kernel
theorem dX1_hasMarks_0 : decode cX1_hasMarks 0 = .ok (.iconst 0, 1) := by decide +kernel
theorem dX1_hasMarks_1 : decode cX1_hasMarks 1 = .ok (.istore_n 2, 1) := by decide +kernel
theorem dX1_hasMarks_2 : decode cX1_hasMarks 2 = .ok (.iload_n 2, 1) := by decide +kernel
theorem dX1_hasMarks_3 : decode cX1_hasMarks 3 = .ok (.bipush 26, 2) := by decide +kernel
theorem dX1_hasMarks_5 : decode cX1_hasMarks 5 = .ok (.if_icmp .ge 30, 3) := by decide +kernel
theorem dX1_hasMarks_8 : decode cX1_hasMarks 8 = .ok (.aload_n 0, 1) := by decide +kernel
theorem dX1_hasMarks_9 : decode cX1_hasMarks 9 = .ok (.getfield 15, 3) := by decide +kernel
theorem dX1_hasMarks_12 : decode cX1_hasMarks 12 = .ok (.iload_n 2, 1) := by decide +kernel
theorem dX1_hasMarks_13 : decode cX1_hasMarks 13 = .ok (.iaload, 1) := by decide +kernel
theorem dX1_hasMarks_14 : decode cX1_hasMarks 14 = .ok (.ifCond .le 15, 3) := by decide +kernel
theorem dX1_hasMarks_17 : decode cX1_hasMarks 17 = .ok (.aload_n 0, 1) := by decide +kernel
theorem dX1_hasMarks_18 : decode cX1_hasMarks 18 = .ok (.getfield 9, 3) := by decide +kernel
theorem dX1_hasMarks_21 : decode cX1_hasMarks 21 = .ok (.iload_n 2, 1) := by decide +kernel
theorem dX1_hasMarks_22 : decode cX1_hasMarks 22 = .ok (.iaload, 1) := by decide +kernel
theorem dX1_hasMarks_23 : decode cX1_hasMarks 23 = .ok (.iload_n 1, 1) := by decide +kernel
theorem dX1_hasMarks_24 : decode cX1_hasMarks 24 = .ok (.if_icmp .ne 5, 3) := by decide +kernel
theorem dX1_hasMarks_27 : decode cX1_hasMarks 27 = .ok (.iconst 1, 1) := by decide +kernel
theorem dX1_hasMarks_28 : decode cX1_hasMarks 28 = .ok (.ireturn, 1) := by decide +kernel
theorem dX1_hasMarks_29 : decode cX1_hasMarks 29 = .ok (.iinc 2 1, 3) := by decide +kernel
theorem dX1_hasMarks_32 : decode cX1_hasMarks 32 = .ok (.goto (-30), 3) := by decide +kernel
theorem dX1_hasMarks_35 : decode cX1_hasMarks 35 = .ok (.iconst 0, 1) := by decide +kernel
theorem dX1_hasMarks_36 : decode cX1_hasMarks 36 = .ok (.ireturn, 1) := by decide +kernel
theorem dX1_hasGroup_0 : decode cX1_hasGroup 0 = .ok (.iconst 0, 1) := by decide +kernel
theorem dX1_hasGroup_1 : decode cX1_hasGroup 1 = .ok (.istore_n 2, 1) := by decide +kernel
theorem dX1_hasGroup_2 : decode cX1_hasGroup 2 = .ok (.iload_n 2, 1) := by decide +kernel
theorem dX1_hasGroup_3 : decode cX1_hasGroup 3 = .ok (.aload_n 0, 1) := by decide +kernel
theorem dX1_hasGroup_4 : decode cX1_hasGroup 4 = .ok (.getfield 28, 3) := by decide +kernel
theorem dX1_hasGroup_7 : decode cX1_hasGroup 7 = .ok (.if_icmp .ge 21, 3) := by decide +kernel
theorem dX1_hasGroup_10 : decode cX1_hasGroup 10 = .ok (.aload_n 0, 1) := by decide +kernel
theorem dX1_hasGroup_11 : decode cX1_hasGroup 11 = .ok (.getfield 21, 3) := by decide +kernel
theorem dX1_hasGroup_14 : decode cX1_hasGroup 14 = .ok (.iload_n 2, 1) := by decide +kernel
theorem dX1_hasGroup_15 : decode cX1_hasGroup 15 = .ok (.iaload, 1) := by decide +kernel
theorem dX1_hasGroup_16 : decode cX1_hasGroup 16 = .ok (.iload_n 1, 1) := by decide +kernel
theorem dX1_hasGroup_17 : decode cX1_hasGroup 17 = .ok (.if_icmp .ne 5, 3) := by decide +kernel
theorem dX1_hasGroup_20 : decode cX1_hasGroup 20 = .ok (.iconst 1, 1) := by decide +kernel
theorem dX1_hasGroup_21 : decode cX1_hasGroup 21 = .ok (.ireturn, 1) := by decide +kernel
theorem dX1_hasGroup_22 : decode cX1_hasGroup 22 = .ok (.iinc 2 1, 3) := by decide +kernel
theorem dX1_hasGroup_25 : decode cX1_hasGroup 25 = .ok (.goto (-23), 3) := by decide +kernel
theorem dX1_hasGroup_28 : decode cX1_hasGroup 28 = .ok (.iconst 0, 1) := by decide +kernel
theorem dX1_hasGroup_29 : decode cX1_hasGroup 29 = .ok (.ireturn, 1) := by decide +kernel
theorem dX1_addLetter_0 : decode cX1_addLetter 0 = .ok (.iload_n 1, 1) := by decide +kernel
theorem dX1_addLetter_1 : decode cX1_addLetter 1 = .ok (.ifCond .lt 17, 3) := by decide +kernel
theorem dX1_addLetter_4 : decode cX1_addLetter 4 = .ok (.iload_n 1, 1) := by decide +kernel
theorem dX1_addLetter_5 : decode cX1_addLetter 5 = .ok (.bipush 26, 2) := by decide +kernel
theorem dX1_addLetter_7 : decode cX1_addLetter 7 = .ok (.if_icmp .ge 11, 3) := by decide +kernel
theorem dX1_addLetter_10 : decode cX1_addLetter 10 = .ok (.aload_n 0, 1) := by decide +kernel
theorem dX1_addLetter_11 : decode cX1_addLetter 11 = .ok (.iload_n 1, 1) := by decide +kernel
theorem dX1_addLetter_12 : decode cX1_addLetter 12 = .ok (.invokevirtual 31, 3) := by decide +kernel
theorem dX1_addLetter_15 : decode cX1_addLetter 15 = .ok (.ifCond .eq 4, 3) := by decide +kernel
theorem dX1_addLetter_18 : decode cX1_addLetter 18 = .ok (.return_, 1) := by decide +kernel
theorem dX1_addLetter_19 : decode cX1_addLetter 19 = .ok (.aload_n 0, 1) := by decide +kernel
theorem dX1_addLetter_20 : decode cX1_addLetter 20 = .ok (.getfield 9, 3) := by decide +kernel
theorem dX1_addLetter_23 : decode cX1_addLetter 23 = .ok (.iload_n 1, 1) := by decide +kernel
theorem dX1_addLetter_24 : decode cX1_addLetter 24 = .ok (.iload_n 2, 1) := by decide +kernel
theorem dX1_addLetter_25 : decode cX1_addLetter 25 = .ok (.iastore, 1) := by decide +kernel
theorem dX1_addLetter_26 : decode cX1_addLetter 26 = .ok (.iconst 0, 1) := by decide +kernel
theorem dX1_addLetter_27 : decode cX1_addLetter 27 = .ok (.istore_n 3, 1) := by decide +kernel
theorem dX1_addLetter_28 : decode cX1_addLetter 28 = .ok (.iload_n 2, 1) := by decide +kernel
theorem dX1_addLetter_29 : decode cX1_addLetter 29 = .ok (.istore 4, 2) := by decide +kernel
theorem dX1_addLetter_31 : decode cX1_addLetter 31 = .ok (.iload_n 3, 1) := by decide +kernel
theorem dX1_addLetter_32 : decode cX1_addLetter 32 = .ok (.iconst 5, 1) := by decide +kernel
theorem dX1_addLetter_33 : decode cX1_addLetter 33 = .ok (.if_icmp .ge 38, 3) := by decide +kernel
theorem dX1_addLetter_36 : decode cX1_addLetter 36 = .ok (.iload 4, 2) := by decide +kernel
theorem dX1_addLetter_38 : decode cX1_addLetter 38 = .ok (.ifCond .le 33, 3) := by decide +kernel
theorem dX1_addLetter_41 : decode cX1_addLetter 41 = .ok (.aload_n 0, 1) := by decide +kernel
theorem dX1_addLetter_42 : decode cX1_addLetter 42 = .ok (.getfield 18, 3) := by decide +kernel
theorem dX1_addLetter_45 : decode cX1_addLetter 45 = .ok (.iload_n 1, 1) := by decide +kernel
theorem dX1_addLetter_46 : decode cX1_addLetter 46 = .ok (.iconst 5, 1) := by decide +kernel
theorem dX1_addLetter_47 : decode cX1_addLetter 47 = .ok (.imul, 1) := by decide +kernel
theorem dX1_addLetter_48 : decode cX1_addLetter 48 = .ok (.iload_n 3, 1) := by decide +kernel
theorem dX1_addLetter_49 : decode cX1_addLetter 49 = .ok (.iadd, 1) := by decide +kernel
theorem dX1_addLetter_50 : decode cX1_addLetter 50 = .ok (.iload 4, 2) := by decide +kernel
theorem dX1_addLetter_52 : decode cX1_addLetter 52 = .ok (.bipush 10, 2) := by decide +kernel
theorem dX1_addLetter_54 : decode cX1_addLetter 54 = .ok (.irem, 1) := by decide +kernel
theorem dX1_addLetter_55 : decode cX1_addLetter 55 = .ok (.iconst 1, 1) := by decide +kernel
theorem dX1_addLetter_56 : decode cX1_addLetter 56 = .ok (.isub, 1) := by decide +kernel
theorem dX1_addLetter_57 : decode cX1_addLetter 57 = .ok (.iastore, 1) := by decide +kernel
theorem dX1_addLetter_58 : decode cX1_addLetter 58 = .ok (.iload 4, 2) := by decide +kernel
theorem dX1_addLetter_60 : decode cX1_addLetter 60 = .ok (.bipush 10, 2) := by decide +kernel
theorem dX1_addLetter_62 : decode cX1_addLetter 62 = .ok (.idiv, 1) := by decide +kernel
theorem dX1_addLetter_63 : decode cX1_addLetter 63 = .ok (.istore 4, 2) := by decide +kernel
theorem dX1_addLetter_65 : decode cX1_addLetter 65 = .ok (.iinc 3 1, 3) := by decide +kernel
theorem dX1_addLetter_68 : decode cX1_addLetter 68 = .ok (.goto (-37), 3) := by decide +kernel
theorem dX1_addLetter_71 : decode cX1_addLetter 71 = .ok (.aload_n 0, 1) := by decide +kernel
theorem dX1_addLetter_72 : decode cX1_addLetter 72 = .ok (.getfield 15, 3) := by decide +kernel
theorem dX1_addLetter_75 : decode cX1_addLetter 75 = .ok (.iload_n 1, 1) := by decide +kernel
theorem dX1_addLetter_76 : decode cX1_addLetter 76 = .ok (.iload_n 3, 1) := by decide +kernel
theorem dX1_addLetter_77 : decode cX1_addLetter 77 = .ok (.iastore, 1) := by decide +kernel
theorem dX1_addLetter_78 : decode cX1_addLetter 78 = .ok (.aload_n 0, 1) := by decide +kernel
theorem dX1_addLetter_79 : decode cX1_addLetter 79 = .ok (.dup, 1) := by decide +kernel
theorem dX1_addLetter_80 : decode cX1_addLetter 80 = .ok (.getfield 24, 3) := by decide +kernel
theorem dX1_addLetter_83 : decode cX1_addLetter 83 = .ok (.iconst 1, 1) := by decide +kernel
theorem dX1_addLetter_84 : decode cX1_addLetter 84 = .ok (.iadd, 1) := by decide +kernel
theorem dX1_addLetter_85 : decode cX1_addLetter 85 = .ok (.putfield 24, 3) := by decide +kernel
theorem dX1_addLetter_88 : decode cX1_addLetter 88 = .ok (.return_, 1) := by decide +kernel
theorem dX1_addGroup_0 : decode cX1_addGroup 0 = .ok (.aload_n 0, 1) := by decide +kernel
theorem dX1_addGroup_1 : decode cX1_addGroup 1 = .ok (.getfield 28, 3) := by decide +kernel
theorem dX1_addGroup_4 : decode cX1_addGroup 4 = .ok (.bipush 20, 2) := by decide +kernel
theorem dX1_addGroup_6 : decode cX1_addGroup 6 = .ok (.if_icmp .ge 23, 3) := by decide +kernel
theorem dX1_addGroup_9 : decode cX1_addGroup 9 = .ok (.aload_n 0, 1) := by decide +kernel
theorem dX1_addGroup_10 : decode cX1_addGroup 10 = .ok (.getfield 21, 3) := by decide +kernel
theorem dX1_addGroup_13 : decode cX1_addGroup 13 = .ok (.aload_n 0, 1) := by decide +kernel
theorem dX1_addGroup_14 : decode cX1_addGroup 14 = .ok (.getfield 28, 3) := by decide +kernel
theorem dX1_addGroup_17 : decode cX1_addGroup 17 = .ok (.iload_n 1, 1) := by decide +kernel
theorem dX1_addGroup_18 : decode cX1_addGroup 18 = .ok (.iastore, 1) := by decide +kernel
theorem dX1_addGroup_19 : decode cX1_addGroup 19 = .ok (.aload_n 0, 1) := by decide +kernel
theorem dX1_addGroup_20 : decode cX1_addGroup 20 = .ok (.dup, 1) := by decide +kernel
theorem dX1_addGroup_21 : decode cX1_addGroup 21 = .ok (.getfield 28, 3) := by decide +kernel
theorem dX1_addGroup_24 : decode cX1_addGroup 24 = .ok (.iconst 1, 1) := by decide +kernel
theorem dX1_addGroup_25 : decode cX1_addGroup 25 = .ok (.iadd, 1) := by decide +kernel
theorem dX1_addGroup_26 : decode cX1_addGroup 26 = .ok (.putfield 28, 3) := by decide +kernel
theorem dX1_addGroup_29 : decode cX1_addGroup 29 = .ok (.return_, 1) := by decide +kernel
theorem dX1_marksOf_0 : decode cX1_marksOf 0 = .ok (.aload_n 0, 1) := by decide +kernel
theorem dX1_marksOf_1 : decode cX1_marksOf 1 = .ok (.iload_n 1, 1) := by decide +kernel
theorem dX1_marksOf_2 : decode cX1_marksOf 2 = .ok (.invokevirtual 31, 3) := by decide +kernel
theorem dX1_marksOf_5 : decode cX1_marksOf 5 = .ok (.ifCond .eq 12, 3) := by decide +kernel
theorem dX1_marksOf_8 : decode cX1_marksOf 8 = .ok (.aload_n 0, 1) := by decide +kernel
theorem dX1_marksOf_9 : decode cX1_marksOf 9 = .ok (.getfield 9, 3) := by decide +kernel
theorem dX1_marksOf_12 : decode cX1_marksOf 12 = .ok (.iload_n 1, 1) := by decide +kernel
theorem dX1_marksOf_13 : decode cX1_marksOf 13 = .ok (.iaload, 1) := by decide +kernel
theorem dX1_marksOf_14 : decode cX1_marksOf 14 = .ok (.goto 4, 3) := by decide +kernel
theorem dX1_marksOf_17 : decode cX1_marksOf 17 = .ok (.iconst (-1), 1) := by decide +kernel
theorem dX1_marksOf_18 : decode cX1_marksOf 18 = .ok (.ireturn, 1) := by decide +kernel
theorem dX1_sizeOf_0 : decode cX1_sizeOf 0 = .ok (.iload_n 1, 1) := by decide +kernel
theorem dX1_sizeOf_1 : decode cX1_sizeOf 1 = .ok (.ifCond .lt 18, 3) := by decide +kernel
theorem dX1_sizeOf_4 : decode cX1_sizeOf 4 = .ok (.iload_n 1, 1) := by decide +kernel
theorem dX1_sizeOf_5 : decode cX1_sizeOf 5 = .ok (.bipush 26, 2) := by decide +kernel
theorem dX1_sizeOf_7 : decode cX1_sizeOf 7 = .ok (.if_icmp .ge 12, 3) := by decide +kernel
theorem dX1_sizeOf_10 : decode cX1_sizeOf 10 = .ok (.aload_n 0, 1) := by decide +kernel
theorem dX1_sizeOf_11 : decode cX1_sizeOf 11 = .ok (.getfield 15, 3) := by decide +kernel
theorem dX1_sizeOf_14 : decode cX1_sizeOf 14 = .ok (.iload_n 1, 1) := by decide +kernel
theorem dX1_sizeOf_15 : decode cX1_sizeOf 15 = .ok (.iaload, 1) := by decide +kernel
theorem dX1_sizeOf_16 : decode cX1_sizeOf 16 = .ok (.goto 4, 3) := by decide +kernel
theorem dX1_sizeOf_19 : decode cX1_sizeOf 19 = .ok (.iconst 0, 1) := by decide +kernel
theorem dX1_sizeOf_20 : decode cX1_sizeOf 20 = .ok (.ireturn, 1) := by decide +kernel
theorem dX1_kindOf_0 : decode cX1_kindOf 0 = .ok (.aload_n 0, 1) := by decide +kernel
theorem dX1_kindOf_1 : decode cX1_kindOf 1 = .ok (.iload_n 1, 1) := by decide +kernel
theorem dX1_kindOf_2 : decode cX1_kindOf 2 = .ok (.invokevirtual 35, 3) := by decide +kernel
theorem dX1_kindOf_5 : decode cX1_kindOf 5 = .ok (.istore_n 3, 1) := by decide +kernel
theorem dX1_kindOf_6 : decode cX1_kindOf 6 = .ok (.iload_n 2, 1) := by decide +kernel
theorem dX1_kindOf_7 : decode cX1_kindOf 7 = .ok (.ifCond .lt 25, 3) := by decide +kernel
theorem dX1_kindOf_10 : decode cX1_kindOf 10 = .ok (.iload_n 2, 1) := by decide +kernel
theorem dX1_kindOf_11 : decode cX1_kindOf 11 = .ok (.iload_n 3, 1) := by decide +kernel
theorem dX1_kindOf_12 : decode cX1_kindOf 12 = .ok (.if_icmp .ge 20, 3) := by decide +kernel
theorem dX1_kindOf_15 : decode cX1_kindOf 15 = .ok (.aload_n 0, 1) := by decide +kernel
theorem dX1_kindOf_16 : decode cX1_kindOf 16 = .ok (.getfield 18, 3) := by decide +kernel
theorem dX1_kindOf_19 : decode cX1_kindOf 19 = .ok (.iload_n 1, 1) := by decide +kernel
theorem dX1_kindOf_20 : decode cX1_kindOf 20 = .ok (.iconst 5, 1) := by decide +kernel
theorem dX1_kindOf_21 : decode cX1_kindOf 21 = .ok (.imul, 1) := by decide +kernel
theorem dX1_kindOf_22 : decode cX1_kindOf 22 = .ok (.iload_n 3, 1) := by decide +kernel
theorem dX1_kindOf_23 : decode cX1_kindOf 23 = .ok (.iadd, 1) := by decide +kernel
theorem dX1_kindOf_24 : decode cX1_kindOf 24 = .ok (.iconst 1, 1) := by decide +kernel
theorem dX1_kindOf_25 : decode cX1_kindOf 25 = .ok (.isub, 1) := by decide +kernel
theorem dX1_kindOf_26 : decode cX1_kindOf 26 = .ok (.iload_n 2, 1) := by decide +kernel
theorem dX1_kindOf_27 : decode cX1_kindOf 27 = .ok (.isub, 1) := by decide +kernel
theorem dX1_kindOf_28 : decode cX1_kindOf 28 = .ok (.iaload, 1) := by decide +kernel
theorem dX1_kindOf_29 : decode cX1_kindOf 29 = .ok (.goto 4, 3) := by decide +kernel
theorem dX1_kindOf_32 : decode cX1_kindOf 32 = .ok (.iconst (-1), 1) := by decide +kernel
theorem dX1_kindOf_33 : decode cX1_kindOf 33 = .ok (.ireturn, 1) := by decide +kernel
theorem dX1_groupOf_0 : decode cX1_groupOf 0 = .ok (.iload_n 1, 1) := by decide +kernel
theorem dX1_groupOf_1 : decode cX1_groupOf 1 = .ok (.ifCond .lt 20, 3) := by decide +kernel
theorem dX1_groupOf_4 : decode cX1_groupOf 4 = .ok (.iload_n 1, 1) := by decide +kernel
theorem dX1_groupOf_5 : decode cX1_groupOf 5 = .ok (.aload_n 0, 1) := by decide +kernel
theorem dX1_groupOf_6 : decode cX1_groupOf 6 = .ok (.getfield 28, 3) := by decide +kernel
theorem dX1_groupOf_9 : decode cX1_groupOf 9 = .ok (.if_icmp .ge 12, 3) := by decide +kernel
theorem dX1_groupOf_12 : decode cX1_groupOf 12 = .ok (.aload_n 0, 1) := by decide +kernel
theorem dX1_groupOf_13 : decode cX1_groupOf 13 = .ok (.getfield 21, 3) := by decide +kernel
theorem dX1_groupOf_16 : decode cX1_groupOf 16 = .ok (.iload_n 1, 1) := by decide +kernel
theorem dX1_groupOf_17 : decode cX1_groupOf 17 = .ok (.iaload, 1) := by decide +kernel
theorem dX1_groupOf_18 : decode cX1_groupOf 18 = .ok (.goto 4, 3) := by decide +kernel
theorem dX1_groupOf_21 : decode cX1_groupOf 21 = .ok (.iconst (-1), 1) := by decide +kernel
theorem dX1_groupOf_22 : decode cX1_groupOf 22 = .ok (.ireturn, 1) := by decide +kernel
theorem dX1_kthNear_0 : decode cX1_kthNear 0 = .ok (.iconst 0, 1) := by decide +kernel
theorem dX1_kthNear_1 : decode cX1_kthNear 1 = .ok (.istore 4, 2) := by decide +kernel
theorem dX1_kthNear_3 : decode cX1_kthNear 3 = .ok (.iconst 0, 1) := by decide +kernel
theorem dX1_kthNear_4 : decode cX1_kthNear 4 = .ok (.istore 5, 2) := by decide +kernel
theorem dX1_kthNear_6 : decode cX1_kthNear 6 = .ok (.iload 5, 2) := by decide +kernel
theorem dX1_kthNear_8 : decode cX1_kthNear 8 = .ok (.aload_n 0, 1) := by decide +kernel
theorem dX1_kthNear_9 : decode cX1_kthNear 9 = .ok (.getfield 28, 3) := by decide +kernel
theorem dX1_kthNear_12 : decode cX1_kthNear 12 = .ok (.if_icmp .ge 36, 3) := by decide +kernel
theorem dX1_kthNear_15 : decode cX1_kthNear 15 = .ok (.aload_n 0, 1) := by decide +kernel
theorem dX1_kthNear_16 : decode cX1_kthNear 16 = .ok (.getfield 21, 3) := by decide +kernel
theorem dX1_kthNear_19 : decode cX1_kthNear 19 = .ok (.iload 5, 2) := by decide +kernel
theorem dX1_kthNear_21 : decode cX1_kthNear 21 = .ok (.iaload, 1) := by decide +kernel
theorem dX1_kthNear_22 : decode cX1_kthNear 22 = .ok (.iload_n 1, 1) := by decide +kernel
theorem dX1_kthNear_23 : decode cX1_kthNear 23 = .ok (.invokestatic 39, 3) := by decide +kernel
theorem dX1_kthNear_26 : decode cX1_kthNear 26 = .ok (.iload_n 2, 1) := by decide +kernel
theorem dX1_kthNear_27 : decode cX1_kthNear 27 = .ok (.if_icmp .gt 15, 3) := by decide +kernel
theorem dX1_kthNear_30 : decode cX1_kthNear 30 = .ok (.iload 4, 2) := by decide +kernel
theorem dX1_kthNear_32 : decode cX1_kthNear 32 = .ok (.iload_n 3, 1) := by decide +kernel
theorem dX1_kthNear_33 : decode cX1_kthNear 33 = .ok (.if_icmp .ne 6, 3) := by decide +kernel
theorem dX1_kthNear_36 : decode cX1_kthNear 36 = .ok (.iload 5, 2) := by decide +kernel
theorem dX1_kthNear_38 : decode cX1_kthNear 38 = .ok (.ireturn, 1) := by decide +kernel
theorem dX1_kthNear_39 : decode cX1_kthNear 39 = .ok (.iinc 4 1, 3) := by decide +kernel
theorem dX1_kthNear_42 : decode cX1_kthNear 42 = .ok (.iinc 5 1, 3) := by decide +kernel
theorem dX1_kthNear_45 : decode cX1_kthNear 45 = .ok (.goto (-39), 3) := by decide +kernel
theorem dX1_kthNear_48 : decode cX1_kthNear 48 = .ok (.iload_n 3, 1) := by decide +kernel
theorem dX1_kthNear_49 : decode cX1_kthNear 49 = .ok (.iconst (-1), 1) := by decide +kernel
theorem dX1_kthNear_50 : decode cX1_kthNear 50 = .ok (.if_icmp .ne 8, 3) := by decide +kernel
theorem dX1_kthNear_53 : decode cX1_kthNear 53 = .ok (.iload 4, 2) := by decide +kernel
theorem dX1_kthNear_55 : decode cX1_kthNear 55 = .ok (.goto 4, 3) := by decide +kernel
theorem dX1_kthNear_58 : decode cX1_kthNear 58 = .ok (.iconst (-1), 1) := by decide +kernel
theorem dX1_kthNear_59 : decode cX1_kthNear 59 = .ok (.ireturn, 1) := by decide +kernel
theorem dX1_unlikeLetters_0 : decode cX1_unlikeLetters 0 = .ok (.iconst 0, 1) := by decide +kernel
theorem dX1_unlikeLetters_1 : decode cX1_unlikeLetters 1 = .ok (.istore_n 2, 1) := by decide +kernel
theorem dX1_unlikeLetters_2 : decode cX1_unlikeLetters 2 = .ok (.iload_n 0, 1) := by decide +kernel
theorem dX1_unlikeLetters_3 : decode cX1_unlikeLetters 3 = .ok (.istore_n 3, 1) := by decide +kernel
theorem dX1_unlikeLetters_4 : decode cX1_unlikeLetters 4 = .ok (.iload_n 1, 1) := by decide +kernel
theorem dX1_unlikeLetters_5 : decode cX1_unlikeLetters 5 = .ok (.istore 4, 2) := by decide +kernel
theorem dX1_unlikeLetters_7 : decode cX1_unlikeLetters 7 = .ok (.iconst 0, 1) := by decide +kernel
theorem dX1_unlikeLetters_8 : decode cX1_unlikeLetters 8 = .ok (.istore 5, 2) := by decide +kernel
theorem dX1_unlikeLetters_10 : decode cX1_unlikeLetters 10 = .ok (.iload 5, 2) := by decide +kernel
theorem dX1_unlikeLetters_12 : decode cX1_unlikeLetters 12 = .ok (.iconst 3, 1) := by decide +kernel
theorem dX1_unlikeLetters_13 : decode cX1_unlikeLetters 13 = .ok (.if_icmp .ge 36, 3) := by decide +kernel
theorem dX1_unlikeLetters_16 : decode cX1_unlikeLetters 16 = .ok (.iload_n 3, 1) := by decide +kernel
theorem dX1_unlikeLetters_17 : decode cX1_unlikeLetters 17 = .ok (.bipush 26, 2) := by decide +kernel
theorem dX1_unlikeLetters_19 : decode cX1_unlikeLetters 19 = .ok (.irem, 1) := by decide +kernel
theorem dX1_unlikeLetters_20 : decode cX1_unlikeLetters 20 = .ok (.iload 4, 2) := by decide +kernel
theorem dX1_unlikeLetters_22 : decode cX1_unlikeLetters 22 = .ok (.bipush 26, 2) := by decide +kernel
theorem dX1_unlikeLetters_24 : decode cX1_unlikeLetters 24 = .ok (.irem, 1) := by decide +kernel
theorem dX1_unlikeLetters_25 : decode cX1_unlikeLetters 25 = .ok (.if_icmp .eq 6, 3) := by decide +kernel
theorem dX1_unlikeLetters_28 : decode cX1_unlikeLetters 28 = .ok (.iinc 2 1, 3) := by decide +kernel
theorem dX1_unlikeLetters_31 : decode cX1_unlikeLetters 31 = .ok (.iload_n 3, 1) := by decide +kernel
theorem dX1_unlikeLetters_32 : decode cX1_unlikeLetters 32 = .ok (.bipush 26, 2) := by decide +kernel
theorem dX1_unlikeLetters_34 : decode cX1_unlikeLetters 34 = .ok (.idiv, 1) := by decide +kernel
theorem dX1_unlikeLetters_35 : decode cX1_unlikeLetters 35 = .ok (.istore_n 3, 1) := by decide +kernel
theorem dX1_unlikeLetters_36 : decode cX1_unlikeLetters 36 = .ok (.iload 4, 2) := by decide +kernel
theorem dX1_unlikeLetters_38 : decode cX1_unlikeLetters 38 = .ok (.bipush 26, 2) := by decide +kernel
theorem dX1_unlikeLetters_40 : decode cX1_unlikeLetters 40 = .ok (.idiv, 1) := by decide +kernel
theorem dX1_unlikeLetters_41 : decode cX1_unlikeLetters 41 = .ok (.istore 4, 2) := by decide +kernel
theorem dX1_unlikeLetters_43 : decode cX1_unlikeLetters 43 = .ok (.iinc 5 1, 3) := by decide +kernel
theorem dX1_unlikeLetters_46 : decode cX1_unlikeLetters 46 = .ok (.goto (-36), 3) := by decide +kernel
theorem dX1_unlikeLetters_49 : decode cX1_unlikeLetters 49 = .ok (.iload_n 2, 1) := by decide +kernel
theorem dX1_unlikeLetters_50 : decode cX1_unlikeLetters 50 = .ok (.ireturn, 1) := by decide +kernel
theorem dX2_init_0 : decode cX2_init 0 = .ok (.aload_n 0, 1) := by decide +kernel
theorem dX2_init_1 : decode cX2_init 1 = .ok (.invokespecial 3, 3) := by decide +kernel
theorem dX2_init_4 : decode cX2_init 4 = .ok (.aload_n 0, 1) := by decide +kernel
theorem dX2_init_5 : decode cX2_init 5 = .ok (.bipush 20, 2) := by decide +kernel
theorem dX2_init_7 : decode cX2_init 7 = .ok (.newarray .int, 2) := by decide +kernel
theorem dX2_init_9 : decode cX2_init 9 = .ok (.putfield 11, 3) := by decide +kernel
theorem dX2_init_12 : decode cX2_init 12 = .ok (.aload_n 0, 1) := by decide +kernel
theorem dX2_init_13 : decode cX2_init 13 = .ok (.bipush 20, 2) := by decide +kernel
theorem dX2_init_15 : decode cX2_init 15 = .ok (.newarray .int, 2) := by decide +kernel
theorem dX2_init_17 : decode cX2_init 17 = .ok (.putfield 17, 3) := by decide +kernel
theorem dX2_init_20 : decode cX2_init 20 = .ok (.aload_n 0, 1) := by decide +kernel
theorem dX2_init_21 : decode cX2_init 21 = .ok (.aload_n 1, 1) := by decide +kernel
theorem dX2_init_22 : decode cX2_init 22 = .ok (.putfield 20, 3) := by decide +kernel
theorem dX2_init_25 : decode cX2_init 25 = .ok (.aload_n 0, 1) := by decide +kernel
theorem dX2_init_26 : decode cX2_init 26 = .ok (.aload_n 2, 1) := by decide +kernel
theorem dX2_init_27 : decode cX2_init 27 = .ok (.putfield 24, 3) := by decide +kernel
theorem dX2_init_30 : decode cX2_init 30 = .ok (.return_, 1) := by decide +kernel
theorem dX2_parse_0 : decode cX2_parse 0 = .ok (.aload_n 0, 1) := by decide +kernel
theorem dX2_parse_1 : decode cX2_parse 1 = .ok (.getfield 24, 3) := by decide +kernel
theorem dX2_parse_4 : decode cX2_parse 4 = .ok (.invokevirtual 28, 3) := by decide +kernel
theorem dX2_parse_7 : decode cX2_parse 7 = .ok (.aload_n 0, 1) := by decide +kernel
theorem dX2_parse_8 : decode cX2_parse 8 = .ok (.iconst 0, 1) := by decide +kernel
theorem dX2_parse_9 : decode cX2_parse 9 = .ok (.putfield 31, 3) := by decide +kernel
theorem dX2_parse_12 : decode cX2_parse 12 = .ok (.aload_n 0, 1) := by decide +kernel
theorem dX2_parse_13 : decode cX2_parse 13 = .ok (.invokevirtual 35, 3) := by decide +kernel
theorem dX2_parse_16 : decode cX2_parse 16 = .ok (.aload_n 0, 1) := by decide +kernel
theorem dX2_parse_17 : decode cX2_parse 17 = .ok (.getfield 38, 3) := by decide +kernel
theorem dX2_parse_20 : decode cX2_parse 20 = .ok (.ifCond .ne 8, 3) := by decide +kernel
theorem dX2_parse_23 : decode cX2_parse 23 = .ok (.aload_n 0, 1) := by decide +kernel
theorem dX2_parse_24 : decode cX2_parse 24 = .ok (.getfield 41, 3) := by decide +kernel
theorem dX2_parse_27 : decode cX2_parse 27 = .ok (.ireturn, 1) := by decide +kernel
theorem dX2_parse_28 : decode cX2_parse 28 = .ok (.iconst 0, 1) := by decide +kernel
theorem dX2_parse_29 : decode cX2_parse 29 = .ok (.istore_n 1, 1) := by decide +kernel
theorem dX2_parse_30 : decode cX2_parse 30 = .ok (.iload_n 1, 1) := by decide +kernel
theorem dX2_parse_31 : decode cX2_parse 31 = .ok (.sipush 500, 3) := by decide +kernel
theorem dX2_parse_34 : decode cX2_parse 34 = .ok (.if_icmp .ge 28, 3) := by decide +kernel
theorem dX2_parse_37 : decode cX2_parse 37 = .ok (.aload_n 0, 1) := by decide +kernel
theorem dX2_parse_38 : decode cX2_parse 38 = .ok (.getfield 38, 3) := by decide +kernel
theorem dX2_parse_41 : decode cX2_parse 41 = .ok (.ifCond .eq 21, 3) := by decide +kernel
theorem dX2_parse_44 : decode cX2_parse 44 = .ok (.aload_n 0, 1) := by decide +kernel
theorem dX2_parse_45 : decode cX2_parse 45 = .ok (.invokevirtual 46, 3) := by decide +kernel
theorem dX2_parse_48 : decode cX2_parse 48 = .ok (.ifCond .ne 8, 3) := by decide +kernel
theorem dX2_parse_51 : decode cX2_parse 51 = .ok (.aload_n 0, 1) := by decide +kernel
theorem dX2_parse_52 : decode cX2_parse 52 = .ok (.getfield 41, 3) := by decide +kernel
theorem dX2_parse_55 : decode cX2_parse 55 = .ok (.ireturn, 1) := by decide +kernel
theorem dX2_parse_56 : decode cX2_parse 56 = .ok (.iinc 1 1, 3) := by decide +kernel
theorem dX2_parse_59 : decode cX2_parse 59 = .ok (.goto (-29), 3) := by decide +kernel
theorem dX2_parse_62 : decode cX2_parse 62 = .ok (.iconst (-1), 1) := by decide +kernel
theorem dX2_parse_63 : decode cX2_parse 63 = .ok (.ireturn, 1) := by decide +kernel
theorem dX2_parseLine_0 : decode cX2_parseLine 0 = .ok (.aload_n 0, 1) := by decide +kernel
theorem dX2_parseLine_1 : decode cX2_parseLine 1 = .ok (.ldc 50, 2) := by decide +kernel
theorem dX2_parseLine_3 : decode cX2_parseLine 3 = .ok (.invokevirtual 52, 3) := by decide +kernel
theorem dX2_parseLine_6 : decode cX2_parseLine 6 = .ok (.ifCond .eq 8, 3) := by decide +kernel
theorem dX2_parseLine_9 : decode cX2_parseLine 9 = .ok (.aload_n 0, 1) := by decide +kernel
theorem dX2_parseLine_10 : decode cX2_parseLine 10 = .ok (.invokevirtual 56, 3) := by decide +kernel
theorem dX2_parseLine_13 : decode cX2_parseLine 13 = .ok (.ireturn, 1) := by decide +kernel
theorem dX2_parseLine_14 : decode cX2_parseLine 14 = .ok (.aload_n 0, 1) := by decide +kernel
theorem dX2_parseLine_15 : decode cX2_parseLine 15 = .ok (.ldc 59, 2) := by decide +kernel
theorem dX2_parseLine_17 : decode cX2_parseLine 17 = .ok (.invokevirtual 52, 3) := by decide +kernel
theorem dX2_parseLine_20 : decode cX2_parseLine 20 = .ok (.ifCond .eq 24, 3) := by decide +kernel
theorem dX2_parseLine_23 : decode cX2_parseLine 23 = .ok (.aload_n 0, 1) := by decide +kernel
theorem dX2_parseLine_24 : decode cX2_parseLine 24 = .ok (.getfield 24, 3) := by decide +kernel
theorem dX2_parseLine_27 : decode cX2_parseLine 27 = .ok (.invokevirtual 61, 3) := by decide +kernel
theorem dX2_parseLine_30 : decode cX2_parseLine 30 = .ok (.ifCond .eq 14, 3) := by decide +kernel
theorem dX2_parseLine_33 : decode cX2_parseLine 33 = .ok (.aload_n 0, 1) := by decide +kernel
theorem dX2_parseLine_34 : decode cX2_parseLine 34 = .ok (.invokevirtual 64, 3) := by decide +kernel
theorem dX2_parseLine_37 : decode cX2_parseLine 37 = .ok (.ifCond .eq 7, 3) := by decide +kernel
theorem dX2_parseLine_40 : decode cX2_parseLine 40 = .ok (.iconst 1, 1) := by decide +kernel
theorem dX2_parseLine_41 : decode cX2_parseLine 41 = .ok (.goto 4, 3) := by decide +kernel
theorem dX2_parseLine_44 : decode cX2_parseLine 44 = .ok (.iconst 0, 1) := by decide +kernel
theorem dX2_parseLine_45 : decode cX2_parseLine 45 = .ok (.ireturn, 1) := by decide +kernel
theorem dX2_parseLetter_0 : decode cX2_parseLetter 0 = .ok (.aload_n 0, 1) := by decide +kernel
theorem dX2_parseLetter_1 : decode cX2_parseLetter 1 = .ok (.invokevirtual 35, 3) := by decide +kernel
theorem dX2_parseLetter_4 : decode cX2_parseLetter 4 = .ok (.aload_n 0, 1) := by decide +kernel
theorem dX2_parseLetter_5 : decode cX2_parseLetter 5 = .ok (.getfield 20, 3) := by decide +kernel
theorem dX2_parseLetter_8 : decode cX2_parseLetter 8 = .ok (.aload_n 0, 1) := by decide +kernel
theorem dX2_parseLetter_9 : decode cX2_parseLetter 9 = .ok (.getfield 41, 3) := by decide +kernel
theorem dX2_parseLetter_12 : decode cX2_parseLetter 12 = .ok (.invokevirtual 67, 3) := by decide +kernel
theorem dX2_parseLetter_15 : decode cX2_parseLetter 15 = .ok (.bipush 97, 2) := by decide +kernel
theorem dX2_parseLetter_17 : decode cX2_parseLetter 17 = .ok (.isub, 1) := by decide +kernel
theorem dX2_parseLetter_18 : decode cX2_parseLetter 18 = .ok (.istore_n 1, 1) := by decide +kernel
theorem dX2_parseLetter_19 : decode cX2_parseLetter 19 = .ok (.aload_n 0, 1) := by decide +kernel
theorem dX2_parseLetter_20 : decode cX2_parseLetter 20 = .ok (.getfield 38, 3) := by decide +kernel
theorem dX2_parseLetter_23 : decode cX2_parseLetter 23 = .ok (.iconst 1, 1) := by decide +kernel
theorem dX2_parseLetter_24 : decode cX2_parseLetter 24 = .ok (.if_icmp .ne 22, 3) := by decide +kernel
theorem dX2_parseLetter_27 : decode cX2_parseLetter 27 = .ok (.aload_n 0, 1) := by decide +kernel
theorem dX2_parseLetter_28 : decode cX2_parseLetter 28 = .ok (.invokevirtual 71, 3) := by decide +kernel
theorem dX2_parseLetter_31 : decode cX2_parseLetter 31 = .ok (.iconst 1, 1) := by decide +kernel
theorem dX2_parseLetter_32 : decode cX2_parseLetter 32 = .ok (.if_icmp .ne 14, 3) := by decide +kernel
theorem dX2_parseLetter_35 : decode cX2_parseLetter 35 = .ok (.aload_n 0, 1) := by decide +kernel
theorem dX2_parseLetter_36 : decode cX2_parseLetter 36 = .ok (.getfield 24, 3) := by decide +kernel
theorem dX2_parseLetter_39 : decode cX2_parseLetter 39 = .ok (.iload_n 1, 1) := by decide +kernel
theorem dX2_parseLetter_40 : decode cX2_parseLetter 40 = .ok (.invokevirtual 75, 3) := by decide +kernel
theorem dX2_parseLetter_43 : decode cX2_parseLetter 43 = .ok (.ifCond .eq 5, 3) := by decide +kernel
theorem dX2_parseLetter_46 : decode cX2_parseLetter 46 = .ok (.iconst 0, 1) := by decide +kernel
theorem dX2_parseLetter_47 : decode cX2_parseLetter 47 = .ok (.ireturn, 1) := by decide +kernel
theorem dX2_parseLetter_48 : decode cX2_parseLetter 48 = .ok (.aload_n 0, 1) := by decide +kernel
theorem dX2_parseLetter_49 : decode cX2_parseLetter 49 = .ok (.invokevirtual 35, 3) := by decide +kernel
theorem dX2_parseLetter_52 : decode cX2_parseLetter 52 = .ok (.aload_n 0, 1) := by decide +kernel
theorem dX2_parseLetter_53 : decode cX2_parseLetter 53 = .ok (.invokevirtual 79, 3) := by decide +kernel
theorem dX2_parseLetter_56 : decode cX2_parseLetter 56 = .ok (.istore_n 2, 1) := by decide +kernel
theorem dX2_parseLetter_57 : decode cX2_parseLetter 57 = .ok (.iload_n 2, 1) := by decide +kernel
theorem dX2_parseLetter_58 : decode cX2_parseLetter 58 = .ok (.iconst (-1), 1) := by decide +kernel
theorem dX2_parseLetter_59 : decode cX2_parseLetter 59 = .ok (.if_icmp .eq 14, 3) := by decide +kernel
theorem dX2_parseLetter_62 : decode cX2_parseLetter 62 = .ok (.aload_n 0, 1) := by decide +kernel
theorem dX2_parseLetter_63 : decode cX2_parseLetter 63 = .ok (.getfield 24, 3) := by decide +kernel
theorem dX2_parseLetter_66 : decode cX2_parseLetter 66 = .ok (.iload_n 2, 1) := by decide +kernel
theorem dX2_parseLetter_67 : decode cX2_parseLetter 67 = .ok (.invokevirtual 82, 3) := by decide +kernel
theorem dX2_parseLetter_70 : decode cX2_parseLetter 70 = .ok (.ifCond .eq 5, 3) := by decide +kernel
theorem dX2_parseLetter_73 : decode cX2_parseLetter 73 = .ok (.iconst 0, 1) := by decide +kernel
theorem dX2_parseLetter_74 : decode cX2_parseLetter 74 = .ok (.ireturn, 1) := by decide +kernel
theorem dX2_parseLetter_75 : decode cX2_parseLetter 75 = .ok (.aload_n 0, 1) := by decide +kernel
theorem dX2_parseLetter_76 : decode cX2_parseLetter 76 = .ok (.invokevirtual 35, 3) := by decide +kernel
theorem dX2_parseLetter_79 : decode cX2_parseLetter 79 = .ok (.aload_n 0, 1) := by decide +kernel
theorem dX2_parseLetter_80 : decode cX2_parseLetter 80 = .ok (.getfield 38, 3) := by decide +kernel
theorem dX2_parseLetter_83 : decode cX2_parseLetter 83 = .ok (.iconst 3, 1) := by decide +kernel
theorem dX2_parseLetter_84 : decode cX2_parseLetter 84 = .ok (.if_icmp .eq 5, 3) := by decide +kernel
theorem dX2_parseLetter_87 : decode cX2_parseLetter 87 = .ok (.iconst 0, 1) := by decide +kernel
theorem dX2_parseLetter_88 : decode cX2_parseLetter 88 = .ok (.ireturn, 1) := by decide +kernel
theorem dX2_parseLetter_89 : decode cX2_parseLetter 89 = .ok (.aload_n 0, 1) := by decide +kernel
theorem dX2_parseLetter_90 : decode cX2_parseLetter 90 = .ok (.getfield 24, 3) := by decide +kernel
theorem dX2_parseLetter_93 : decode cX2_parseLetter 93 = .ok (.iload_n 1, 1) := by decide +kernel
theorem dX2_parseLetter_94 : decode cX2_parseLetter 94 = .ok (.iload_n 2, 1) := by decide +kernel
theorem dX2_parseLetter_95 : decode cX2_parseLetter 95 = .ok (.invokevirtual 85, 3) := by decide +kernel
theorem dX2_parseLetter_98 : decode cX2_parseLetter 98 = .ok (.aload_n 0, 1) := by decide +kernel
theorem dX2_parseLetter_99 : decode cX2_parseLetter 99 = .ok (.invokevirtual 35, 3) := by decide +kernel
theorem dX2_parseLetter_102 : decode cX2_parseLetter 102 = .ok (.iconst 1, 1) := by decide +kernel
theorem dX2_parseLetter_103 : decode cX2_parseLetter 103 = .ok (.ireturn, 1) := by decide +kernel
theorem dX2_parseWord_0 : decode cX2_parseWord 0 = .ok (.aload_n 0, 1) := by decide +kernel
theorem dX2_parseWord_1 : decode cX2_parseWord 1 = .ok (.invokevirtual 35, 3) := by decide +kernel
theorem dX2_parseWord_4 : decode cX2_parseWord 4 = .ok (.aload_n 0, 1) := by decide +kernel
theorem dX2_parseWord_5 : decode cX2_parseWord 5 = .ok (.aload_n 0, 1) := by decide +kernel
theorem dX2_parseWord_6 : decode cX2_parseWord 6 = .ok (.getfield 24, 3) := by decide +kernel
theorem dX2_parseWord_9 : decode cX2_parseWord 9 = .ok (.invokevirtual 89, 3) := by decide +kernel
theorem dX2_parseWord_12 : decode cX2_parseWord 12 = .ok (.invokevirtual 92, 3) := by decide +kernel
theorem dX2_parseWord_15 : decode cX2_parseWord 15 = .ok (.ifCond .ne 5, 3) := by decide +kernel
theorem dX2_parseWord_18 : decode cX2_parseWord 18 = .ok (.iconst 0, 1) := by decide +kernel
theorem dX2_parseWord_19 : decode cX2_parseWord 19 = .ok (.ireturn, 1) := by decide +kernel
theorem dX2_parseWord_20 : decode cX2_parseWord 20 = .ok (.aload_n 0, 1) := by decide +kernel
theorem dX2_parseWord_21 : decode cX2_parseWord 21 = .ok (.aload_n 0, 1) := by decide +kernel
theorem dX2_parseWord_22 : decode cX2_parseWord 22 = .ok (.getfield 24, 3) := by decide +kernel
theorem dX2_parseWord_25 : decode cX2_parseWord 25 = .ok (.invokevirtual 89, 3) := by decide +kernel
theorem dX2_parseWord_28 : decode cX2_parseWord 28 = .ok (.invokevirtual 95, 3) := by decide +kernel
theorem dX2_parseWord_31 : decode cX2_parseWord 31 = .ok (.aload_n 0, 1) := by decide +kernel
theorem dX2_parseWord_32 : decode cX2_parseWord 32 = .ok (.invokevirtual 35, 3) := by decide +kernel
theorem dX2_parseWord_35 : decode cX2_parseWord 35 = .ok (.aload_n 0, 1) := by decide +kernel
theorem dX2_parseWord_36 : decode cX2_parseWord 36 = .ok (.ldc 99, 2) := by decide +kernel
theorem dX2_parseWord_38 : decode cX2_parseWord 38 = .ok (.invokevirtual 52, 3) := by decide +kernel
theorem dX2_parseWord_41 : decode cX2_parseWord 41 = .ok (.ifCond .ne 5, 3) := by decide +kernel
theorem dX2_parseWord_44 : decode cX2_parseWord 44 = .ok (.iconst 0, 1) := by decide +kernel
theorem dX2_parseWord_45 : decode cX2_parseWord 45 = .ok (.ireturn, 1) := by decide +kernel
theorem dX2_parseWord_46 : decode cX2_parseWord 46 = .ok (.aload_n 0, 1) := by decide +kernel
theorem dX2_parseWord_47 : decode cX2_parseWord 47 = .ok (.invokevirtual 35, 3) := by decide +kernel
theorem dX2_parseWord_50 : decode cX2_parseWord 50 = .ok (.aload_n 0, 1) := by decide +kernel
theorem dX2_parseWord_51 : decode cX2_parseWord 51 = .ok (.invokevirtual 101, 3) := by decide +kernel
theorem dX2_parseWord_54 : decode cX2_parseWord 54 = .ok (.istore_n 1, 1) := by decide +kernel
theorem dX2_parseWord_55 : decode cX2_parseWord 55 = .ok (.iload_n 1, 1) := by decide +kernel
theorem dX2_parseWord_56 : decode cX2_parseWord 56 = .ok (.iconst (-1), 1) := by decide +kernel
theorem dX2_parseWord_57 : decode cX2_parseWord 57 = .ok (.if_icmp .eq 14, 3) := by decide +kernel
theorem dX2_parseWord_60 : decode cX2_parseWord 60 = .ok (.aload_n 0, 1) := by decide +kernel
theorem dX2_parseWord_61 : decode cX2_parseWord 61 = .ok (.getfield 24, 3) := by decide +kernel
theorem dX2_parseWord_64 : decode cX2_parseWord 64 = .ok (.iload_n 1, 1) := by decide +kernel
theorem dX2_parseWord_65 : decode cX2_parseWord 65 = .ok (.invokevirtual 104, 3) := by decide +kernel
theorem dX2_parseWord_68 : decode cX2_parseWord 68 = .ok (.ifCond .eq 5, 3) := by decide +kernel
theorem dX2_parseWord_71 : decode cX2_parseWord 71 = .ok (.iconst 0, 1) := by decide +kernel
theorem dX2_parseWord_72 : decode cX2_parseWord 72 = .ok (.ireturn, 1) := by decide +kernel
theorem dX2_parseWord_73 : decode cX2_parseWord 73 = .ok (.aload_n 0, 1) := by decide +kernel
theorem dX2_parseWord_74 : decode cX2_parseWord 74 = .ok (.invokevirtual 35, 3) := by decide +kernel
theorem dX2_parseWord_77 : decode cX2_parseWord 77 = .ok (.aload_n 0, 1) := by decide +kernel
theorem dX2_parseWord_78 : decode cX2_parseWord 78 = .ok (.getfield 38, 3) := by decide +kernel
theorem dX2_parseWord_81 : decode cX2_parseWord 81 = .ok (.iconst 3, 1) := by decide +kernel
theorem dX2_parseWord_82 : decode cX2_parseWord 82 = .ok (.if_icmp .eq 5, 3) := by decide +kernel
theorem dX2_parseWord_85 : decode cX2_parseWord 85 = .ok (.iconst 0, 1) := by decide +kernel
theorem dX2_parseWord_86 : decode cX2_parseWord 86 = .ok (.ireturn, 1) := by decide +kernel
theorem dX2_parseWord_87 : decode cX2_parseWord 87 = .ok (.aload_n 0, 1) := by decide +kernel
theorem dX2_parseWord_88 : decode cX2_parseWord 88 = .ok (.getfield 24, 3) := by decide +kernel
theorem dX2_parseWord_91 : decode cX2_parseWord 91 = .ok (.iload_n 1, 1) := by decide +kernel
theorem dX2_parseWord_92 : decode cX2_parseWord 92 = .ok (.invokevirtual 107, 3) := by decide +kernel
theorem dX2_parseWord_95 : decode cX2_parseWord 95 = .ok (.aload_n 0, 1) := by decide +kernel
theorem dX2_parseWord_96 : decode cX2_parseWord 96 = .ok (.invokevirtual 35, 3) := by decide +kernel
theorem dX2_parseWord_99 : decode cX2_parseWord 99 = .ok (.iconst 1, 1) := by decide +kernel
theorem dX2_parseWord_100 : decode cX2_parseWord 100 = .ok (.ireturn, 1) := by decide +kernel
theorem dX2_step_0 : decode cX2_step 0 = .ok (.aload_n 0, 1) := by decide +kernel
theorem dX2_step_1 : decode cX2_step 1 = .ok (.getfield 31, 3) := by decide +kernel
theorem dX2_step_4 : decode cX2_step 4 = .ok (.istore_n 1, 1) := by decide +kernel
theorem dX2_step_5 : decode cX2_step 5 = .ok (.iload_n 1, 1) := by decide +kernel
theorem dX2_step_6 : decode cX2_step 6 = .ok (.aload_n 0, 1) := by decide +kernel
theorem dX2_step_7 : decode cX2_step 7 = .ok (.getfield 20, 3) := by decide +kernel
theorem dX2_step_10 : decode cX2_step 10 = .ok (.invokevirtual 110, 3) := by decide +kernel
theorem dX2_step_13 : decode cX2_step 13 = .ok (.if_icmp .ge 35, 3) := by decide +kernel
theorem dX2_step_16 : decode cX2_step 16 = .ok (.aload_n 0, 1) := by decide +kernel
theorem dX2_step_17 : decode cX2_step 17 = .ok (.getfield 20, 3) := by decide +kernel
theorem dX2_step_20 : decode cX2_step 20 = .ok (.iload_n 1, 1) := by decide +kernel
theorem dX2_step_21 : decode cX2_step 21 = .ok (.invokevirtual 67, 3) := by decide +kernel
theorem dX2_step_24 : decode cX2_step 24 = .ok (.bipush 32, 2) := by decide +kernel
theorem dX2_step_26 : decode cX2_step 26 = .ok (.if_icmp .eq 16, 3) := by decide +kernel
theorem dX2_step_29 : decode cX2_step 29 = .ok (.aload_n 0, 1) := by decide +kernel
theorem dX2_step_30 : decode cX2_step 30 = .ok (.getfield 20, 3) := by decide +kernel
theorem dX2_step_33 : decode cX2_step 33 = .ok (.iload_n 1, 1) := by decide +kernel
theorem dX2_step_34 : decode cX2_step 34 = .ok (.invokevirtual 67, 3) := by decide +kernel
theorem dX2_step_37 : decode cX2_step 37 = .ok (.bipush 10, 2) := by decide +kernel
theorem dX2_step_39 : decode cX2_step 39 = .ok (.if_icmp .ne 9, 3) := by decide +kernel
theorem dX2_step_42 : decode cX2_step 42 = .ok (.iinc 1 1, 3) := by decide +kernel
theorem dX2_step_45 : decode cX2_step 45 = .ok (.goto (-40), 3) := by decide +kernel
theorem dX2_step_48 : decode cX2_step 48 = .ok (.aload_n 0, 1) := by decide +kernel
theorem dX2_step_49 : decode cX2_step 49 = .ok (.iload_n 1, 1) := by decide +kernel
theorem dX2_step_50 : decode cX2_step 50 = .ok (.putfield 41, 3) := by decide +kernel
theorem dX2_step_53 : decode cX2_step 53 = .ok (.aload_n 0, 1) := by decide +kernel
theorem dX2_step_54 : decode cX2_step 54 = .ok (.aload_n 0, 1) := by decide +kernel
theorem dX2_step_55 : decode cX2_step 55 = .ok (.iload_n 1, 1) := by decide +kernel
theorem dX2_step_56 : decode cX2_step 56 = .ok (.invokevirtual 113, 3) := by decide +kernel
theorem dX2_step_59 : decode cX2_step 59 = .ok (.putfield 38, 3) := by decide +kernel
theorem dX2_step_62 : decode cX2_step 62 = .ok (.aload_n 0, 1) := by decide +kernel
theorem dX2_step_63 : decode cX2_step 63 = .ok (.getfield 38, 3) := by decide +kernel
theorem dX2_step_66 : decode cX2_step 66 = .ok (.ifCond .ne 9, 3) := by decide +kernel
theorem dX2_step_69 : decode cX2_step 69 = .ok (.aload_n 0, 1) := by decide +kernel
theorem dX2_step_70 : decode cX2_step 70 = .ok (.iload_n 1, 1) := by decide +kernel
theorem dX2_step_71 : decode cX2_step 71 = .ok (.putfield 31, 3) := by decide +kernel
theorem dX2_step_74 : decode cX2_step 74 = .ok (.return_, 1) := by decide +kernel
theorem dX2_step_75 : decode cX2_step 75 = .ok (.iinc 1 1, 3) := by decide +kernel
theorem dX2_step_78 : decode cX2_step 78 = .ok (.aload_n 0, 1) := by decide +kernel
theorem dX2_step_79 : decode cX2_step 79 = .ok (.getfield 38, 3) := by decide +kernel
theorem dX2_step_82 : decode cX2_step 82 = .ok (.iconst 1, 1) := by decide +kernel
theorem dX2_step_83 : decode cX2_step 83 = .ok (.if_icmp .eq 11, 3) := by decide +kernel
theorem dX2_step_86 : decode cX2_step 86 = .ok (.aload_n 0, 1) := by decide +kernel
theorem dX2_step_87 : decode cX2_step 87 = .ok (.getfield 38, 3) := by decide +kernel
theorem dX2_step_90 : decode cX2_step 90 = .ok (.iconst 2, 1) := by decide +kernel
theorem dX2_step_91 : decode cX2_step 91 = .ok (.if_icmp .ne 32, 3) := by decide +kernel
theorem dX2_step_94 : decode cX2_step 94 = .ok (.iload_n 1, 1) := by decide +kernel
theorem dX2_step_95 : decode cX2_step 95 = .ok (.aload_n 0, 1) := by decide +kernel
theorem dX2_step_96 : decode cX2_step 96 = .ok (.getfield 20, 3) := by decide +kernel
theorem dX2_step_99 : decode cX2_step 99 = .ok (.invokevirtual 110, 3) := by decide +kernel
theorem dX2_step_102 : decode cX2_step 102 = .ok (.if_icmp .ge 21, 3) := by decide +kernel
theorem dX2_step_105 : decode cX2_step 105 = .ok (.aload_n 0, 1) := by decide +kernel
theorem dX2_step_106 : decode cX2_step 106 = .ok (.iload_n 1, 1) := by decide +kernel
theorem dX2_step_107 : decode cX2_step 107 = .ok (.invokevirtual 113, 3) := by decide +kernel
theorem dX2_step_110 : decode cX2_step 110 = .ok (.aload_n 0, 1) := by decide +kernel
theorem dX2_step_111 : decode cX2_step 111 = .ok (.getfield 38, 3) := by decide +kernel
theorem dX2_step_114 : decode cX2_step 114 = .ok (.if_icmp .ne 9, 3) := by decide +kernel
theorem dX2_step_117 : decode cX2_step 117 = .ok (.iinc 1 1, 3) := by decide +kernel
theorem dX2_step_120 : decode cX2_step 120 = .ok (.goto (-26), 3) := by decide +kernel
theorem dX2_step_123 : decode cX2_step 123 = .ok (.aload_n 0, 1) := by decide +kernel
theorem dX2_step_124 : decode cX2_step 124 = .ok (.iload_n 1, 1) := by decide +kernel
theorem dX2_step_125 : decode cX2_step 125 = .ok (.putfield 31, 3) := by decide +kernel
theorem dX2_step_128 : decode cX2_step 128 = .ok (.return_, 1) := by decide +kernel
theorem dX2_kindAt_0 : decode cX2_kindAt 0 = .ok (.aload_n 0, 1) := by decide +kernel
theorem dX2_kindAt_1 : decode cX2_kindAt 1 = .ok (.getfield 20, 3) := by decide +kernel
theorem dX2_kindAt_4 : decode cX2_kindAt 4 = .ok (.iload_n 1, 1) := by decide +kernel
theorem dX2_kindAt_5 : decode cX2_kindAt 5 = .ok (.invokevirtual 67, 3) := by decide +kernel
theorem dX2_kindAt_8 : decode cX2_kindAt 8 = .ok (.istore_n 2, 1) := by decide +kernel
theorem dX2_kindAt_9 : decode cX2_kindAt 9 = .ok (.iload_n 2, 1) := by decide +kernel
theorem dX2_kindAt_10 : decode cX2_kindAt 10 = .ok (.iconst (-1), 1) := by decide +kernel
theorem dX2_kindAt_11 : decode cX2_kindAt 11 = .ok (.if_icmp .ne 5, 3) := by decide +kernel
theorem dX2_kindAt_14 : decode cX2_kindAt 14 = .ok (.iconst 0, 1) := by decide +kernel
theorem dX2_kindAt_15 : decode cX2_kindAt 15 = .ok (.ireturn, 1) := by decide +kernel
theorem dX2_kindAt_16 : decode cX2_kindAt 16 = .ok (.iload_n 2, 1) := by decide +kernel
theorem dX2_kindAt_17 : decode cX2_kindAt 17 = .ok (.bipush 97, 2) := by decide +kernel
theorem dX2_kindAt_19 : decode cX2_kindAt 19 = .ok (.if_icmp .lt 11, 3) := by decide +kernel
theorem dX2_kindAt_22 : decode cX2_kindAt 22 = .ok (.iload_n 2, 1) := by decide +kernel
theorem dX2_kindAt_23 : decode cX2_kindAt 23 = .ok (.bipush 122, 2) := by decide +kernel
theorem dX2_kindAt_25 : decode cX2_kindAt 25 = .ok (.if_icmp .gt 5, 3) := by decide +kernel
theorem dX2_kindAt_28 : decode cX2_kindAt 28 = .ok (.iconst 1, 1) := by decide +kernel
theorem dX2_kindAt_29 : decode cX2_kindAt 29 = .ok (.ireturn, 1) := by decide +kernel
theorem dX2_kindAt_30 : decode cX2_kindAt 30 = .ok (.iload_n 2, 1) := by decide +kernel
theorem dX2_kindAt_31 : decode cX2_kindAt 31 = .ok (.bipush 48, 2) := by decide +kernel
theorem dX2_kindAt_33 : decode cX2_kindAt 33 = .ok (.if_icmp .lt 11, 3) := by decide +kernel
theorem dX2_kindAt_36 : decode cX2_kindAt 36 = .ok (.iload_n 2, 1) := by decide +kernel
theorem dX2_kindAt_37 : decode cX2_kindAt 37 = .ok (.bipush 57, 2) := by decide +kernel
theorem dX2_kindAt_39 : decode cX2_kindAt 39 = .ok (.if_icmp .gt 5, 3) := by decide +kernel
theorem dX2_kindAt_42 : decode cX2_kindAt 42 = .ok (.iconst 2, 1) := by decide +kernel
theorem dX2_kindAt_43 : decode cX2_kindAt 43 = .ok (.ireturn, 1) := by decide +kernel
theorem dX2_kindAt_44 : decode cX2_kindAt 44 = .ok (.iload_n 2, 1) := by decide +kernel
theorem dX2_kindAt_45 : decode cX2_kindAt 45 = .ok (.bipush 59, 2) := by decide +kernel
theorem dX2_kindAt_47 : decode cX2_kindAt 47 = .ok (.if_icmp .ne 7, 3) := by decide +kernel
theorem dX2_kindAt_50 : decode cX2_kindAt 50 = .ok (.iconst 3, 1) := by decide +kernel
theorem dX2_kindAt_51 : decode cX2_kindAt 51 = .ok (.goto 4, 3) := by decide +kernel
theorem dX2_kindAt_54 : decode cX2_kindAt 54 = .ok (.iconst 4, 1) := by decide +kernel
theorem dX2_kindAt_55 : decode cX2_kindAt 55 = .ok (.ireturn, 1) := by decide +kernel
theorem dX2_tokenSize_0 : decode cX2_tokenSize 0 = .ok (.aload_n 0, 1) := by decide +kernel
theorem dX2_tokenSize_1 : decode cX2_tokenSize 1 = .ok (.getfield 31, 3) := by decide +kernel
theorem dX2_tokenSize_4 : decode cX2_tokenSize 4 = .ok (.aload_n 0, 1) := by decide +kernel
theorem dX2_tokenSize_5 : decode cX2_tokenSize 5 = .ok (.getfield 41, 3) := by decide +kernel
theorem dX2_tokenSize_8 : decode cX2_tokenSize 8 = .ok (.isub, 1) := by decide +kernel
theorem dX2_tokenSize_9 : decode cX2_tokenSize 9 = .ok (.ireturn, 1) := by decide +kernel
theorem dX2_isWord_0 : decode cX2_isWord 0 = .ok (.aload_n 0, 1) := by decide +kernel
theorem dX2_isWord_1 : decode cX2_isWord 1 = .ok (.getfield 38, 3) := by decide +kernel
theorem dX2_isWord_4 : decode cX2_isWord 4 = .ok (.iconst 1, 1) := by decide +kernel
theorem dX2_isWord_5 : decode cX2_isWord 5 = .ok (.if_icmp .ne 14, 3) := by decide +kernel
theorem dX2_isWord_8 : decode cX2_isWord 8 = .ok (.aload_n 0, 1) := by decide +kernel
theorem dX2_isWord_9 : decode cX2_isWord 9 = .ok (.invokevirtual 71, 3) := by decide +kernel
theorem dX2_isWord_12 : decode cX2_isWord 12 = .ok (.aload_n 1, 1) := by decide +kernel
theorem dX2_isWord_13 : decode cX2_isWord 13 = .ok (.invokevirtual 116, 3) := by decide +kernel
theorem dX2_isWord_16 : decode cX2_isWord 16 = .ok (.if_icmp .eq 5, 3) := by decide +kernel
theorem dX2_isWord_19 : decode cX2_isWord 19 = .ok (.iconst 0, 1) := by decide +kernel
theorem dX2_isWord_20 : decode cX2_isWord 20 = .ok (.ireturn, 1) := by decide +kernel
theorem dX2_isWord_21 : decode cX2_isWord 21 = .ok (.iconst 0, 1) := by decide +kernel
theorem dX2_isWord_22 : decode cX2_isWord 22 = .ok (.istore_n 2, 1) := by decide +kernel
theorem dX2_isWord_23 : decode cX2_isWord 23 = .ok (.iload_n 2, 1) := by decide +kernel
theorem dX2_isWord_24 : decode cX2_isWord 24 = .ok (.aload_n 1, 1) := by decide +kernel
theorem dX2_isWord_25 : decode cX2_isWord 25 = .ok (.invokevirtual 116, 3) := by decide +kernel
theorem dX2_isWord_28 : decode cX2_isWord 28 = .ok (.if_icmp .ge 32, 3) := by decide +kernel
theorem dX2_isWord_31 : decode cX2_isWord 31 = .ok (.aload_n 0, 1) := by decide +kernel
theorem dX2_isWord_32 : decode cX2_isWord 32 = .ok (.getfield 20, 3) := by decide +kernel
theorem dX2_isWord_35 : decode cX2_isWord 35 = .ok (.aload_n 0, 1) := by decide +kernel
theorem dX2_isWord_36 : decode cX2_isWord 36 = .ok (.getfield 41, 3) := by decide +kernel
theorem dX2_isWord_39 : decode cX2_isWord 39 = .ok (.iload_n 2, 1) := by decide +kernel
theorem dX2_isWord_40 : decode cX2_isWord 40 = .ok (.iadd, 1) := by decide +kernel
theorem dX2_isWord_41 : decode cX2_isWord 41 = .ok (.invokevirtual 67, 3) := by decide +kernel
theorem dX2_isWord_44 : decode cX2_isWord 44 = .ok (.aload_n 1, 1) := by decide +kernel
theorem dX2_isWord_45 : decode cX2_isWord 45 = .ok (.iload_n 2, 1) := by decide +kernel
theorem dX2_isWord_46 : decode cX2_isWord 46 = .ok (.invokevirtual 121, 3) := by decide +kernel
theorem dX2_isWord_49 : decode cX2_isWord 49 = .ok (.if_icmp .eq 5, 3) := by decide +kernel
theorem dX2_isWord_52 : decode cX2_isWord 52 = .ok (.iconst 0, 1) := by decide +kernel
theorem dX2_isWord_53 : decode cX2_isWord 53 = .ok (.ireturn, 1) := by decide +kernel
theorem dX2_isWord_54 : decode cX2_isWord 54 = .ok (.iinc 2 1, 3) := by decide +kernel
theorem dX2_isWord_57 : decode cX2_isWord 57 = .ok (.goto (-34), 3) := by decide +kernel
theorem dX2_isWord_60 : decode cX2_isWord 60 = .ok (.iconst 1, 1) := by decide +kernel
theorem dX2_isWord_61 : decode cX2_isWord 61 = .ok (.ireturn, 1) := by decide +kernel
theorem dX2_marksHere_0 : decode cX2_marksHere 0 = .ok (.aload_n 0, 1) := by decide +kernel
theorem dX2_marksHere_1 : decode cX2_marksHere 1 = .ok (.getfield 38, 3) := by decide +kernel
theorem dX2_marksHere_4 : decode cX2_marksHere 4 = .ok (.iconst 2, 1) := by decide +kernel
theorem dX2_marksHere_5 : decode cX2_marksHere 5 = .ok (.if_icmp .ne 11, 3) := by decide +kernel
theorem dX2_marksHere_8 : decode cX2_marksHere 8 = .ok (.aload_n 0, 1) := by decide +kernel
theorem dX2_marksHere_9 : decode cX2_marksHere 9 = .ok (.invokevirtual 71, 3) := by decide +kernel
theorem dX2_marksHere_12 : decode cX2_marksHere 12 = .ok (.iconst 5, 1) := by decide +kernel
theorem dX2_marksHere_13 : decode cX2_marksHere 13 = .ok (.if_icmp .le 5, 3) := by decide +kernel
theorem dX2_marksHere_16 : decode cX2_marksHere 16 = .ok (.iconst (-1), 1) := by decide +kernel
theorem dX2_marksHere_17 : decode cX2_marksHere 17 = .ok (.ireturn, 1) := by decide +kernel
theorem dX2_marksHere_18 : decode cX2_marksHere 18 = .ok (.iconst 0, 1) := by decide +kernel
theorem dX2_marksHere_19 : decode cX2_marksHere 19 = .ok (.istore_n 1, 1) := by decide +kernel
theorem dX2_marksHere_20 : decode cX2_marksHere 20 = .ok (.aload_n 0, 1) := by decide +kernel
theorem dX2_marksHere_21 : decode cX2_marksHere 21 = .ok (.getfield 41, 3) := by decide +kernel
theorem dX2_marksHere_24 : decode cX2_marksHere 24 = .ok (.istore_n 2, 1) := by decide +kernel
theorem dX2_marksHere_25 : decode cX2_marksHere 25 = .ok (.iload_n 2, 1) := by decide +kernel
theorem dX2_marksHere_26 : decode cX2_marksHere 26 = .ok (.aload_n 0, 1) := by decide +kernel
theorem dX2_marksHere_27 : decode cX2_marksHere 27 = .ok (.getfield 31, 3) := by decide +kernel
theorem dX2_marksHere_30 : decode cX2_marksHere 30 = .ok (.if_icmp .ge 40, 3) := by decide +kernel
theorem dX2_marksHere_33 : decode cX2_marksHere 33 = .ok (.aload_n 0, 1) := by decide +kernel
theorem dX2_marksHere_34 : decode cX2_marksHere 34 = .ok (.getfield 20, 3) := by decide +kernel
theorem dX2_marksHere_37 : decode cX2_marksHere 37 = .ok (.iload_n 2, 1) := by decide +kernel
theorem dX2_marksHere_38 : decode cX2_marksHere 38 = .ok (.invokevirtual 67, 3) := by decide +kernel
theorem dX2_marksHere_41 : decode cX2_marksHere 41 = .ok (.bipush 48, 2) := by decide +kernel
theorem dX2_marksHere_43 : decode cX2_marksHere 43 = .ok (.isub, 1) := by decide +kernel
theorem dX2_marksHere_44 : decode cX2_marksHere 44 = .ok (.istore_n 3, 1) := by decide +kernel
theorem dX2_marksHere_45 : decode cX2_marksHere 45 = .ok (.iload_n 3, 1) := by decide +kernel
theorem dX2_marksHere_46 : decode cX2_marksHere 46 = .ok (.iconst 1, 1) := by decide +kernel
theorem dX2_marksHere_47 : decode cX2_marksHere 47 = .ok (.if_icmp .eq 10, 3) := by decide +kernel
theorem dX2_marksHere_50 : decode cX2_marksHere 50 = .ok (.iload_n 3, 1) := by decide +kernel
theorem dX2_marksHere_51 : decode cX2_marksHere 51 = .ok (.iconst 2, 1) := by decide +kernel
theorem dX2_marksHere_52 : decode cX2_marksHere 52 = .ok (.if_icmp .eq 5, 3) := by decide +kernel
theorem dX2_marksHere_55 : decode cX2_marksHere 55 = .ok (.iconst (-1), 1) := by decide +kernel
theorem dX2_marksHere_56 : decode cX2_marksHere 56 = .ok (.ireturn, 1) := by decide +kernel
theorem dX2_marksHere_57 : decode cX2_marksHere 57 = .ok (.iload_n 1, 1) := by decide +kernel
theorem dX2_marksHere_58 : decode cX2_marksHere 58 = .ok (.bipush 10, 2) := by decide +kernel
theorem dX2_marksHere_60 : decode cX2_marksHere 60 = .ok (.imul, 1) := by decide +kernel
theorem dX2_marksHere_61 : decode cX2_marksHere 61 = .ok (.iload_n 3, 1) := by decide +kernel
theorem dX2_marksHere_62 : decode cX2_marksHere 62 = .ok (.iadd, 1) := by decide +kernel
theorem dX2_marksHere_63 : decode cX2_marksHere 63 = .ok (.istore_n 1, 1) := by decide +kernel
theorem dX2_marksHere_64 : decode cX2_marksHere 64 = .ok (.iinc 2 1, 3) := by decide +kernel
theorem dX2_marksHere_67 : decode cX2_marksHere 67 = .ok (.goto (-42), 3) := by decide +kernel
theorem dX2_marksHere_70 : decode cX2_marksHere 70 = .ok (.iload_n 1, 1) := by decide +kernel
theorem dX2_marksHere_71 : decode cX2_marksHere 71 = .ok (.ireturn, 1) := by decide +kernel
theorem dX2_groupHere_0 : decode cX2_groupHere 0 = .ok (.aload_n 0, 1) := by decide +kernel
theorem dX2_groupHere_1 : decode cX2_groupHere 1 = .ok (.getfield 38, 3) := by decide +kernel
theorem dX2_groupHere_4 : decode cX2_groupHere 4 = .ok (.iconst 1, 1) := by decide +kernel
theorem dX2_groupHere_5 : decode cX2_groupHere 5 = .ok (.if_icmp .ne 11, 3) := by decide +kernel
theorem dX2_groupHere_8 : decode cX2_groupHere 8 = .ok (.aload_n 0, 1) := by decide +kernel
theorem dX2_groupHere_9 : decode cX2_groupHere 9 = .ok (.invokevirtual 71, 3) := by decide +kernel
theorem dX2_groupHere_12 : decode cX2_groupHere 12 = .ok (.iconst 3, 1) := by decide +kernel
theorem dX2_groupHere_13 : decode cX2_groupHere 13 = .ok (.if_icmp .eq 5, 3) := by decide +kernel
theorem dX2_groupHere_16 : decode cX2_groupHere 16 = .ok (.iconst (-1), 1) := by decide +kernel
theorem dX2_groupHere_17 : decode cX2_groupHere 17 = .ok (.ireturn, 1) := by decide +kernel
theorem dX2_groupHere_18 : decode cX2_groupHere 18 = .ok (.iconst 0, 1) := by decide +kernel
theorem dX2_groupHere_19 : decode cX2_groupHere 19 = .ok (.istore_n 1, 1) := by decide +kernel
theorem dX2_groupHere_20 : decode cX2_groupHere 20 = .ok (.aload_n 0, 1) := by decide +kernel
theorem dX2_groupHere_21 : decode cX2_groupHere 21 = .ok (.getfield 41, 3) := by decide +kernel
theorem dX2_groupHere_24 : decode cX2_groupHere 24 = .ok (.istore_n 2, 1) := by decide +kernel
theorem dX2_groupHere_25 : decode cX2_groupHere 25 = .ok (.iload_n 2, 1) := by decide +kernel
theorem dX2_groupHere_26 : decode cX2_groupHere 26 = .ok (.aload_n 0, 1) := by decide +kernel
theorem dX2_groupHere_27 : decode cX2_groupHere 27 = .ok (.getfield 31, 3) := by decide +kernel
theorem dX2_groupHere_30 : decode cX2_groupHere 30 = .ok (.if_icmp .ge 41, 3) := by decide +kernel
theorem dX2_groupHere_33 : decode cX2_groupHere 33 = .ok (.aload_n 0, 1) := by decide +kernel
theorem dX2_groupHere_34 : decode cX2_groupHere 34 = .ok (.getfield 20, 3) := by decide +kernel
theorem dX2_groupHere_37 : decode cX2_groupHere 37 = .ok (.iload_n 2, 1) := by decide +kernel
theorem dX2_groupHere_38 : decode cX2_groupHere 38 = .ok (.invokevirtual 67, 3) := by decide +kernel
theorem dX2_groupHere_41 : decode cX2_groupHere 41 = .ok (.bipush 97, 2) := by decide +kernel
theorem dX2_groupHere_43 : decode cX2_groupHere 43 = .ok (.isub, 1) := by decide +kernel
theorem dX2_groupHere_44 : decode cX2_groupHere 44 = .ok (.istore_n 3, 1) := by decide +kernel
theorem dX2_groupHere_45 : decode cX2_groupHere 45 = .ok (.aload_n 0, 1) := by decide +kernel
theorem dX2_groupHere_46 : decode cX2_groupHere 46 = .ok (.getfield 24, 3) := by decide +kernel
theorem dX2_groupHere_49 : decode cX2_groupHere 49 = .ok (.iload_n 3, 1) := by decide +kernel
theorem dX2_groupHere_50 : decode cX2_groupHere 50 = .ok (.invokevirtual 75, 3) := by decide +kernel
theorem dX2_groupHere_53 : decode cX2_groupHere 53 = .ok (.ifCond .ne 5, 3) := by decide +kernel
theorem dX2_groupHere_56 : decode cX2_groupHere 56 = .ok (.iconst (-1), 1) := by decide +kernel
theorem dX2_groupHere_57 : decode cX2_groupHere 57 = .ok (.ireturn, 1) := by decide +kernel
theorem dX2_groupHere_58 : decode cX2_groupHere 58 = .ok (.iload_n 1, 1) := by decide +kernel
theorem dX2_groupHere_59 : decode cX2_groupHere 59 = .ok (.bipush 26, 2) := by decide +kernel
theorem dX2_groupHere_61 : decode cX2_groupHere 61 = .ok (.imul, 1) := by decide +kernel
theorem dX2_groupHere_62 : decode cX2_groupHere 62 = .ok (.iload_n 3, 1) := by decide +kernel
theorem dX2_groupHere_63 : decode cX2_groupHere 63 = .ok (.iadd, 1) := by decide +kernel
theorem dX2_groupHere_64 : decode cX2_groupHere 64 = .ok (.istore_n 1, 1) := by decide +kernel
theorem dX2_groupHere_65 : decode cX2_groupHere 65 = .ok (.iinc 2 1, 3) := by decide +kernel
theorem dX2_groupHere_68 : decode cX2_groupHere 68 = .ok (.goto (-43), 3) := by decide +kernel
theorem dX2_groupHere_71 : decode cX2_groupHere 71 = .ok (.iload_n 1, 1) := by decide +kernel
theorem dX2_groupHere_72 : decode cX2_groupHere 72 = .ok (.ireturn, 1) := by decide +kernel
theorem dX2_isNewName_0 : decode cX2_isNewName 0 = .ok (.aload_n 0, 1) := by decide +kernel
theorem dX2_isNewName_1 : decode cX2_isNewName 1 = .ok (.getfield 38, 3) := by decide +kernel
theorem dX2_isNewName_4 : decode cX2_isNewName 4 = .ok (.iconst 1, 1) := by decide +kernel
theorem dX2_isNewName_5 : decode cX2_isNewName 5 = .ok (.if_icmp .ne 39, 3) := by decide +kernel
theorem dX2_isNewName_8 : decode cX2_isNewName 8 = .ok (.aload_n 0, 1) := by decide +kernel
theorem dX2_isNewName_9 : decode cX2_isNewName 9 = .ok (.invokevirtual 71, 3) := by decide +kernel
theorem dX2_isNewName_12 : decode cX2_isNewName 12 = .ok (.bipush 8, 2) := by decide +kernel
theorem dX2_isNewName_14 : decode cX2_isNewName 14 = .ok (.if_icmp .gt 30, 3) := by decide +kernel
theorem dX2_isNewName_17 : decode cX2_isNewName 17 = .ok (.aload_n 0, 1) := by decide +kernel
theorem dX2_isNewName_18 : decode cX2_isNewName 18 = .ok (.ldc 50, 2) := by decide +kernel
theorem dX2_isNewName_20 : decode cX2_isNewName 20 = .ok (.invokevirtual 52, 3) := by decide +kernel
theorem dX2_isNewName_23 : decode cX2_isNewName 23 = .ok (.ifCond .ne 21, 3) := by decide +kernel
theorem dX2_isNewName_26 : decode cX2_isNewName 26 = .ok (.aload_n 0, 1) := by decide +kernel
theorem dX2_isNewName_27 : decode cX2_isNewName 27 = .ok (.ldc 59, 2) := by decide +kernel
theorem dX2_isNewName_29 : decode cX2_isNewName 29 = .ok (.invokevirtual 52, 3) := by decide +kernel
theorem dX2_isNewName_32 : decode cX2_isNewName 32 = .ok (.ifCond .ne 12, 3) := by decide +kernel
theorem dX2_isNewName_35 : decode cX2_isNewName 35 = .ok (.aload_n 0, 1) := by decide +kernel
theorem dX2_isNewName_36 : decode cX2_isNewName 36 = .ok (.ldc 99, 2) := by decide +kernel
theorem dX2_isNewName_38 : decode cX2_isNewName 38 = .ok (.invokevirtual 52, 3) := by decide +kernel
theorem dX2_isNewName_41 : decode cX2_isNewName 41 = .ok (.ifCond .eq 5, 3) := by decide +kernel
theorem dX2_isNewName_44 : decode cX2_isNewName 44 = .ok (.iconst 0, 1) := by decide +kernel
theorem dX2_isNewName_45 : decode cX2_isNewName 45 = .ok (.ireturn, 1) := by decide +kernel
theorem dX2_isNewName_46 : decode cX2_isNewName 46 = .ok (.iconst 0, 1) := by decide +kernel
theorem dX2_isNewName_47 : decode cX2_isNewName 47 = .ok (.istore_n 2, 1) := by decide +kernel
theorem dX2_isNewName_48 : decode cX2_isNewName 48 = .ok (.iload_n 2, 1) := by decide +kernel
theorem dX2_isNewName_49 : decode cX2_isNewName 49 = .ok (.iload_n 1, 1) := by decide +kernel
theorem dX2_isNewName_50 : decode cX2_isNewName 50 = .ok (.if_icmp .ge 25, 3) := by decide +kernel
theorem dX2_isNewName_53 : decode cX2_isNewName 53 = .ok (.iload_n 2, 1) := by decide +kernel
theorem dX2_isNewName_54 : decode cX2_isNewName 54 = .ok (.bipush 20, 2) := by decide +kernel
theorem dX2_isNewName_56 : decode cX2_isNewName 56 = .ok (.if_icmp .ge 19, 3) := by decide +kernel
theorem dX2_isNewName_59 : decode cX2_isNewName 59 = .ok (.aload_n 0, 1) := by decide +kernel
theorem dX2_isNewName_60 : decode cX2_isNewName 60 = .ok (.iload_n 2, 1) := by decide +kernel
theorem dX2_isNewName_61 : decode cX2_isNewName 61 = .ok (.invokevirtual 125, 3) := by decide +kernel
theorem dX2_isNewName_64 : decode cX2_isNewName 64 = .ok (.ifCond .eq 5, 3) := by decide +kernel
theorem dX2_isNewName_67 : decode cX2_isNewName 67 = .ok (.iconst 0, 1) := by decide +kernel
theorem dX2_isNewName_68 : decode cX2_isNewName 68 = .ok (.ireturn, 1) := by decide +kernel
theorem dX2_isNewName_69 : decode cX2_isNewName 69 = .ok (.iinc 2 1, 3) := by decide +kernel
theorem dX2_isNewName_72 : decode cX2_isNewName 72 = .ok (.goto (-24), 3) := by decide +kernel
theorem dX2_isNewName_75 : decode cX2_isNewName 75 = .ok (.iconst 1, 1) := by decide +kernel
theorem dX2_isNewName_76 : decode cX2_isNewName 76 = .ok (.ireturn, 1) := by decide +kernel
theorem dX2_isName_0 : decode cX2_isName 0 = .ok (.iload_n 1, 1) := by decide +kernel
theorem dX2_isName_1 : decode cX2_isName 1 = .ok (.ifCond .lt 22, 3) := by decide +kernel
theorem dX2_isName_4 : decode cX2_isName 4 = .ok (.iload_n 1, 1) := by decide +kernel
theorem dX2_isName_5 : decode cX2_isName 5 = .ok (.bipush 20, 2) := by decide +kernel
theorem dX2_isName_7 : decode cX2_isName 7 = .ok (.if_icmp .ge 16, 3) := by decide +kernel
theorem dX2_isName_10 : decode cX2_isName 10 = .ok (.aload_n 0, 1) := by decide +kernel
theorem dX2_isName_11 : decode cX2_isName 11 = .ok (.getfield 17, 3) := by decide +kernel
theorem dX2_isName_14 : decode cX2_isName 14 = .ok (.iload_n 1, 1) := by decide +kernel
theorem dX2_isName_15 : decode cX2_isName 15 = .ok (.iaload, 1) := by decide +kernel
theorem dX2_isName_16 : decode cX2_isName 16 = .ok (.aload_n 0, 1) := by decide +kernel
theorem dX2_isName_17 : decode cX2_isName 17 = .ok (.invokevirtual 71, 3) := by decide +kernel
theorem dX2_isName_20 : decode cX2_isName 20 = .ok (.if_icmp .eq 5, 3) := by decide +kernel
theorem dX2_isName_23 : decode cX2_isName 23 = .ok (.iconst 0, 1) := by decide +kernel
theorem dX2_isName_24 : decode cX2_isName 24 = .ok (.ireturn, 1) := by decide +kernel
theorem dX2_isName_25 : decode cX2_isName 25 = .ok (.iconst 0, 1) := by decide +kernel
theorem dX2_isName_26 : decode cX2_isName 26 = .ok (.istore_n 2, 1) := by decide +kernel
theorem dX2_isName_27 : decode cX2_isName 27 = .ok (.iload_n 2, 1) := by decide +kernel
theorem dX2_isName_28 : decode cX2_isName 28 = .ok (.aload_n 0, 1) := by decide +kernel
theorem dX2_isName_29 : decode cX2_isName 29 = .ok (.invokevirtual 71, 3) := by decide +kernel
theorem dX2_isName_32 : decode cX2_isName 32 = .ok (.if_icmp .ge 42, 3) := by decide +kernel
theorem dX2_isName_35 : decode cX2_isName 35 = .ok (.aload_n 0, 1) := by decide +kernel
theorem dX2_isName_36 : decode cX2_isName 36 = .ok (.getfield 20, 3) := by decide +kernel
theorem dX2_isName_39 : decode cX2_isName 39 = .ok (.aload_n 0, 1) := by decide +kernel
theorem dX2_isName_40 : decode cX2_isName 40 = .ok (.getfield 11, 3) := by decide +kernel
theorem dX2_isName_43 : decode cX2_isName 43 = .ok (.iload_n 1, 1) := by decide +kernel
theorem dX2_isName_44 : decode cX2_isName 44 = .ok (.iaload, 1) := by decide +kernel
theorem dX2_isName_45 : decode cX2_isName 45 = .ok (.iload_n 2, 1) := by decide +kernel
theorem dX2_isName_46 : decode cX2_isName 46 = .ok (.iadd, 1) := by decide +kernel
theorem dX2_isName_47 : decode cX2_isName 47 = .ok (.invokevirtual 67, 3) := by decide +kernel
theorem dX2_isName_50 : decode cX2_isName 50 = .ok (.aload_n 0, 1) := by decide +kernel
theorem dX2_isName_51 : decode cX2_isName 51 = .ok (.getfield 20, 3) := by decide +kernel
theorem dX2_isName_54 : decode cX2_isName 54 = .ok (.aload_n 0, 1) := by decide +kernel
theorem dX2_isName_55 : decode cX2_isName 55 = .ok (.getfield 41, 3) := by decide +kernel
theorem dX2_isName_58 : decode cX2_isName 58 = .ok (.iload_n 2, 1) := by decide +kernel
theorem dX2_isName_59 : decode cX2_isName 59 = .ok (.iadd, 1) := by decide +kernel
theorem dX2_isName_60 : decode cX2_isName 60 = .ok (.invokevirtual 67, 3) := by decide +kernel
theorem dX2_isName_63 : decode cX2_isName 63 = .ok (.if_icmp .eq 5, 3) := by decide +kernel
theorem dX2_isName_66 : decode cX2_isName 66 = .ok (.iconst 0, 1) := by decide +kernel
theorem dX2_isName_67 : decode cX2_isName 67 = .ok (.ireturn, 1) := by decide +kernel
theorem dX2_isName_68 : decode cX2_isName 68 = .ok (.iinc 2 1, 3) := by decide +kernel
theorem dX2_isName_71 : decode cX2_isName 71 = .ok (.goto (-44), 3) := by decide +kernel
theorem dX2_isName_74 : decode cX2_isName 74 = .ok (.iconst 1, 1) := by decide +kernel
theorem dX2_isName_75 : decode cX2_isName 75 = .ok (.ireturn, 1) := by decide +kernel
theorem dX2_noteName_0 : decode cX2_noteName 0 = .ok (.iload_n 1, 1) := by decide +kernel
theorem dX2_noteName_1 : decode cX2_noteName 1 = .ok (.ifCond .lt 29, 3) := by decide +kernel
theorem dX2_noteName_4 : decode cX2_noteName 4 = .ok (.iload_n 1, 1) := by decide +kernel
theorem dX2_noteName_5 : decode cX2_noteName 5 = .ok (.bipush 20, 2) := by decide +kernel
theorem dX2_noteName_7 : decode cX2_noteName 7 = .ok (.if_icmp .ge 23, 3) := by decide +kernel
theorem dX2_noteName_10 : decode cX2_noteName 10 = .ok (.aload_n 0, 1) := by decide +kernel
theorem dX2_noteName_11 : decode cX2_noteName 11 = .ok (.getfield 11, 3) := by decide +kernel
theorem dX2_noteName_14 : decode cX2_noteName 14 = .ok (.iload_n 1, 1) := by decide +kernel
theorem dX2_noteName_15 : decode cX2_noteName 15 = .ok (.aload_n 0, 1) := by decide +kernel
theorem dX2_noteName_16 : decode cX2_noteName 16 = .ok (.getfield 41, 3) := by decide +kernel
theorem dX2_noteName_19 : decode cX2_noteName 19 = .ok (.iastore, 1) := by decide +kernel
theorem dX2_noteName_20 : decode cX2_noteName 20 = .ok (.aload_n 0, 1) := by decide +kernel
theorem dX2_noteName_21 : decode cX2_noteName 21 = .ok (.getfield 17, 3) := by decide +kernel
theorem dX2_noteName_24 : decode cX2_noteName 24 = .ok (.iload_n 1, 1) := by decide +kernel
theorem dX2_noteName_25 : decode cX2_noteName 25 = .ok (.aload_n 0, 1) := by decide +kernel
theorem dX2_noteName_26 : decode cX2_noteName 26 = .ok (.invokevirtual 71, 3) := by decide +kernel
theorem dX2_noteName_29 : decode cX2_noteName 29 = .ok (.iastore, 1) := by decide +kernel
theorem dX2_noteName_30 : decode cX2_noteName 30 = .ok (.return_, 1) := by decide +kernel
theorem dX3_init_0 : decode cX3_init 0 = .ok (.aload_n 0, 1) := by decide +kernel
theorem dX3_init_1 : decode cX3_init 1 = .ok (.invokespecial 3, 3) := by decide +kernel
theorem dX3_init_4 : decode cX3_init 4 = .ok (.aload_n 0, 1) := by decide +kernel
theorem dX3_init_5 : decode cX3_init 5 = .ok (.bipush 40, 2) := by decide +kernel
theorem dX3_init_7 : decode cX3_init 7 = .ok (.newarray .int, 2) := by decide +kernel
theorem dX3_init_9 : decode cX3_init 9 = .ok (.putfield 11, 3) := by decide +kernel
theorem dX3_init_12 : decode cX3_init 12 = .ok (.return_, 1) := by decide +kernel
theorem dX3_size_0 : decode cX3_size 0 = .ok (.aload_n 0, 1) := by decide +kernel
theorem dX3_size_1 : decode cX3_size 1 = .ok (.getfield 15, 3) := by decide +kernel
theorem dX3_size_4 : decode cX3_size 4 = .ok (.ireturn, 1) := by decide +kernel
theorem dX3_has_0 : decode cX3_has 0 = .ok (.iload_n 1, 1) := by decide +kernel
theorem dX3_has_1 : decode cX3_has 1 = .ok (.ifCond .lt 15, 3) := by decide +kernel
theorem dX3_has_4 : decode cX3_has 4 = .ok (.iload_n 1, 1) := by decide +kernel
theorem dX3_has_5 : decode cX3_has 5 = .ok (.aload_n 0, 1) := by decide +kernel
theorem dX3_has_6 : decode cX3_has 6 = .ok (.getfield 15, 3) := by decide +kernel
theorem dX3_has_9 : decode cX3_has 9 = .ok (.if_icmp .ge 7, 3) := by decide +kernel
theorem dX3_has_12 : decode cX3_has 12 = .ok (.iconst 1, 1) := by decide +kernel
theorem dX3_has_13 : decode cX3_has 13 = .ok (.goto 4, 3) := by decide +kernel
theorem dX3_has_16 : decode cX3_has 16 = .ok (.iconst 0, 1) := by decide +kernel
theorem dX3_has_17 : decode cX3_has 17 = .ok (.ireturn, 1) := by decide +kernel
theorem dX3_isSpan_0 : decode cX3_isSpan 0 = .ok (.iload_n 0, 1) := by decide +kernel
theorem dX3_isSpan_1 : decode cX3_isSpan 1 = .ok (.sipush 1000, 3) := by decide +kernel
theorem dX3_isSpan_4 : decode cX3_isSpan 4 = .ok (.idiv, 1) := by decide +kernel
theorem dX3_isSpan_5 : decode cX3_isSpan 5 = .ok (.istore_n 1, 1) := by decide +kernel
theorem dX3_isSpan_6 : decode cX3_isSpan 6 = .ok (.iload_n 0, 1) := by decide +kernel
theorem dX3_isSpan_7 : decode cX3_isSpan 7 = .ok (.sipush 1000, 3) := by decide +kernel
theorem dX3_isSpan_10 : decode cX3_isSpan 10 = .ok (.irem, 1) := by decide +kernel
theorem dX3_isSpan_11 : decode cX3_isSpan 11 = .ok (.istore_n 2, 1) := by decide +kernel
theorem dX3_isSpan_12 : decode cX3_isSpan 12 = .ok (.iload_n 1, 1) := by decide +kernel
theorem dX3_isSpan_13 : decode cX3_isSpan 13 = .ok (.iconst 1, 1) := by decide +kernel
theorem dX3_isSpan_14 : decode cX3_isSpan 14 = .ok (.if_icmp .lt 19, 3) := by decide +kernel
theorem dX3_isSpan_17 : decode cX3_isSpan 17 = .ok (.iload_n 1, 1) := by decide +kernel
theorem dX3_isSpan_18 : decode cX3_isSpan 18 = .ok (.iload_n 2, 1) := by decide +kernel
theorem dX3_isSpan_19 : decode cX3_isSpan 19 = .ok (.if_icmp .gt 14, 3) := by decide +kernel
theorem dX3_isSpan_22 : decode cX3_isSpan 22 = .ok (.iload_n 2, 1) := by decide +kernel
theorem dX3_isSpan_23 : decode cX3_isSpan 23 = .ok (.sipush 255, 3) := by decide +kernel
theorem dX3_isSpan_26 : decode cX3_isSpan 26 = .ok (.if_icmp .gt 7, 3) := by decide +kernel
theorem dX3_isSpan_29 : decode cX3_isSpan 29 = .ok (.iconst 1, 1) := by decide +kernel
theorem dX3_isSpan_30 : decode cX3_isSpan 30 = .ok (.goto 4, 3) := by decide +kernel
theorem dX3_isSpan_33 : decode cX3_isSpan 33 = .ok (.iconst 0, 1) := by decide +kernel
theorem dX3_isSpan_34 : decode cX3_isSpan 34 = .ok (.ireturn, 1) := by decide +kernel
theorem dX3_add_0 : decode cX3_add 0 = .ok (.aload_n 0, 1) := by decide +kernel
theorem dX3_add_1 : decode cX3_add 1 = .ok (.getfield 15, 3) := by decide +kernel
theorem dX3_add_4 : decode cX3_add 4 = .ok (.bipush 8, 2) := by decide +kernel
theorem dX3_add_6 : decode cX3_add 6 = .ok (.if_icmp .lt 5, 3) := by decide +kernel
theorem dX3_add_9 : decode cX3_add 9 = .ok (.iconst (-1), 1) := by decide +kernel
theorem dX3_add_10 : decode cX3_add 10 = .ok (.ireturn, 1) := by decide +kernel
theorem dX3_add_11 : decode cX3_add 11 = .ok (.aload_n 0, 1) := by decide +kernel
theorem dX3_add_12 : decode cX3_add 12 = .ok (.getfield 15, 3) := by decide +kernel
theorem dX3_add_15 : decode cX3_add 15 = .ok (.iconst 5, 1) := by decide +kernel
theorem dX3_add_16 : decode cX3_add 16 = .ok (.imul, 1) := by decide +kernel
theorem dX3_add_17 : decode cX3_add 17 = .ok (.istore 6, 2) := by decide +kernel
theorem dX3_add_19 : decode cX3_add 19 = .ok (.aload_n 0, 1) := by decide +kernel
theorem dX3_add_20 : decode cX3_add 20 = .ok (.getfield 11, 3) := by decide +kernel
theorem dX3_add_23 : decode cX3_add 23 = .ok (.iload 6, 2) := by decide +kernel
theorem dX3_add_25 : decode cX3_add 25 = .ok (.iload_n 1, 1) := by decide +kernel
theorem dX3_add_26 : decode cX3_add 26 = .ok (.iastore, 1) := by decide +kernel
theorem dX3_add_27 : decode cX3_add 27 = .ok (.aload_n 0, 1) := by decide +kernel
theorem dX3_add_28 : decode cX3_add 28 = .ok (.getfield 11, 3) := by decide +kernel
theorem dX3_add_31 : decode cX3_add 31 = .ok (.iload 6, 2) := by decide +kernel
theorem dX3_add_33 : decode cX3_add 33 = .ok (.iconst 1, 1) := by decide +kernel
theorem dX3_add_34 : decode cX3_add 34 = .ok (.iadd, 1) := by decide +kernel
theorem dX3_add_35 : decode cX3_add 35 = .ok (.iload_n 2, 1) := by decide +kernel
theorem dX3_add_36 : decode cX3_add 36 = .ok (.iastore, 1) := by decide +kernel
theorem dX3_add_37 : decode cX3_add 37 = .ok (.aload_n 0, 1) := by decide +kernel
theorem dX3_add_38 : decode cX3_add 38 = .ok (.getfield 11, 3) := by decide +kernel
theorem dX3_add_41 : decode cX3_add 41 = .ok (.iload 6, 2) := by decide +kernel
theorem dX3_add_43 : decode cX3_add 43 = .ok (.iconst 2, 1) := by decide +kernel
theorem dX3_add_44 : decode cX3_add 44 = .ok (.iadd, 1) := by decide +kernel
theorem dX3_add_45 : decode cX3_add 45 = .ok (.iload_n 3, 1) := by decide +kernel
theorem dX3_add_46 : decode cX3_add 46 = .ok (.iastore, 1) := by decide +kernel
theorem dX3_add_47 : decode cX3_add 47 = .ok (.aload_n 0, 1) := by decide +kernel
theorem dX3_add_48 : decode cX3_add 48 = .ok (.getfield 11, 3) := by decide +kernel
theorem dX3_add_51 : decode cX3_add 51 = .ok (.iload 6, 2) := by decide +kernel
theorem dX3_add_53 : decode cX3_add 53 = .ok (.iconst 3, 1) := by decide +kernel
theorem dX3_add_54 : decode cX3_add 54 = .ok (.iadd, 1) := by decide +kernel
theorem dX3_add_55 : decode cX3_add 55 = .ok (.iload 4, 2) := by decide +kernel
theorem dX3_add_57 : decode cX3_add 57 = .ok (.iastore, 1) := by decide +kernel
theorem dX3_add_58 : decode cX3_add 58 = .ok (.aload_n 0, 1) := by decide +kernel
theorem dX3_add_59 : decode cX3_add 59 = .ok (.getfield 11, 3) := by decide +kernel
theorem dX3_add_62 : decode cX3_add 62 = .ok (.iload 6, 2) := by decide +kernel
theorem dX3_add_64 : decode cX3_add 64 = .ok (.iconst 4, 1) := by decide +kernel
theorem dX3_add_65 : decode cX3_add 65 = .ok (.iadd, 1) := by decide +kernel
theorem dX3_add_66 : decode cX3_add 66 = .ok (.iload 5, 2) := by decide +kernel
theorem dX3_add_68 : decode cX3_add 68 = .ok (.iastore, 1) := by decide +kernel
theorem dX3_add_69 : decode cX3_add 69 = .ok (.aload_n 0, 1) := by decide +kernel
theorem dX3_add_70 : decode cX3_add 70 = .ok (.dup, 1) := by decide +kernel
theorem dX3_add_71 : decode cX3_add 71 = .ok (.getfield 15, 3) := by decide +kernel
theorem dX3_add_74 : decode cX3_add 74 = .ok (.iconst 1, 1) := by decide +kernel
theorem dX3_add_75 : decode cX3_add 75 = .ok (.iadd, 1) := by decide +kernel
theorem dX3_add_76 : decode cX3_add 76 = .ok (.putfield 15, 3) := by decide +kernel
theorem dX3_add_79 : decode cX3_add 79 = .ok (.aload_n 0, 1) := by decide +kernel
theorem dX3_add_80 : decode cX3_add 80 = .ok (.getfield 15, 3) := by decide +kernel
theorem dX3_add_83 : decode cX3_add 83 = .ok (.iconst 1, 1) := by decide +kernel
theorem dX3_add_84 : decode cX3_add 84 = .ok (.isub, 1) := by decide +kernel
theorem dX3_add_85 : decode cX3_add 85 = .ok (.ireturn, 1) := by decide +kernel
theorem dX3_leastOf_0 : decode cX3_leastOf 0 = .ok (.aload_n 0, 1) := by decide +kernel
theorem dX3_leastOf_1 : decode cX3_leastOf 1 = .ok (.iload_n 1, 1) := by decide +kernel
theorem dX3_leastOf_2 : decode cX3_leastOf 2 = .ok (.iload_n 2, 1) := by decide +kernel
theorem dX3_leastOf_3 : decode cX3_leastOf 3 = .ok (.invokevirtual 19, 3) := by decide +kernel
theorem dX3_leastOf_6 : decode cX3_leastOf 6 = .ok (.sipush 1000, 3) := by decide +kernel
theorem dX3_leastOf_9 : decode cX3_leastOf 9 = .ok (.idiv, 1) := by decide +kernel
theorem dX3_leastOf_10 : decode cX3_leastOf 10 = .ok (.ireturn, 1) := by decide +kernel
theorem dX3_greatestOf_0 : decode cX3_greatestOf 0 = .ok (.aload_n 0, 1) := by decide +kernel
theorem dX3_greatestOf_1 : decode cX3_greatestOf 1 = .ok (.iload_n 1, 1) := by decide +kernel
theorem dX3_greatestOf_2 : decode cX3_greatestOf 2 = .ok (.iload_n 2, 1) := by decide +kernel
theorem dX3_greatestOf_3 : decode cX3_greatestOf 3 = .ok (.invokevirtual 19, 3) := by decide +kernel
theorem dX3_greatestOf_6 : decode cX3_greatestOf 6 = .ok (.sipush 1000, 3) := by decide +kernel
theorem dX3_greatestOf_9 : decode cX3_greatestOf 9 = .ok (.irem, 1) := by decide +kernel
theorem dX3_greatestOf_10 : decode cX3_greatestOf 10 = .ok (.ireturn, 1) := by decide +kernel
theorem dX3_choicesOf_0 : decode cX3_choicesOf 0 = .ok (.aload_n 0, 1) := by decide +kernel
theorem dX3_choicesOf_1 : decode cX3_choicesOf 1 = .ok (.iload_n 1, 1) := by decide +kernel
theorem dX3_choicesOf_2 : decode cX3_choicesOf 2 = .ok (.iload_n 2, 1) := by decide +kernel
theorem dX3_choicesOf_3 : decode cX3_choicesOf 3 = .ok (.invokevirtual 23, 3) := by decide +kernel
theorem dX3_choicesOf_6 : decode cX3_choicesOf 6 = .ok (.aload_n 0, 1) := by decide +kernel
theorem dX3_choicesOf_7 : decode cX3_choicesOf 7 = .ok (.iload_n 1, 1) := by decide +kernel
theorem dX3_choicesOf_8 : decode cX3_choicesOf 8 = .ok (.iload_n 2, 1) := by decide +kernel
theorem dX3_choicesOf_9 : decode cX3_choicesOf 9 = .ok (.invokevirtual 26, 3) := by decide +kernel
theorem dX3_choicesOf_12 : decode cX3_choicesOf 12 = .ok (.isub, 1) := by decide +kernel
theorem dX3_choicesOf_13 : decode cX3_choicesOf 13 = .ok (.iconst 1, 1) := by decide +kernel
theorem dX3_choicesOf_14 : decode cX3_choicesOf 14 = .ok (.iadd, 1) := by decide +kernel
theorem dX3_choicesOf_15 : decode cX3_choicesOf 15 = .ok (.ireturn, 1) := by decide +kernel
theorem dX3_spanOf_0 : decode cX3_spanOf 0 = .ok (.aload_n 0, 1) := by decide +kernel
theorem dX3_spanOf_1 : decode cX3_spanOf 1 = .ok (.iload_n 1, 1) := by decide +kernel
theorem dX3_spanOf_2 : decode cX3_spanOf 2 = .ok (.invokevirtual 29, 3) := by decide +kernel
theorem dX3_spanOf_5 : decode cX3_spanOf 5 = .ok (.ifCond .eq 25, 3) := by decide +kernel
theorem dX3_spanOf_8 : decode cX3_spanOf 8 = .ok (.iload_n 2, 1) := by decide +kernel
theorem dX3_spanOf_9 : decode cX3_spanOf 9 = .ok (.ifCond .lt 21, 3) := by decide +kernel
theorem dX3_spanOf_12 : decode cX3_spanOf 12 = .ok (.iload_n 2, 1) := by decide +kernel
theorem dX3_spanOf_13 : decode cX3_spanOf 13 = .ok (.iconst 5, 1) := by decide +kernel
theorem dX3_spanOf_14 : decode cX3_spanOf 14 = .ok (.if_icmp .ge 16, 3) := by decide +kernel
theorem dX3_spanOf_17 : decode cX3_spanOf 17 = .ok (.aload_n 0, 1) := by decide +kernel
theorem dX3_spanOf_18 : decode cX3_spanOf 18 = .ok (.getfield 11, 3) := by decide +kernel
theorem dX3_spanOf_21 : decode cX3_spanOf 21 = .ok (.iload_n 1, 1) := by decide +kernel
theorem dX3_spanOf_22 : decode cX3_spanOf 22 = .ok (.iconst 5, 1) := by decide +kernel
theorem dX3_spanOf_23 : decode cX3_spanOf 23 = .ok (.imul, 1) := by decide +kernel
theorem dX3_spanOf_24 : decode cX3_spanOf 24 = .ok (.iload_n 2, 1) := by decide +kernel
theorem dX3_spanOf_25 : decode cX3_spanOf 25 = .ok (.iadd, 1) := by decide +kernel
theorem dX3_spanOf_26 : decode cX3_spanOf 26 = .ok (.iaload, 1) := by decide +kernel
theorem dX3_spanOf_27 : decode cX3_spanOf 27 = .ok (.goto 4, 3) := by decide +kernel
theorem dX3_spanOf_30 : decode cX3_spanOf 30 = .ok (.iconst 0, 1) := by decide +kernel
theorem dX3_spanOf_31 : decode cX3_spanOf 31 = .ok (.ireturn, 1) := by decide +kernel
theorem dX4_init_0 : decode cX4_init 0 = .ok (.aload_n 0, 1) := by decide +kernel
theorem dX4_init_1 : decode cX4_init 1 = .ok (.invokespecial 3, 3) := by decide +kernel
theorem dX4_init_4 : decode cX4_init 4 = .ok (.aload_n 0, 1) := by decide +kernel
theorem dX4_init_5 : decode cX4_init 5 = .ok (.bipush 8, 2) := by decide +kernel
theorem dX4_init_7 : decode cX4_init 7 = .ok (.newarray .int, 2) := by decide +kernel
theorem dX4_init_9 : decode cX4_init 9 = .ok (.putfield 11, 3) := by decide +kernel
theorem dX4_init_12 : decode cX4_init 12 = .ok (.aload_n 0, 1) := by decide +kernel
theorem dX4_init_13 : decode cX4_init 13 = .ok (.bipush 8, 2) := by decide +kernel
theorem dX4_init_15 : decode cX4_init 15 = .ok (.newarray .int, 2) := by decide +kernel
theorem dX4_init_17 : decode cX4_init 17 = .ok (.putfield 15, 3) := by decide +kernel
theorem dX4_init_20 : decode cX4_init 20 = .ok (.aload_n 0, 1) := by decide +kernel
theorem dX4_init_21 : decode cX4_init 21 = .ok (.bipush 8, 2) := by decide +kernel
theorem dX4_init_23 : decode cX4_init 23 = .ok (.newarray .int, 2) := by decide +kernel
theorem dX4_init_25 : decode cX4_init 25 = .ok (.putfield 18, 3) := by decide +kernel
theorem dX4_init_28 : decode cX4_init 28 = .ok (.aload_n 0, 1) := by decide +kernel
theorem dX4_init_29 : decode cX4_init 29 = .ok (.bipush 8, 2) := by decide +kernel
theorem dX4_init_31 : decode cX4_init 31 = .ok (.newarray .int, 2) := by decide +kernel
theorem dX4_init_33 : decode cX4_init 33 = .ok (.putfield 21, 3) := by decide +kernel
theorem dX4_init_36 : decode cX4_init 36 = .ok (.aload_n 0, 1) := by decide +kernel
theorem dX4_init_37 : decode cX4_init 37 = .ok (.bipush 6, 2) := by decide +kernel
theorem dX4_init_39 : decode cX4_init 39 = .ok (.newarray .int, 2) := by decide +kernel
theorem dX4_init_41 : decode cX4_init 41 = .ok (.putfield 24, 3) := by decide +kernel
theorem dX4_init_44 : decode cX4_init 44 = .ok (.aload_n 0, 1) := by decide +kernel
theorem dX4_init_45 : decode cX4_init 45 = .ok (.iconst 5, 1) := by decide +kernel
theorem dX4_init_46 : decode cX4_init 46 = .ok (.newarray .int, 2) := by decide +kernel
theorem dX4_init_48 : decode cX4_init 48 = .ok (.putfield 27, 3) := by decide +kernel
theorem dX4_init_51 : decode cX4_init 51 = .ok (.return_, 1) := by decide +kernel
theorem dX4_size_0 : decode cX4_size 0 = .ok (.aload_n 0, 1) := by decide +kernel
theorem dX4_size_1 : decode cX4_size 1 = .ok (.getfield 30, 3) := by decide +kernel
theorem dX4_size_4 : decode cX4_size 4 = .ok (.ireturn, 1) := by decide +kernel
theorem dX4_rainNow_0 : decode cX4_rainNow 0 = .ok (.aload_n 0, 1) := by decide +kernel
theorem dX4_rainNow_1 : decode cX4_rainNow 1 = .ok (.getfield 34, 3) := by decide +kernel
theorem dX4_rainNow_4 : decode cX4_rainNow 4 = .ok (.ireturn, 1) := by decide +kernel
theorem dX4_setRain_0 : decode cX4_setRain 0 = .ok (.aload_n 0, 1) := by decide +kernel
theorem dX4_setRain_1 : decode cX4_setRain 1 = .ok (.iload_n 1, 1) := by decide +kernel
theorem dX4_setRain_2 : decode cX4_setRain 2 = .ok (.putfield 34, 3) := by decide +kernel
theorem dX4_setRain_5 : decode cX4_setRain 5 = .ok (.return_, 1) := by decide +kernel
theorem dX4_has_0 : decode cX4_has 0 = .ok (.iload_n 1, 1) := by decide +kernel
theorem dX4_has_1 : decode cX4_has 1 = .ok (.ifCond .lt 15, 3) := by decide +kernel
theorem dX4_has_4 : decode cX4_has 4 = .ok (.iload_n 1, 1) := by decide +kernel
theorem dX4_has_5 : decode cX4_has 5 = .ok (.aload_n 0, 1) := by decide +kernel
theorem dX4_has_6 : decode cX4_has 6 = .ok (.getfield 30, 3) := by decide +kernel
theorem dX4_has_9 : decode cX4_has 9 = .ok (.if_icmp .ge 7, 3) := by decide +kernel
theorem dX4_has_12 : decode cX4_has 12 = .ok (.iconst 1, 1) := by decide +kernel
theorem dX4_has_13 : decode cX4_has 13 = .ok (.goto 4, 3) := by decide +kernel
theorem dX4_has_16 : decode cX4_has 16 = .ok (.iconst 0, 1) := by decide +kernel
theorem dX4_has_17 : decode cX4_has 17 = .ok (.ireturn, 1) := by decide +kernel
theorem dX4_add_0 : decode cX4_add 0 = .ok (.aload_n 0, 1) := by decide +kernel
theorem dX4_add_1 : decode cX4_add 1 = .ok (.getfield 30, 3) := by decide +kernel
theorem dX4_add_4 : decode cX4_add 4 = .ok (.bipush 8, 2) := by decide +kernel
theorem dX4_add_6 : decode cX4_add 6 = .ok (.if_icmp .lt 5, 3) := by decide +kernel
theorem dX4_add_9 : decode cX4_add 9 = .ok (.iconst (-1), 1) := by decide +kernel
theorem dX4_add_10 : decode cX4_add 10 = .ok (.ireturn, 1) := by decide +kernel
theorem dX4_add_11 : decode cX4_add 11 = .ok (.aload_n 0, 1) := by decide +kernel
theorem dX4_add_12 : decode cX4_add 12 = .ok (.getfield 11, 3) := by decide +kernel
theorem dX4_add_15 : decode cX4_add 15 = .ok (.aload_n 0, 1) := by decide +kernel
theorem dX4_add_16 : decode cX4_add 16 = .ok (.getfield 30, 3) := by decide +kernel
theorem dX4_add_19 : decode cX4_add 19 = .ok (.iload_n 1, 1) := by decide +kernel
theorem dX4_add_20 : decode cX4_add 20 = .ok (.iastore, 1) := by decide +kernel
theorem dX4_add_21 : decode cX4_add 21 = .ok (.aload_n 0, 1) := by decide +kernel
theorem dX4_add_22 : decode cX4_add 22 = .ok (.getfield 15, 3) := by decide +kernel
theorem dX4_add_25 : decode cX4_add 25 = .ok (.aload_n 0, 1) := by decide +kernel
theorem dX4_add_26 : decode cX4_add 26 = .ok (.getfield 30, 3) := by decide +kernel
theorem dX4_add_29 : decode cX4_add 29 = .ok (.iload_n 2, 1) := by decide +kernel
theorem dX4_add_30 : decode cX4_add 30 = .ok (.iastore, 1) := by decide +kernel
theorem dX4_add_31 : decode cX4_add 31 = .ok (.aload_n 0, 1) := by decide +kernel
theorem dX4_add_32 : decode cX4_add 32 = .ok (.getfield 18, 3) := by decide +kernel
theorem dX4_add_35 : decode cX4_add 35 = .ok (.aload_n 0, 1) := by decide +kernel
theorem dX4_add_36 : decode cX4_add 36 = .ok (.getfield 30, 3) := by decide +kernel
theorem dX4_add_39 : decode cX4_add 39 = .ok (.iload_n 3, 1) := by decide +kernel
theorem dX4_add_40 : decode cX4_add 40 = .ok (.iastore, 1) := by decide +kernel
theorem dX4_add_41 : decode cX4_add 41 = .ok (.aload_n 0, 1) := by decide +kernel
theorem dX4_add_42 : decode cX4_add 42 = .ok (.getfield 21, 3) := by decide +kernel
theorem dX4_add_45 : decode cX4_add 45 = .ok (.aload_n 0, 1) := by decide +kernel
theorem dX4_add_46 : decode cX4_add 46 = .ok (.getfield 30, 3) := by decide +kernel
theorem dX4_add_49 : decode cX4_add 49 = .ok (.iload 4, 2) := by decide +kernel
theorem dX4_add_51 : decode cX4_add 51 = .ok (.iastore, 1) := by decide +kernel
theorem dX4_add_52 : decode cX4_add 52 = .ok (.aload_n 0, 1) := by decide +kernel
theorem dX4_add_53 : decode cX4_add 53 = .ok (.dup, 1) := by decide +kernel
theorem dX4_add_54 : decode cX4_add 54 = .ok (.getfield 30, 3) := by decide +kernel
theorem dX4_add_57 : decode cX4_add 57 = .ok (.iconst 1, 1) := by decide +kernel
theorem dX4_add_58 : decode cX4_add 58 = .ok (.iadd, 1) := by decide +kernel
theorem dX4_add_59 : decode cX4_add 59 = .ok (.putfield 30, 3) := by decide +kernel
theorem dX4_add_62 : decode cX4_add 62 = .ok (.aload_n 0, 1) := by decide +kernel
theorem dX4_add_63 : decode cX4_add 63 = .ok (.getfield 30, 3) := by decide +kernel
theorem dX4_add_66 : decode cX4_add 66 = .ok (.iconst 1, 1) := by decide +kernel
theorem dX4_add_67 : decode cX4_add 67 = .ok (.isub, 1) := by decide +kernel
theorem dX4_add_68 : decode cX4_add 68 = .ok (.ireturn, 1) := by decide +kernel
theorem dX4_biteOf_0 : decode cX4_biteOf 0 = .ok (.aload_n 0, 1) := by decide +kernel
theorem dX4_biteOf_1 : decode cX4_biteOf 1 = .ok (.iload_n 1, 1) := by decide +kernel
theorem dX4_biteOf_2 : decode cX4_biteOf 2 = .ok (.invokevirtual 37, 3) := by decide +kernel
theorem dX4_biteOf_5 : decode cX4_biteOf 5 = .ok (.ifCond .eq 24, 3) := by decide +kernel
theorem dX4_biteOf_8 : decode cX4_biteOf 8 = .ok (.aload_n 0, 1) := by decide +kernel
theorem dX4_biteOf_9 : decode cX4_biteOf 9 = .ok (.getfield 18, 3) := by decide +kernel
theorem dX4_biteOf_12 : decode cX4_biteOf 12 = .ok (.iload_n 1, 1) := by decide +kernel
theorem dX4_biteOf_13 : decode cX4_biteOf 13 = .ok (.iaload, 1) := by decide +kernel
theorem dX4_biteOf_14 : decode cX4_biteOf 14 = .ok (.aload_n 0, 1) := by decide +kernel
theorem dX4_biteOf_15 : decode cX4_biteOf 15 = .ok (.getfield 21, 3) := by decide +kernel
theorem dX4_biteOf_18 : decode cX4_biteOf 18 = .ok (.iload_n 1, 1) := by decide +kernel
theorem dX4_biteOf_19 : decode cX4_biteOf 19 = .ok (.iaload, 1) := by decide +kernel
theorem dX4_biteOf_20 : decode cX4_biteOf 20 = .ok (.aload_n 0, 1) := by decide +kernel
theorem dX4_biteOf_21 : decode cX4_biteOf 21 = .ok (.getfield 34, 3) := by decide +kernel
theorem dX4_biteOf_24 : decode cX4_biteOf 24 = .ok (.imul, 1) := by decide +kernel
theorem dX4_biteOf_25 : decode cX4_biteOf 25 = .ok (.iadd, 1) := by decide +kernel
theorem dX4_biteOf_26 : decode cX4_biteOf 26 = .ok (.goto 4, 3) := by decide +kernel
theorem dX4_biteOf_29 : decode cX4_biteOf 29 = .ok (.iconst 0, 1) := by decide +kernel
theorem dX4_biteOf_30 : decode cX4_biteOf 30 = .ok (.ireturn, 1) := by decide +kernel
theorem dX4_endOf_0 : decode cX4_endOf 0 = .ok (.aload_n 0, 1) := by decide +kernel
theorem dX4_endOf_1 : decode cX4_endOf 1 = .ok (.iload_n 1, 1) := by decide +kernel
theorem dX4_endOf_2 : decode cX4_endOf 2 = .ok (.invokevirtual 37, 3) := by decide +kernel
theorem dX4_endOf_5 : decode cX4_endOf 5 = .ok (.ifCond .eq 12, 3) := by decide +kernel
theorem dX4_endOf_8 : decode cX4_endOf 8 = .ok (.aload_n 0, 1) := by decide +kernel
theorem dX4_endOf_9 : decode cX4_endOf 9 = .ok (.getfield 15, 3) := by decide +kernel
theorem dX4_endOf_12 : decode cX4_endOf 12 = .ok (.iload_n 1, 1) := by decide +kernel
theorem dX4_endOf_13 : decode cX4_endOf 13 = .ok (.iaload, 1) := by decide +kernel
theorem dX4_endOf_14 : decode cX4_endOf 14 = .ok (.goto 4, 3) := by decide +kernel
theorem dX4_endOf_17 : decode cX4_endOf 17 = .ok (.iconst (-1), 1) := by decide +kernel
theorem dX4_endOf_18 : decode cX4_endOf 18 = .ok (.ireturn, 1) := by decide +kernel
theorem dX4_routeAt_0 : decode cX4_routeAt 0 = .ok (.iload_n 1, 1) := by decide +kernel
theorem dX4_routeAt_1 : decode cX4_routeAt 1 = .ok (.ifCond .lt 20, 3) := by decide +kernel
theorem dX4_routeAt_4 : decode cX4_routeAt 4 = .ok (.iload_n 1, 1) := by decide +kernel
theorem dX4_routeAt_5 : decode cX4_routeAt 5 = .ok (.aload_n 0, 1) := by decide +kernel
theorem dX4_routeAt_6 : decode cX4_routeAt 6 = .ok (.getfield 41, 3) := by decide +kernel
theorem dX4_routeAt_9 : decode cX4_routeAt 9 = .ok (.if_icmp .ge 12, 3) := by decide +kernel
theorem dX4_routeAt_12 : decode cX4_routeAt 12 = .ok (.aload_n 0, 1) := by decide +kernel
theorem dX4_routeAt_13 : decode cX4_routeAt 13 = .ok (.getfield 27, 3) := by decide +kernel
theorem dX4_routeAt_16 : decode cX4_routeAt 16 = .ok (.iload_n 1, 1) := by decide +kernel
theorem dX4_routeAt_17 : decode cX4_routeAt 17 = .ok (.iaload, 1) := by decide +kernel
theorem dX4_routeAt_18 : decode cX4_routeAt 18 = .ok (.goto 4, 3) := by decide +kernel
theorem dX4_routeAt_21 : decode cX4_routeAt 21 = .ok (.iconst (-1), 1) := by decide +kernel
theorem dX4_routeAt_22 : decode cX4_routeAt 22 = .ok (.ireturn, 1) := by decide +kernel
theorem dX4_findRoute_0 : decode cX4_findRoute 0 = .ok (.aload_n 0, 1) := by decide +kernel
theorem dX4_findRoute_1 : decode cX4_findRoute 1 = .ok (.iconst 0, 1) := by decide +kernel
theorem dX4_findRoute_2 : decode cX4_findRoute 2 = .ok (.putfield 41, 3) := by decide +kernel
theorem dX4_findRoute_5 : decode cX4_findRoute 5 = .ok (.iload_n 1, 1) := by decide +kernel
theorem dX4_findRoute_6 : decode cX4_findRoute 6 = .ok (.iload_n 2, 1) := by decide +kernel
theorem dX4_findRoute_7 : decode cX4_findRoute 7 = .ok (.invokestatic 44, 3) := by decide +kernel
theorem dX4_findRoute_10 : decode cX4_findRoute 10 = .ok (.ifCond .ne 5, 3) := by decide +kernel
theorem dX4_findRoute_13 : decode cX4_findRoute 13 = .ok (.iconst (-1), 1) := by decide +kernel
theorem dX4_findRoute_14 : decode cX4_findRoute 14 = .ok (.ireturn, 1) := by decide +kernel
theorem dX4_findRoute_15 : decode cX4_findRoute 15 = .ok (.aload_n 0, 1) := by decide +kernel
theorem dX4_findRoute_16 : decode cX4_findRoute 16 = .ok (.iload_n 2, 1) := by decide +kernel
theorem dX4_findRoute_17 : decode cX4_findRoute 17 = .ok (.invokevirtual 48, 3) := by decide +kernel
theorem dX4_findRoute_20 : decode cX4_findRoute 20 = .ok (.aload_n 0, 1) := by decide +kernel
theorem dX4_findRoute_21 : decode cX4_findRoute 21 = .ok (.getfield 24, 3) := by decide +kernel
theorem dX4_findRoute_24 : decode cX4_findRoute 24 = .ok (.iload_n 1, 1) := by decide +kernel
theorem dX4_findRoute_25 : decode cX4_findRoute 25 = .ok (.iaload, 1) := by decide +kernel
theorem dX4_findRoute_26 : decode cX4_findRoute 26 = .ok (.istore_n 3, 1) := by decide +kernel
theorem dX4_findRoute_27 : decode cX4_findRoute 27 = .ok (.iload_n 3, 1) := by decide +kernel
theorem dX4_findRoute_28 : decode cX4_findRoute 28 = .ok (.iconst 5, 1) := by decide +kernel
theorem dX4_findRoute_29 : decode cX4_findRoute 29 = .ok (.if_icmp .le 5, 3) := by decide +kernel
theorem dX4_findRoute_32 : decode cX4_findRoute 32 = .ok (.iconst (-1), 1) := by decide +kernel
theorem dX4_findRoute_33 : decode cX4_findRoute 33 = .ok (.ireturn, 1) := by decide +kernel
theorem dX4_findRoute_34 : decode cX4_findRoute 34 = .ok (.iload_n 1, 1) := by decide +kernel
theorem dX4_findRoute_35 : decode cX4_findRoute 35 = .ok (.istore 4, 2) := by decide +kernel
theorem dX4_findRoute_37 : decode cX4_findRoute 37 = .ok (.iconst 0, 1) := by decide +kernel
theorem dX4_findRoute_38 : decode cX4_findRoute 38 = .ok (.istore 5, 2) := by decide +kernel
theorem dX4_findRoute_40 : decode cX4_findRoute 40 = .ok (.iload 5, 2) := by decide +kernel
theorem dX4_findRoute_42 : decode cX4_findRoute 42 = .ok (.iload_n 3, 1) := by decide +kernel
theorem dX4_findRoute_43 : decode cX4_findRoute 43 = .ok (.if_icmp .ge 43, 3) := by decide +kernel
theorem dX4_findRoute_46 : decode cX4_findRoute 46 = .ok (.aload_n 0, 1) := by decide +kernel
theorem dX4_findRoute_47 : decode cX4_findRoute 47 = .ok (.iload 4, 2) := by decide +kernel
theorem dX4_findRoute_49 : decode cX4_findRoute 49 = .ok (.invokevirtual 52, 3) := by decide +kernel
theorem dX4_findRoute_52 : decode cX4_findRoute 52 = .ok (.istore 6, 2) := by decide +kernel
theorem dX4_findRoute_54 : decode cX4_findRoute 54 = .ok (.iload 6, 2) := by decide +kernel
theorem dX4_findRoute_56 : decode cX4_findRoute 56 = .ok (.iconst (-1), 1) := by decide +kernel
theorem dX4_findRoute_57 : decode cX4_findRoute 57 = .ok (.if_icmp .ne 5, 3) := by decide +kernel
theorem dX4_findRoute_60 : decode cX4_findRoute 60 = .ok (.iconst (-1), 1) := by decide +kernel
theorem dX4_findRoute_61 : decode cX4_findRoute 61 = .ok (.ireturn, 1) := by decide +kernel
theorem dX4_findRoute_62 : decode cX4_findRoute 62 = .ok (.aload_n 0, 1) := by decide +kernel
theorem dX4_findRoute_63 : decode cX4_findRoute 63 = .ok (.getfield 27, 3) := by decide +kernel
theorem dX4_findRoute_66 : decode cX4_findRoute 66 = .ok (.iload 5, 2) := by decide +kernel
theorem dX4_findRoute_68 : decode cX4_findRoute 68 = .ok (.iload 6, 2) := by decide +kernel
theorem dX4_findRoute_70 : decode cX4_findRoute 70 = .ok (.iastore, 1) := by decide +kernel
theorem dX4_findRoute_71 : decode cX4_findRoute 71 = .ok (.aload_n 0, 1) := by decide +kernel
theorem dX4_findRoute_72 : decode cX4_findRoute 72 = .ok (.getfield 15, 3) := by decide +kernel
theorem dX4_findRoute_75 : decode cX4_findRoute 75 = .ok (.iload 6, 2) := by decide +kernel
theorem dX4_findRoute_77 : decode cX4_findRoute 77 = .ok (.iaload, 1) := by decide +kernel
theorem dX4_findRoute_78 : decode cX4_findRoute 78 = .ok (.istore 4, 2) := by decide +kernel
theorem dX4_findRoute_80 : decode cX4_findRoute 80 = .ok (.iinc 5 1, 3) := by decide +kernel
theorem dX4_findRoute_83 : decode cX4_findRoute 83 = .ok (.goto (-43), 3) := by decide +kernel
theorem dX4_findRoute_86 : decode cX4_findRoute 86 = .ok (.aload_n 0, 1) := by decide +kernel
theorem dX4_findRoute_87 : decode cX4_findRoute 87 = .ok (.iload_n 3, 1) := by decide +kernel
theorem dX4_findRoute_88 : decode cX4_findRoute 88 = .ok (.putfield 41, 3) := by decide +kernel
theorem dX4_findRoute_91 : decode cX4_findRoute 91 = .ok (.iload_n 3, 1) := by decide +kernel
theorem dX4_findRoute_92 : decode cX4_findRoute 92 = .ok (.ireturn, 1) := by decide +kernel
theorem dX4_measureDistances_0 : decode cX4_measureDistances 0 = .ok (.iconst 0, 1) := by decide +kernel
theorem dX4_measureDistances_1 : decode cX4_measureDistances 1 = .ok (.istore_n 2, 1) := by decide +kernel
theorem dX4_measureDistances_2 : decode cX4_measureDistances 2 = .ok (.iload_n 2, 1) := by decide +kernel
theorem dX4_measureDistances_3 : decode cX4_measureDistances 3 = .ok (.bipush 6, 2) := by decide +kernel
theorem dX4_measureDistances_5 : decode cX4_measureDistances 5 = .ok (.if_icmp .ge 27, 3) := by decide +kernel
theorem dX4_measureDistances_8 : decode cX4_measureDistances 8 = .ok (.aload_n 0, 1) := by decide +kernel
theorem dX4_measureDistances_9 : decode cX4_measureDistances 9 = .ok (.getfield 24, 3) := by decide +kernel
theorem dX4_measureDistances_12 : decode cX4_measureDistances 12 = .ok (.iload_n 2, 1) := by decide +kernel
theorem dX4_measureDistances_13 : decode cX4_measureDistances 13 = .ok (.iload_n 2, 1) := by decide +kernel
theorem dX4_measureDistances_14 : decode cX4_measureDistances 14 = .ok (.iload_n 1, 1) := by decide +kernel
theorem dX4_measureDistances_15 : decode cX4_measureDistances 15 = .ok (.if_icmp .ne 7, 3) := by decide +kernel
theorem dX4_measureDistances_18 : decode cX4_measureDistances 18 = .ok (.iconst 0, 1) := by decide +kernel
theorem dX4_measureDistances_19 : decode cX4_measureDistances 19 = .ok (.goto 6, 3) := by decide +kernel
theorem dX4_measureDistances_22 : decode cX4_measureDistances 22 = .ok (.sipush 1000, 3) := by decide +kernel
theorem dX4_measureDistances_25 : decode cX4_measureDistances 25 = .ok (.iastore, 1) := by decide +kernel
theorem dX4_measureDistances_26 : decode cX4_measureDistances 26 = .ok (.iinc 2 1, 3) := by decide +kernel
theorem dX4_measureDistances_29 : decode cX4_measureDistances 29 = .ok (.goto (-27), 3) := by decide +kernel
theorem dX4_measureDistances_32 : decode cX4_measureDistances 32 = .ok (.iconst 0, 1) := by decide +kernel
theorem dX4_measureDistances_33 : decode cX4_measureDistances 33 = .ok (.istore_n 2, 1) := by decide +kernel
theorem dX4_measureDistances_34 : decode cX4_measureDistances 34 = .ok (.iload_n 2, 1) := by decide +kernel
theorem dX4_measureDistances_35 : decode cX4_measureDistances 35 = .ok (.iconst 5, 1) := by decide +kernel
theorem dX4_measureDistances_36 : decode cX4_measureDistances 36 = .ok (.if_icmp .ge 67, 3) := by decide +kernel
theorem dX4_measureDistances_39 : decode cX4_measureDistances 39 = .ok (.iconst 0, 1) := by decide +kernel
theorem dX4_measureDistances_40 : decode cX4_measureDistances 40 = .ok (.istore_n 3, 1) := by decide +kernel
theorem dX4_measureDistances_41 : decode cX4_measureDistances 41 = .ok (.iload_n 3, 1) := by decide +kernel
theorem dX4_measureDistances_42 : decode cX4_measureDistances 42 = .ok (.aload_n 0, 1) := by decide +kernel
theorem dX4_measureDistances_43 : decode cX4_measureDistances 43 = .ok (.getfield 30, 3) := by decide +kernel
theorem dX4_measureDistances_46 : decode cX4_measureDistances 46 = .ok (.if_icmp .ge 51, 3) := by decide +kernel
theorem dX4_measureDistances_49 : decode cX4_measureDistances 49 = .ok (.aload_n 0, 1) := by decide +kernel
theorem dX4_measureDistances_50 : decode cX4_measureDistances 50 = .ok (.getfield 24, 3) := by decide +kernel
theorem dX4_measureDistances_53 : decode cX4_measureDistances 53 = .ok (.aload_n 0, 1) := by decide +kernel
theorem dX4_measureDistances_54 : decode cX4_measureDistances 54 = .ok (.getfield 15, 3) := by decide +kernel
theorem dX4_measureDistances_57 : decode cX4_measureDistances 57 = .ok (.iload_n 3, 1) := by decide +kernel
theorem dX4_measureDistances_58 : decode cX4_measureDistances 58 = .ok (.iaload, 1) := by decide +kernel
theorem dX4_measureDistances_59 : decode cX4_measureDistances 59 = .ok (.iaload, 1) := by decide +kernel
theorem dX4_measureDistances_60 : decode cX4_measureDistances 60 = .ok (.iconst 1, 1) := by decide +kernel
theorem dX4_measureDistances_61 : decode cX4_measureDistances 61 = .ok (.iadd, 1) := by decide +kernel
theorem dX4_measureDistances_62 : decode cX4_measureDistances 62 = .ok (.istore 4, 2) := by decide +kernel
theorem dX4_measureDistances_64 : decode cX4_measureDistances 64 = .ok (.aload_n 0, 1) := by decide +kernel
theorem dX4_measureDistances_65 : decode cX4_measureDistances 65 = .ok (.getfield 24, 3) := by decide +kernel
theorem dX4_measureDistances_68 : decode cX4_measureDistances 68 = .ok (.aload_n 0, 1) := by decide +kernel
theorem dX4_measureDistances_69 : decode cX4_measureDistances 69 = .ok (.getfield 11, 3) := by decide +kernel
theorem dX4_measureDistances_72 : decode cX4_measureDistances 72 = .ok (.iload_n 3, 1) := by decide +kernel
theorem dX4_measureDistances_73 : decode cX4_measureDistances 73 = .ok (.iaload, 1) := by decide +kernel
theorem dX4_measureDistances_74 : decode cX4_measureDistances 74 = .ok (.aload_n 0, 1) := by decide +kernel
theorem dX4_measureDistances_75 : decode cX4_measureDistances 75 = .ok (.getfield 24, 3) := by decide +kernel
theorem dX4_measureDistances_78 : decode cX4_measureDistances 78 = .ok (.aload_n 0, 1) := by decide +kernel
theorem dX4_measureDistances_79 : decode cX4_measureDistances 79 = .ok (.getfield 11, 3) := by decide +kernel
theorem dX4_measureDistances_82 : decode cX4_measureDistances 82 = .ok (.iload_n 3, 1) := by decide +kernel
theorem dX4_measureDistances_83 : decode cX4_measureDistances 83 = .ok (.iaload, 1) := by decide +kernel
theorem dX4_measureDistances_84 : decode cX4_measureDistances 84 = .ok (.iaload, 1) := by decide +kernel
theorem dX4_measureDistances_85 : decode cX4_measureDistances 85 = .ok (.iload 4, 2) := by decide +kernel
theorem dX4_measureDistances_87 : decode cX4_measureDistances 87 = .ok (.invokestatic 56, 3) := by decide +kernel
theorem dX4_measureDistances_90 : decode cX4_measureDistances 90 = .ok (.iastore, 1) := by decide +kernel
theorem dX4_measureDistances_91 : decode cX4_measureDistances 91 = .ok (.iinc 3 1, 3) := by decide +kernel
theorem dX4_measureDistances_94 : decode cX4_measureDistances 94 = .ok (.goto (-53), 3) := by decide +kernel
theorem dX4_measureDistances_97 : decode cX4_measureDistances 97 = .ok (.iinc 2 1, 3) := by decide +kernel
theorem dX4_measureDistances_100 : decode cX4_measureDistances 100 = .ok (.goto (-66), 3) := by decide +kernel
theorem dX4_measureDistances_103 : decode cX4_measureDistances 103 = .ok (.return_, 1) := by decide +kernel
theorem dX4_firstTowards_0 : decode cX4_firstTowards 0 = .ok (.iconst 0, 1) := by decide +kernel
theorem dX4_firstTowards_1 : decode cX4_firstTowards 1 = .ok (.istore_n 2, 1) := by decide +kernel
theorem dX4_firstTowards_2 : decode cX4_firstTowards 2 = .ok (.iload_n 2, 1) := by decide +kernel
theorem dX4_firstTowards_3 : decode cX4_firstTowards 3 = .ok (.aload_n 0, 1) := by decide +kernel
theorem dX4_firstTowards_4 : decode cX4_firstTowards 4 = .ok (.getfield 30, 3) := by decide +kernel
theorem dX4_firstTowards_7 : decode cX4_firstTowards 7 = .ok (.if_icmp .ge 43, 3) := by decide +kernel
theorem dX4_firstTowards_10 : decode cX4_firstTowards 10 = .ok (.aload_n 0, 1) := by decide +kernel
theorem dX4_firstTowards_11 : decode cX4_firstTowards 11 = .ok (.getfield 11, 3) := by decide +kernel
theorem dX4_firstTowards_14 : decode cX4_firstTowards 14 = .ok (.iload_n 2, 1) := by decide +kernel
theorem dX4_firstTowards_15 : decode cX4_firstTowards 15 = .ok (.iaload, 1) := by decide +kernel
theorem dX4_firstTowards_16 : decode cX4_firstTowards 16 = .ok (.iload_n 1, 1) := by decide +kernel
theorem dX4_firstTowards_17 : decode cX4_firstTowards 17 = .ok (.if_icmp .ne 27, 3) := by decide +kernel
theorem dX4_firstTowards_20 : decode cX4_firstTowards 20 = .ok (.aload_n 0, 1) := by decide +kernel
theorem dX4_firstTowards_21 : decode cX4_firstTowards 21 = .ok (.getfield 24, 3) := by decide +kernel
theorem dX4_firstTowards_24 : decode cX4_firstTowards 24 = .ok (.aload_n 0, 1) := by decide +kernel
theorem dX4_firstTowards_25 : decode cX4_firstTowards 25 = .ok (.getfield 15, 3) := by decide +kernel
theorem dX4_firstTowards_28 : decode cX4_firstTowards 28 = .ok (.iload_n 2, 1) := by decide +kernel
theorem dX4_firstTowards_29 : decode cX4_firstTowards 29 = .ok (.iaload, 1) := by decide +kernel
theorem dX4_firstTowards_30 : decode cX4_firstTowards 30 = .ok (.iaload, 1) := by decide +kernel
theorem dX4_firstTowards_31 : decode cX4_firstTowards 31 = .ok (.aload_n 0, 1) := by decide +kernel
theorem dX4_firstTowards_32 : decode cX4_firstTowards 32 = .ok (.getfield 24, 3) := by decide +kernel
theorem dX4_firstTowards_35 : decode cX4_firstTowards 35 = .ok (.iload_n 1, 1) := by decide +kernel
theorem dX4_firstTowards_36 : decode cX4_firstTowards 36 = .ok (.iaload, 1) := by decide +kernel
theorem dX4_firstTowards_37 : decode cX4_firstTowards 37 = .ok (.iconst 1, 1) := by decide +kernel
theorem dX4_firstTowards_38 : decode cX4_firstTowards 38 = .ok (.isub, 1) := by decide +kernel
theorem dX4_firstTowards_39 : decode cX4_firstTowards 39 = .ok (.if_icmp .ne 5, 3) := by decide +kernel
theorem dX4_firstTowards_42 : decode cX4_firstTowards 42 = .ok (.iload_n 2, 1) := by decide +kernel
theorem dX4_firstTowards_43 : decode cX4_firstTowards 43 = .ok (.ireturn, 1) := by decide +kernel
theorem dX4_firstTowards_44 : decode cX4_firstTowards 44 = .ok (.iinc 2 1, 3) := by decide +kernel
theorem dX4_firstTowards_47 : decode cX4_firstTowards 47 = .ok (.goto (-45), 3) := by decide +kernel
theorem dX4_firstTowards_50 : decode cX4_firstTowards 50 = .ok (.iconst (-1), 1) := by decide +kernel
theorem dX4_firstTowards_51 : decode cX4_firstTowards 51 = .ok (.ireturn, 1) := by decide +kernel
theorem dX5_init_0 : decode cX5_init 0 = .ok (.aload_n 0, 1) := by decide +kernel
theorem dX5_init_1 : decode cX5_init 1 = .ok (.invokespecial 5, 3) := by decide +kernel
theorem dX5_init_4 : decode cX5_init 4 = .ok (.aload_n 0, 1) := by decide +kernel
theorem dX5_init_5 : decode cX5_init 5 = .ok (.bipush 20, 2) := by decide +kernel
theorem dX5_init_7 : decode cX5_init 7 = .ok (.newarray .int, 2) := by decide +kernel
theorem dX5_init_9 : decode cX5_init 9 = .ok (.putfield 13, 3) := by decide +kernel
theorem dX5_init_12 : decode cX5_init 12 = .ok (.aload_n 0, 1) := by decide +kernel
theorem dX5_init_13 : decode cX5_init 13 = .ok (.bipush 20, 2) := by decide +kernel
theorem dX5_init_15 : decode cX5_init 15 = .ok (.newarray .int, 2) := by decide +kernel
theorem dX5_init_17 : decode cX5_init 17 = .ok (.putfield 17, 3) := by decide +kernel
theorem dX5_init_20 : decode cX5_init 20 = .ok (.aload_n 0, 1) := by decide +kernel
theorem dX5_init_21 : decode cX5_init 21 = .ok (.bipush 20, 2) := by decide +kernel
theorem dX5_init_23 : decode cX5_init 23 = .ok (.newarray .int, 2) := by decide +kernel
theorem dX5_init_25 : decode cX5_init 25 = .ok (.putfield 20, 3) := by decide +kernel
theorem dX5_init_28 : decode cX5_init 28 = .ok (.aload_n 0, 1) := by decide +kernel
theorem dX5_init_29 : decode cX5_init 29 = .ok (.bipush 20, 2) := by decide +kernel
theorem dX5_init_31 : decode cX5_init 31 = .ok (.newarray .int, 2) := by decide +kernel
theorem dX5_init_33 : decode cX5_init 33 = .ok (.putfield 23, 3) := by decide +kernel
theorem dX5_init_36 : decode cX5_init 36 = .ok (.aload_n 0, 1) := by decide +kernel
theorem dX5_init_37 : decode cX5_init 37 = .ok (.bipush 20, 2) := by decide +kernel
theorem dX5_init_39 : decode cX5_init 39 = .ok (.newarray .int, 2) := by decide +kernel
theorem dX5_init_41 : decode cX5_init 41 = .ok (.putfield 26, 3) := by decide +kernel
theorem dX5_init_44 : decode cX5_init 44 = .ok (.aload_n 0, 1) := by decide +kernel
theorem dX5_init_45 : decode cX5_init 45 = .ok (.bipush 100, 2) := by decide +kernel
theorem dX5_init_47 : decode cX5_init 47 = .ok (.newarray .int, 2) := by decide +kernel
theorem dX5_init_49 : decode cX5_init 49 = .ok (.putfield 29, 3) := by decide +kernel
theorem dX5_init_52 : decode cX5_init 52 = .ok (.aload_n 0, 1) := by decide +kernel
theorem dX5_init_53 : decode cX5_init 53 = .ok (.bipush 100, 2) := by decide +kernel
theorem dX5_init_55 : decode cX5_init 55 = .ok (.newarray .int, 2) := by decide +kernel
theorem dX5_init_57 : decode cX5_init 57 = .ok (.putfield 32, 3) := by decide +kernel
theorem dX5_init_60 : decode cX5_init 60 = .ok (.aload_n 0, 1) := by decide +kernel
theorem dX5_init_61 : decode cX5_init 61 = .ok (.bipush 20, 2) := by decide +kernel
theorem dX5_init_63 : decode cX5_init 63 = .ok (.newarray .int, 2) := by decide +kernel
theorem dX5_init_65 : decode cX5_init 65 = .ok (.putfield 35, 3) := by decide +kernel
theorem dX5_init_68 : decode cX5_init 68 = .ok (.aload_n 0, 1) := by decide +kernel
theorem dX5_init_69 : decode cX5_init 69 = .ok (.bipush 20, 2) := by decide +kernel
theorem dX5_init_71 : decode cX5_init 71 = .ok (.newarray .int, 2) := by decide +kernel
theorem dX5_init_73 : decode cX5_init 73 = .ok (.putfield 38, 3) := by decide +kernel
theorem dX5_init_76 : decode cX5_init 76 = .ok (.aload_n 0, 1) := by decide +kernel
theorem dX5_init_77 : decode cX5_init 77 = .ok (.bipush 20, 2) := by decide +kernel
theorem dX5_init_79 : decode cX5_init 79 = .ok (.newarray .int, 2) := by decide +kernel
theorem dX5_init_81 : decode cX5_init 81 = .ok (.putfield 41, 3) := by decide +kernel
theorem dX5_init_84 : decode cX5_init 84 = .ok (.aload_n 0, 1) := by decide +kernel
theorem dX5_init_85 : decode cX5_init 85 = .ok (.bipush 8, 2) := by decide +kernel
theorem dX5_init_87 : decode cX5_init 87 = .ok (.newarray .int, 2) := by decide +kernel
theorem dX5_init_89 : decode cX5_init 89 = .ok (.putfield 44, 3) := by decide +kernel
theorem dX5_init_92 : decode cX5_init 92 = .ok (.aload_n 0, 1) := by decide +kernel
theorem dX5_init_93 : decode cX5_init 93 = .ok (.aload_n 1, 1) := by decide +kernel
theorem dX5_init_94 : decode cX5_init 94 = .ok (.putfield 47, 3) := by decide +kernel
theorem dX5_init_97 : decode cX5_init 97 = .ok (.return_, 1) := by decide +kernel
theorem dX5_size_0 : decode cX5_size 0 = .ok (.aload_n 0, 1) := by decide +kernel
theorem dX5_size_1 : decode cX5_size 1 = .ok (.getfield 51, 3) := by decide +kernel
theorem dX5_size_4 : decode cX5_size 4 = .ok (.ireturn, 1) := by decide +kernel
theorem dX5_has_0 : decode cX5_has 0 = .ok (.iload_n 1, 1) := by decide +kernel
theorem dX5_has_1 : decode cX5_has 1 = .ok (.ifCond .lt 15, 3) := by decide +kernel
theorem dX5_has_4 : decode cX5_has 4 = .ok (.iload_n 1, 1) := by decide +kernel
theorem dX5_has_5 : decode cX5_has 5 = .ok (.aload_n 0, 1) := by decide +kernel
theorem dX5_has_6 : decode cX5_has 6 = .ok (.getfield 51, 3) := by decide +kernel
theorem dX5_has_9 : decode cX5_has 9 = .ok (.if_icmp .ge 7, 3) := by decide +kernel
theorem dX5_has_12 : decode cX5_has 12 = .ok (.iconst 1, 1) := by decide +kernel
theorem dX5_has_13 : decode cX5_has 13 = .ok (.goto 4, 3) := by decide +kernel
theorem dX5_has_16 : decode cX5_has 16 = .ok (.iconst 0, 1) := by decide +kernel
theorem dX5_has_17 : decode cX5_has 17 = .ok (.ireturn, 1) := by decide +kernel
theorem dX5_add_0 : decode cX5_add 0 = .ok (.aload_n 0, 1) := by decide +kernel
theorem dX5_add_1 : decode cX5_add 1 = .ok (.getfield 51, 3) := by decide +kernel
theorem dX5_add_4 : decode cX5_add 4 = .ok (.bipush 20, 2) := by decide +kernel
theorem dX5_add_6 : decode cX5_add 6 = .ok (.if_icmp .lt 5, 3) := by decide +kernel
theorem dX5_add_9 : decode cX5_add 9 = .ok (.iconst (-1), 1) := by decide +kernel
theorem dX5_add_10 : decode cX5_add 10 = .ok (.ireturn, 1) := by decide +kernel
theorem dX5_add_11 : decode cX5_add 11 = .ok (.aload_n 0, 1) := by decide +kernel
theorem dX5_add_12 : decode cX5_add 12 = .ok (.getfield 13, 3) := by decide +kernel
theorem dX5_add_15 : decode cX5_add 15 = .ok (.aload_n 0, 1) := by decide +kernel
theorem dX5_add_16 : decode cX5_add 16 = .ok (.getfield 51, 3) := by decide +kernel
theorem dX5_add_19 : decode cX5_add 19 = .ok (.iload_n 1, 1) := by decide +kernel
theorem dX5_add_20 : decode cX5_add 20 = .ok (.iastore, 1) := by decide +kernel
theorem dX5_add_21 : decode cX5_add 21 = .ok (.aload_n 0, 1) := by decide +kernel
theorem dX5_add_22 : decode cX5_add 22 = .ok (.getfield 17, 3) := by decide +kernel
theorem dX5_add_25 : decode cX5_add 25 = .ok (.aload_n 0, 1) := by decide +kernel
theorem dX5_add_26 : decode cX5_add 26 = .ok (.getfield 51, 3) := by decide +kernel
theorem dX5_add_29 : decode cX5_add 29 = .ok (.iload_n 2, 1) := by decide +kernel
theorem dX5_add_30 : decode cX5_add 30 = .ok (.iastore, 1) := by decide +kernel
theorem dX5_add_31 : decode cX5_add 31 = .ok (.aload_n 0, 1) := by decide +kernel
theorem dX5_add_32 : decode cX5_add 32 = .ok (.getfield 20, 3) := by decide +kernel
theorem dX5_add_35 : decode cX5_add 35 = .ok (.aload_n 0, 1) := by decide +kernel
theorem dX5_add_36 : decode cX5_add 36 = .ok (.getfield 51, 3) := by decide +kernel
theorem dX5_add_39 : decode cX5_add 39 = .ok (.iload_n 3, 1) := by decide +kernel
theorem dX5_add_40 : decode cX5_add 40 = .ok (.iastore, 1) := by decide +kernel
theorem dX5_add_41 : decode cX5_add 41 = .ok (.aload_n 0, 1) := by decide +kernel
theorem dX5_add_42 : decode cX5_add 42 = .ok (.getfield 23, 3) := by decide +kernel
theorem dX5_add_45 : decode cX5_add 45 = .ok (.aload_n 0, 1) := by decide +kernel
theorem dX5_add_46 : decode cX5_add 46 = .ok (.getfield 51, 3) := by decide +kernel
theorem dX5_add_49 : decode cX5_add 49 = .ok (.iload 4, 2) := by decide +kernel
theorem dX5_add_51 : decode cX5_add 51 = .ok (.iastore, 1) := by decide +kernel
theorem dX5_add_52 : decode cX5_add 52 = .ok (.aload_n 0, 1) := by decide +kernel
theorem dX5_add_53 : decode cX5_add 53 = .ok (.getfield 26, 3) := by decide +kernel
theorem dX5_add_56 : decode cX5_add 56 = .ok (.aload_n 0, 1) := by decide +kernel
theorem dX5_add_57 : decode cX5_add 57 = .ok (.getfield 51, 3) := by decide +kernel
theorem dX5_add_60 : decode cX5_add 60 = .ok (.iload 5, 2) := by decide +kernel
theorem dX5_add_62 : decode cX5_add 62 = .ok (.iastore, 1) := by decide +kernel
theorem dX5_add_63 : decode cX5_add 63 = .ok (.aload_n 0, 1) := by decide +kernel
theorem dX5_add_64 : decode cX5_add 64 = .ok (.dup, 1) := by decide +kernel
theorem dX5_add_65 : decode cX5_add 65 = .ok (.getfield 51, 3) := by decide +kernel
theorem dX5_add_68 : decode cX5_add 68 = .ok (.iconst 1, 1) := by decide +kernel
theorem dX5_add_69 : decode cX5_add 69 = .ok (.iadd, 1) := by decide +kernel
theorem dX5_add_70 : decode cX5_add 70 = .ok (.putfield 51, 3) := by decide +kernel
theorem dX5_add_73 : decode cX5_add 73 = .ok (.aload_n 0, 1) := by decide +kernel
theorem dX5_add_74 : decode cX5_add 74 = .ok (.getfield 51, 3) := by decide +kernel
theorem dX5_add_77 : decode cX5_add 77 = .ok (.iconst 1, 1) := by decide +kernel
theorem dX5_add_78 : decode cX5_add 78 = .ok (.isub, 1) := by decide +kernel
theorem dX5_add_79 : decode cX5_add 79 = .ok (.ireturn, 1) := by decide +kernel
theorem dX5_runAll_0 : decode cX5_runAll 0 = .ok (.aload_n 0, 1) := by decide +kernel
theorem dX5_runAll_1 : decode cX5_runAll 1 = .ok (.invokevirtual 55, 3) := by decide +kernel
theorem dX5_runAll_4 : decode cX5_runAll 4 = .ok (.iconst 0, 1) := by decide +kernel
theorem dX5_runAll_5 : decode cX5_runAll 5 = .ok (.istore_n 1, 1) := by decide +kernel
theorem dX5_runAll_6 : decode cX5_runAll 6 = .ok (.iload_n 1, 1) := by decide +kernel
theorem dX5_runAll_7 : decode cX5_runAll 7 = .ok (.bipush 100, 2) := by decide +kernel
theorem dX5_runAll_9 : decode cX5_runAll 9 = .ok (.if_icmp .ge 75, 3) := by decide +kernel
theorem dX5_runAll_12 : decode cX5_runAll 12 = .ok (.aload_n 0, 1) := by decide +kernel
theorem dX5_runAll_13 : decode cX5_runAll 13 = .ok (.invokevirtual 58, 3) := by decide +kernel
theorem dX5_runAll_16 : decode cX5_runAll 16 = .ok (.istore_n 2, 1) := by decide +kernel
theorem dX5_runAll_17 : decode cX5_runAll 17 = .ok (.iload_n 2, 1) := by decide +kernel
theorem dX5_runAll_18 : decode cX5_runAll 18 = .ok (.iconst (-1), 1) := by decide +kernel
theorem dX5_runAll_19 : decode cX5_runAll 19 = .ok (.if_icmp .ne 4, 3) := by decide +kernel
theorem dX5_runAll_22 : decode cX5_runAll 22 = .ok (.return_, 1) := by decide +kernel
theorem dX5_runAll_23 : decode cX5_runAll 23 = .ok (.iconst 0, 1) := by decide +kernel
theorem dX5_runAll_24 : decode cX5_runAll 24 = .ok (.istore_n 3, 1) := by decide +kernel
theorem dX5_runAll_25 : decode cX5_runAll 25 = .ok (.iload_n 3, 1) := by decide +kernel
theorem dX5_runAll_26 : decode cX5_runAll 26 = .ok (.aload_n 0, 1) := by decide +kernel
theorem dX5_runAll_27 : decode cX5_runAll 27 = .ok (.getfield 47, 3) := by decide +kernel
theorem dX5_runAll_30 : decode cX5_runAll 30 = .ok (.invokevirtual 62, 3) := by decide +kernel
theorem dX5_runAll_33 : decode cX5_runAll 33 = .ok (.if_icmp .ge 45, 3) := by decide +kernel
theorem dX5_runAll_36 : decode cX5_runAll 36 = .ok (.aload_n 0, 1) := by decide +kernel
theorem dX5_runAll_37 : decode cX5_runAll 37 = .ok (.getfield 44, 3) := by decide +kernel
theorem dX5_runAll_40 : decode cX5_runAll 40 = .ok (.iload_n 3, 1) := by decide +kernel
theorem dX5_runAll_41 : decode cX5_runAll 41 = .ok (.iaload, 1) := by decide +kernel
theorem dX5_runAll_42 : decode cX5_runAll 42 = .ok (.iload_n 2, 1) := by decide +kernel
theorem dX5_runAll_43 : decode cX5_runAll 43 = .ok (.if_icmp .gt 12, 3) := by decide +kernel
theorem dX5_runAll_46 : decode cX5_runAll 46 = .ok (.aload_n 0, 1) := by decide +kernel
theorem dX5_runAll_47 : decode cX5_runAll 47 = .ok (.iload_n 3, 1) := by decide +kernel
theorem dX5_runAll_48 : decode cX5_runAll 48 = .ok (.iload_n 2, 1) := by decide +kernel
theorem dX5_runAll_49 : decode cX5_runAll 49 = .ok (.invokevirtual 64, 3) := by decide +kernel
theorem dX5_runAll_52 : decode cX5_runAll 52 = .ok (.goto 4, 3) := by decide +kernel
theorem dX5_runAll_55 : decode cX5_runAll 55 = .ok (.iconst (-1), 1) := by decide +kernel
theorem dX5_runAll_56 : decode cX5_runAll 56 = .ok (.istore 4, 2) := by decide +kernel
theorem dX5_runAll_58 : decode cX5_runAll 58 = .ok (.iload 4, 2) := by decide +kernel
theorem dX5_runAll_60 : decode cX5_runAll 60 = .ok (.iconst (-1), 1) := by decide +kernel
theorem dX5_runAll_61 : decode cX5_runAll 61 = .ok (.if_icmp .eq 11, 3) := by decide +kernel
theorem dX5_runAll_64 : decode cX5_runAll 64 = .ok (.aload_n 0, 1) := by decide +kernel
theorem dX5_runAll_65 : decode cX5_runAll 65 = .ok (.iload 4, 2) := by decide +kernel
theorem dX5_runAll_67 : decode cX5_runAll 67 = .ok (.iload_n 3, 1) := by decide +kernel
theorem dX5_runAll_68 : decode cX5_runAll 68 = .ok (.iload_n 2, 1) := by decide +kernel
theorem dX5_runAll_69 : decode cX5_runAll 69 = .ok (.invokevirtual 68, 3) := by decide +kernel
theorem dX5_runAll_72 : decode cX5_runAll 72 = .ok (.iinc 3 1, 3) := by decide +kernel
theorem dX5_runAll_75 : decode cX5_runAll 75 = .ok (.goto (-50), 3) := by decide +kernel
theorem dX5_runAll_78 : decode cX5_runAll 78 = .ok (.iinc 1 1, 3) := by decide +kernel
theorem dX5_runAll_81 : decode cX5_runAll 81 = .ok (.goto (-75), 3) := by decide +kernel
theorem dX5_runAll_84 : decode cX5_runAll 84 = .ok (.return_, 1) := by decide +kernel
theorem dX5_prepare_0 : decode cX5_prepare 0 = .ok (.iconst 0, 1) := by decide +kernel
theorem dX5_prepare_1 : decode cX5_prepare 1 = .ok (.istore_n 1, 1) := by decide +kernel
theorem dX5_prepare_2 : decode cX5_prepare 2 = .ok (.iload_n 1, 1) := by decide +kernel
theorem dX5_prepare_3 : decode cX5_prepare 3 = .ok (.aload_n 0, 1) := by decide +kernel
theorem dX5_prepare_4 : decode cX5_prepare 4 = .ok (.getfield 51, 3) := by decide +kernel
theorem dX5_prepare_7 : decode cX5_prepare 7 = .ok (.if_icmp .ge 98, 3) := by decide +kernel
theorem dX5_prepare_10 : decode cX5_prepare 10 = .ok (.aload_n 0, 1) := by decide +kernel
theorem dX5_prepare_11 : decode cX5_prepare 11 = .ok (.getfield 47, 3) := by decide +kernel
theorem dX5_prepare_14 : decode cX5_prepare 14 = .ok (.aload_n 0, 1) := by decide +kernel
theorem dX5_prepare_15 : decode cX5_prepare 15 = .ok (.getfield 13, 3) := by decide +kernel
theorem dX5_prepare_18 : decode cX5_prepare 18 = .ok (.iload_n 1, 1) := by decide +kernel
theorem dX5_prepare_19 : decode cX5_prepare 19 = .ok (.iaload, 1) := by decide +kernel
theorem dX5_prepare_20 : decode cX5_prepare 20 = .ok (.aload_n 0, 1) := by decide +kernel
theorem dX5_prepare_21 : decode cX5_prepare 21 = .ok (.getfield 17, 3) := by decide +kernel
theorem dX5_prepare_24 : decode cX5_prepare 24 = .ok (.iload_n 1, 1) := by decide +kernel
theorem dX5_prepare_25 : decode cX5_prepare 25 = .ok (.iaload, 1) := by decide +kernel
theorem dX5_prepare_26 : decode cX5_prepare 26 = .ok (.invokevirtual 72, 3) := by decide +kernel
theorem dX5_prepare_29 : decode cX5_prepare 29 = .ok (.pop, 1) := by decide +kernel
theorem dX5_prepare_30 : decode cX5_prepare 30 = .ok (.iconst 0, 1) := by decide +kernel
theorem dX5_prepare_31 : decode cX5_prepare 31 = .ok (.istore_n 2, 1) := by decide +kernel
theorem dX5_prepare_32 : decode cX5_prepare 32 = .ok (.iload_n 2, 1) := by decide +kernel
theorem dX5_prepare_33 : decode cX5_prepare 33 = .ok (.iconst 5, 1) := by decide +kernel
theorem dX5_prepare_34 : decode cX5_prepare 34 = .ok (.if_icmp .ge 39, 3) := by decide +kernel
theorem dX5_prepare_37 : decode cX5_prepare 37 = .ok (.aload_n 0, 1) := by decide +kernel
theorem dX5_prepare_38 : decode cX5_prepare 38 = .ok (.getfield 47, 3) := by decide +kernel
theorem dX5_prepare_41 : decode cX5_prepare 41 = .ok (.iload_n 2, 1) := by decide +kernel
theorem dX5_prepare_42 : decode cX5_prepare 42 = .ok (.invokevirtual 75, 3) := by decide +kernel
theorem dX5_prepare_45 : decode cX5_prepare 45 = .ok (.iconst (-1), 1) := by decide +kernel
theorem dX5_prepare_46 : decode cX5_prepare 46 = .ok (.if_icmp .eq 27, 3) := by decide +kernel
theorem dX5_prepare_49 : decode cX5_prepare 49 = .ok (.aload_n 0, 1) := by decide +kernel
theorem dX5_prepare_50 : decode cX5_prepare 50 = .ok (.getfield 29, 3) := by decide +kernel
theorem dX5_prepare_53 : decode cX5_prepare 53 = .ok (.iload_n 1, 1) := by decide +kernel
theorem dX5_prepare_54 : decode cX5_prepare 54 = .ok (.iconst 5, 1) := by decide +kernel
theorem dX5_prepare_55 : decode cX5_prepare 55 = .ok (.imul, 1) := by decide +kernel
theorem dX5_prepare_56 : decode cX5_prepare 56 = .ok (.iload_n 2, 1) := by decide +kernel
theorem dX5_prepare_57 : decode cX5_prepare 57 = .ok (.iadd, 1) := by decide +kernel
theorem dX5_prepare_58 : decode cX5_prepare 58 = .ok (.aload_n 0, 1) := by decide +kernel
theorem dX5_prepare_59 : decode cX5_prepare 59 = .ok (.getfield 47, 3) := by decide +kernel
theorem dX5_prepare_62 : decode cX5_prepare 62 = .ok (.iload_n 2, 1) := by decide +kernel
theorem dX5_prepare_63 : decode cX5_prepare 63 = .ok (.invokevirtual 75, 3) := by decide +kernel
theorem dX5_prepare_66 : decode cX5_prepare 66 = .ok (.iastore, 1) := by decide +kernel
theorem dX5_prepare_67 : decode cX5_prepare 67 = .ok (.iinc 2 1, 3) := by decide +kernel
theorem dX5_prepare_70 : decode cX5_prepare 70 = .ok (.goto (-38), 3) := by decide +kernel
theorem dX5_prepare_73 : decode cX5_prepare 73 = .ok (.aload_n 0, 1) := by decide +kernel
theorem dX5_prepare_74 : decode cX5_prepare 74 = .ok (.getfield 35, 3) := by decide +kernel
theorem dX5_prepare_77 : decode cX5_prepare 77 = .ok (.iload_n 1, 1) := by decide +kernel
theorem dX5_prepare_78 : decode cX5_prepare 78 = .ok (.iload_n 2, 1) := by decide +kernel
theorem dX5_prepare_79 : decode cX5_prepare 79 = .ok (.iastore, 1) := by decide +kernel
theorem dX5_prepare_80 : decode cX5_prepare 80 = .ok (.aload_n 0, 1) := by decide +kernel
theorem dX5_prepare_81 : decode cX5_prepare 81 = .ok (.getfield 38, 3) := by decide +kernel
theorem dX5_prepare_84 : decode cX5_prepare 84 = .ok (.iload_n 1, 1) := by decide +kernel
theorem dX5_prepare_85 : decode cX5_prepare 85 = .ok (.iconst 0, 1) := by decide +kernel
theorem dX5_prepare_86 : decode cX5_prepare 86 = .ok (.iastore, 1) := by decide +kernel
theorem dX5_prepare_87 : decode cX5_prepare 87 = .ok (.aload_n 0, 1) := by decide +kernel
theorem dX5_prepare_88 : decode cX5_prepare 88 = .ok (.getfield 41, 3) := by decide +kernel
theorem dX5_prepare_91 : decode cX5_prepare 91 = .ok (.iload_n 1, 1) := by decide +kernel
theorem dX5_prepare_92 : decode cX5_prepare 92 = .ok (.aload_n 0, 1) := by decide +kernel
theorem dX5_prepare_93 : decode cX5_prepare 93 = .ok (.getfield 20, 3) := by decide +kernel
theorem dX5_prepare_96 : decode cX5_prepare 96 = .ok (.iload_n 1, 1) := by decide +kernel
theorem dX5_prepare_97 : decode cX5_prepare 97 = .ok (.iaload, 1) := by decide +kernel
theorem dX5_prepare_98 : decode cX5_prepare 98 = .ok (.iastore, 1) := by decide +kernel
theorem dX5_prepare_99 : decode cX5_prepare 99 = .ok (.iinc 1 1, 3) := by decide +kernel
theorem dX5_prepare_102 : decode cX5_prepare 102 = .ok (.goto (-100), 3) := by decide +kernel
theorem dX5_prepare_105 : decode cX5_prepare 105 = .ok (.iconst 0, 1) := by decide +kernel
theorem dX5_prepare_106 : decode cX5_prepare 106 = .ok (.istore_n 1, 1) := by decide +kernel
theorem dX5_prepare_107 : decode cX5_prepare 107 = .ok (.iload_n 1, 1) := by decide +kernel
theorem dX5_prepare_108 : decode cX5_prepare 108 = .ok (.bipush 8, 2) := by decide +kernel
theorem dX5_prepare_110 : decode cX5_prepare 110 = .ok (.if_icmp .ge 16, 3) := by decide +kernel
theorem dX5_prepare_113 : decode cX5_prepare 113 = .ok (.aload_n 0, 1) := by decide +kernel
theorem dX5_prepare_114 : decode cX5_prepare 114 = .ok (.getfield 44, 3) := by decide +kernel
theorem dX5_prepare_117 : decode cX5_prepare 117 = .ok (.iload_n 1, 1) := by decide +kernel
theorem dX5_prepare_118 : decode cX5_prepare 118 = .ok (.iconst 0, 1) := by decide +kernel
theorem dX5_prepare_119 : decode cX5_prepare 119 = .ok (.iastore, 1) := by decide +kernel
theorem dX5_prepare_120 : decode cX5_prepare 120 = .ok (.iinc 1 1, 3) := by decide +kernel
theorem dX5_prepare_123 : decode cX5_prepare 123 = .ok (.goto (-16), 3) := by decide +kernel
theorem dX5_prepare_126 : decode cX5_prepare 126 = .ok (.return_, 1) := by decide +kernel
theorem dX5_nextBegin_0 : decode cX5_nextBegin 0 = .ok (.iconst (-1), 1) := by decide +kernel
theorem dX5_nextBegin_1 : decode cX5_nextBegin 1 = .ok (.istore_n 1, 1) := by decide +kernel
theorem dX5_nextBegin_2 : decode cX5_nextBegin 2 = .ok (.iconst 0, 1) := by decide +kernel
theorem dX5_nextBegin_3 : decode cX5_nextBegin 3 = .ok (.istore_n 2, 1) := by decide +kernel
theorem dX5_nextBegin_4 : decode cX5_nextBegin 4 = .ok (.iload_n 2, 1) := by decide +kernel
theorem dX5_nextBegin_5 : decode cX5_nextBegin 5 = .ok (.aload_n 0, 1) := by decide +kernel
theorem dX5_nextBegin_6 : decode cX5_nextBegin 6 = .ok (.getfield 51, 3) := by decide +kernel
theorem dX5_nextBegin_9 : decode cX5_nextBegin 9 = .ok (.if_icmp .ge 51, 3) := by decide +kernel
theorem dX5_nextBegin_12 : decode cX5_nextBegin 12 = .ok (.aload_n 0, 1) := by decide +kernel
theorem dX5_nextBegin_13 : decode cX5_nextBegin 13 = .ok (.iload_n 2, 1) := by decide +kernel
theorem dX5_nextBegin_14 : decode cX5_nextBegin 14 = .ok (.invokevirtual 79, 3) := by decide +kernel
theorem dX5_nextBegin_17 : decode cX5_nextBegin 17 = .ok (.istore_n 3, 1) := by decide +kernel
theorem dX5_nextBegin_18 : decode cX5_nextBegin 18 = .ok (.iload_n 3, 1) := by decide +kernel
theorem dX5_nextBegin_19 : decode cX5_nextBegin 19 = .ok (.iconst (-1), 1) := by decide +kernel
theorem dX5_nextBegin_20 : decode cX5_nextBegin 20 = .ok (.if_icmp .eq 34, 3) := by decide +kernel
theorem dX5_nextBegin_23 : decode cX5_nextBegin 23 = .ok (.aload_n 0, 1) := by decide +kernel
theorem dX5_nextBegin_24 : decode cX5_nextBegin 24 = .ok (.getfield 41, 3) := by decide +kernel
theorem dX5_nextBegin_27 : decode cX5_nextBegin 27 = .ok (.iload_n 2, 1) := by decide +kernel
theorem dX5_nextBegin_28 : decode cX5_nextBegin 28 = .ok (.iaload, 1) := by decide +kernel
theorem dX5_nextBegin_29 : decode cX5_nextBegin 29 = .ok (.aload_n 0, 1) := by decide +kernel
theorem dX5_nextBegin_30 : decode cX5_nextBegin 30 = .ok (.getfield 44, 3) := by decide +kernel
theorem dX5_nextBegin_33 : decode cX5_nextBegin 33 = .ok (.iload_n 3, 1) := by decide +kernel
theorem dX5_nextBegin_34 : decode cX5_nextBegin 34 = .ok (.iaload, 1) := by decide +kernel
theorem dX5_nextBegin_35 : decode cX5_nextBegin 35 = .ok (.invokestatic 82, 3) := by decide +kernel
theorem dX5_nextBegin_38 : decode cX5_nextBegin 38 = .ok (.istore 4, 2) := by decide +kernel
theorem dX5_nextBegin_40 : decode cX5_nextBegin 40 = .ok (.iload_n 1, 1) := by decide +kernel
theorem dX5_nextBegin_41 : decode cX5_nextBegin 41 = .ok (.iconst (-1), 1) := by decide +kernel
theorem dX5_nextBegin_42 : decode cX5_nextBegin 42 = .ok (.if_icmp .eq 9, 3) := by decide +kernel
theorem dX5_nextBegin_45 : decode cX5_nextBegin 45 = .ok (.iload 4, 2) := by decide +kernel
theorem dX5_nextBegin_47 : decode cX5_nextBegin 47 = .ok (.iload_n 1, 1) := by decide +kernel
theorem dX5_nextBegin_48 : decode cX5_nextBegin 48 = .ok (.if_icmp .ge 6, 3) := by decide +kernel
theorem dX5_nextBegin_51 : decode cX5_nextBegin 51 = .ok (.iload 4, 2) := by decide +kernel
theorem dX5_nextBegin_53 : decode cX5_nextBegin 53 = .ok (.istore_n 1, 1) := by decide +kernel
theorem dX5_nextBegin_54 : decode cX5_nextBegin 54 = .ok (.iinc 2 1, 3) := by decide +kernel
theorem dX5_nextBegin_57 : decode cX5_nextBegin 57 = .ok (.goto (-53), 3) := by decide +kernel
theorem dX5_nextBegin_60 : decode cX5_nextBegin 60 = .ok (.iload_n 1, 1) := by decide +kernel
theorem dX5_nextBegin_61 : decode cX5_nextBegin 61 = .ok (.ireturn, 1) := by decide +kernel
theorem dX5_nextLine_0 : decode cX5_nextLine 0 = .ok (.aload_n 0, 1) := by decide +kernel
theorem dX5_nextLine_1 : decode cX5_nextLine 1 = .ok (.getfield 38, 3) := by decide +kernel
theorem dX5_nextLine_4 : decode cX5_nextLine 4 = .ok (.iload_n 1, 1) := by decide +kernel
theorem dX5_nextLine_5 : decode cX5_nextLine 5 = .ok (.iaload, 1) := by decide +kernel
theorem dX5_nextLine_6 : decode cX5_nextLine 6 = .ok (.istore_n 2, 1) := by decide +kernel
theorem dX5_nextLine_7 : decode cX5_nextLine 7 = .ok (.iload_n 2, 1) := by decide +kernel
theorem dX5_nextLine_8 : decode cX5_nextLine 8 = .ok (.aload_n 0, 1) := by decide +kernel
theorem dX5_nextLine_9 : decode cX5_nextLine 9 = .ok (.getfield 35, 3) := by decide +kernel
theorem dX5_nextLine_12 : decode cX5_nextLine 12 = .ok (.iload_n 1, 1) := by decide +kernel
theorem dX5_nextLine_13 : decode cX5_nextLine 13 = .ok (.iaload, 1) := by decide +kernel
theorem dX5_nextLine_14 : decode cX5_nextLine 14 = .ok (.if_icmp .ge 21, 3) := by decide +kernel
theorem dX5_nextLine_17 : decode cX5_nextLine 17 = .ok (.iload_n 2, 1) := by decide +kernel
theorem dX5_nextLine_18 : decode cX5_nextLine 18 = .ok (.iconst 5, 1) := by decide +kernel
theorem dX5_nextLine_19 : decode cX5_nextLine 19 = .ok (.if_icmp .ge 16, 3) := by decide +kernel
theorem dX5_nextLine_22 : decode cX5_nextLine 22 = .ok (.aload_n 0, 1) := by decide +kernel
theorem dX5_nextLine_23 : decode cX5_nextLine 23 = .ok (.getfield 29, 3) := by decide +kernel
theorem dX5_nextLine_26 : decode cX5_nextLine 26 = .ok (.iload_n 1, 1) := by decide +kernel
theorem dX5_nextLine_27 : decode cX5_nextLine 27 = .ok (.iconst 5, 1) := by decide +kernel
theorem dX5_nextLine_28 : decode cX5_nextLine 28 = .ok (.imul, 1) := by decide +kernel
theorem dX5_nextLine_29 : decode cX5_nextLine 29 = .ok (.iload_n 2, 1) := by decide +kernel
theorem dX5_nextLine_30 : decode cX5_nextLine 30 = .ok (.iadd, 1) := by decide +kernel
theorem dX5_nextLine_31 : decode cX5_nextLine 31 = .ok (.iaload, 1) := by decide +kernel
theorem dX5_nextLine_32 : decode cX5_nextLine 32 = .ok (.goto 4, 3) := by decide +kernel
theorem dX5_nextLine_35 : decode cX5_nextLine 35 = .ok (.iconst (-1), 1) := by decide +kernel
theorem dX5_nextLine_36 : decode cX5_nextLine 36 = .ok (.istore_n 3, 1) := by decide +kernel
theorem dX5_nextLine_37 : decode cX5_nextLine 37 = .ok (.aload_n 0, 1) := by decide +kernel
theorem dX5_nextLine_38 : decode cX5_nextLine 38 = .ok (.getfield 47, 3) := by decide +kernel
theorem dX5_nextLine_41 : decode cX5_nextLine 41 = .ok (.iload_n 3, 1) := by decide +kernel
theorem dX5_nextLine_42 : decode cX5_nextLine 42 = .ok (.invokevirtual 87, 3) := by decide +kernel
theorem dX5_nextLine_45 : decode cX5_nextLine 45 = .ok (.ifCond .eq 7, 3) := by decide +kernel
theorem dX5_nextLine_48 : decode cX5_nextLine 48 = .ok (.iload_n 3, 1) := by decide +kernel
theorem dX5_nextLine_49 : decode cX5_nextLine 49 = .ok (.goto 4, 3) := by decide +kernel
theorem dX5_nextLine_52 : decode cX5_nextLine 52 = .ok (.iconst (-1), 1) := by decide +kernel
theorem dX5_nextLine_53 : decode cX5_nextLine 53 = .ok (.ireturn, 1) := by decide +kernel
theorem dX5_chosenFor_0 : decode cX5_chosenFor 0 = .ok (.iconst (-1), 1) := by decide +kernel
theorem dX5_chosenFor_1 : decode cX5_chosenFor 1 = .ok (.istore_n 3, 1) := by decide +kernel
theorem dX5_chosenFor_2 : decode cX5_chosenFor 2 = .ok (.iconst 0, 1) := by decide +kernel
theorem dX5_chosenFor_3 : decode cX5_chosenFor 3 = .ok (.istore 4, 2) := by decide +kernel
theorem dX5_chosenFor_5 : decode cX5_chosenFor 5 = .ok (.iload 4, 2) := by decide +kernel
theorem dX5_chosenFor_7 : decode cX5_chosenFor 7 = .ok (.aload_n 0, 1) := by decide +kernel
theorem dX5_chosenFor_8 : decode cX5_chosenFor 8 = .ok (.getfield 51, 3) := by decide +kernel
theorem dX5_chosenFor_11 : decode cX5_chosenFor 11 = .ok (.if_icmp .ge 48, 3) := by decide +kernel
theorem dX5_chosenFor_14 : decode cX5_chosenFor 14 = .ok (.aload_n 0, 1) := by decide +kernel
theorem dX5_chosenFor_15 : decode cX5_chosenFor 15 = .ok (.iload 4, 2) := by decide +kernel
theorem dX5_chosenFor_17 : decode cX5_chosenFor 17 = .ok (.invokevirtual 79, 3) := by decide +kernel
theorem dX5_chosenFor_20 : decode cX5_chosenFor 20 = .ok (.iload_n 1, 1) := by decide +kernel
theorem dX5_chosenFor_21 : decode cX5_chosenFor 21 = .ok (.if_icmp .ne 32, 3) := by decide +kernel
theorem dX5_chosenFor_24 : decode cX5_chosenFor 24 = .ok (.aload_n 0, 1) := by decide +kernel
theorem dX5_chosenFor_25 : decode cX5_chosenFor 25 = .ok (.getfield 41, 3) := by decide +kernel
theorem dX5_chosenFor_28 : decode cX5_chosenFor 28 = .ok (.iload 4, 2) := by decide +kernel
theorem dX5_chosenFor_30 : decode cX5_chosenFor 30 = .ok (.iaload, 1) := by decide +kernel
theorem dX5_chosenFor_31 : decode cX5_chosenFor 31 = .ok (.iload_n 2, 1) := by decide +kernel
theorem dX5_chosenFor_32 : decode cX5_chosenFor 32 = .ok (.if_icmp .gt 21, 3) := by decide +kernel
theorem dX5_chosenFor_35 : decode cX5_chosenFor 35 = .ok (.iload_n 3, 1) := by decide +kernel
theorem dX5_chosenFor_36 : decode cX5_chosenFor 36 = .ok (.iconst (-1), 1) := by decide +kernel
theorem dX5_chosenFor_37 : decode cX5_chosenFor 37 = .ok (.if_icmp .eq 13, 3) := by decide +kernel
theorem dX5_chosenFor_40 : decode cX5_chosenFor 40 = .ok (.aload_n 0, 1) := by decide +kernel
theorem dX5_chosenFor_41 : decode cX5_chosenFor 41 = .ok (.iload 4, 2) := by decide +kernel
theorem dX5_chosenFor_43 : decode cX5_chosenFor 43 = .ok (.iload_n 3, 1) := by decide +kernel
theorem dX5_chosenFor_44 : decode cX5_chosenFor 44 = .ok (.invokevirtual 91, 3) := by decide +kernel
theorem dX5_chosenFor_47 : decode cX5_chosenFor 47 = .ok (.ifCond .eq 6, 3) := by decide +kernel
theorem dX5_chosenFor_50 : decode cX5_chosenFor 50 = .ok (.iload 4, 2) := by decide +kernel
theorem dX5_chosenFor_52 : decode cX5_chosenFor 52 = .ok (.istore_n 3, 1) := by decide +kernel
theorem dX5_chosenFor_53 : decode cX5_chosenFor 53 = .ok (.iinc 4 1, 3) := by decide +kernel
theorem dX5_chosenFor_56 : decode cX5_chosenFor 56 = .ok (.goto (-51), 3) := by decide +kernel
theorem dX5_chosenFor_59 : decode cX5_chosenFor 59 = .ok (.iload_n 3, 1) := by decide +kernel
theorem dX5_chosenFor_60 : decode cX5_chosenFor 60 = .ok (.ireturn, 1) := by decide +kernel
theorem dX5_goesAhead_0 : decode cX5_goesAhead 0 = .ok (.aload_n 0, 1) := by decide +kernel
theorem dX5_goesAhead_1 : decode cX5_goesAhead 1 = .ok (.getfield 26, 3) := by decide +kernel
theorem dX5_goesAhead_4 : decode cX5_goesAhead 4 = .ok (.iload_n 1, 1) := by decide +kernel
theorem dX5_goesAhead_5 : decode cX5_goesAhead 5 = .ok (.iaload, 1) := by decide +kernel
theorem dX5_goesAhead_6 : decode cX5_goesAhead 6 = .ok (.aload_n 0, 1) := by decide +kernel
theorem dX5_goesAhead_7 : decode cX5_goesAhead 7 = .ok (.getfield 26, 3) := by decide +kernel
theorem dX5_goesAhead_10 : decode cX5_goesAhead 10 = .ok (.iload_n 2, 1) := by decide +kernel
theorem dX5_goesAhead_11 : decode cX5_goesAhead 11 = .ok (.iaload, 1) := by decide +kernel
theorem dX5_goesAhead_12 : decode cX5_goesAhead 12 = .ok (.if_icmp .eq 24, 3) := by decide +kernel
theorem dX5_goesAhead_15 : decode cX5_goesAhead 15 = .ok (.aload_n 0, 1) := by decide +kernel
theorem dX5_goesAhead_16 : decode cX5_goesAhead 16 = .ok (.getfield 26, 3) := by decide +kernel
theorem dX5_goesAhead_19 : decode cX5_goesAhead 19 = .ok (.iload_n 1, 1) := by decide +kernel
theorem dX5_goesAhead_20 : decode cX5_goesAhead 20 = .ok (.iaload, 1) := by decide +kernel
theorem dX5_goesAhead_21 : decode cX5_goesAhead 21 = .ok (.aload_n 0, 1) := by decide +kernel
theorem dX5_goesAhead_22 : decode cX5_goesAhead 22 = .ok (.getfield 26, 3) := by decide +kernel
theorem dX5_goesAhead_25 : decode cX5_goesAhead 25 = .ok (.iload_n 2, 1) := by decide +kernel
theorem dX5_goesAhead_26 : decode cX5_goesAhead 26 = .ok (.iaload, 1) := by decide +kernel
theorem dX5_goesAhead_27 : decode cX5_goesAhead 27 = .ok (.if_icmp .le 7, 3) := by decide +kernel
theorem dX5_goesAhead_30 : decode cX5_goesAhead 30 = .ok (.iconst 1, 1) := by decide +kernel
theorem dX5_goesAhead_31 : decode cX5_goesAhead 31 = .ok (.goto 4, 3) := by decide +kernel
theorem dX5_goesAhead_34 : decode cX5_goesAhead 34 = .ok (.iconst 0, 1) := by decide +kernel
theorem dX5_goesAhead_35 : decode cX5_goesAhead 35 = .ok (.ireturn, 1) := by decide +kernel
theorem dX5_goesAhead_36 : decode cX5_goesAhead 36 = .ok (.aload_n 0, 1) := by decide +kernel
theorem dX5_goesAhead_37 : decode cX5_goesAhead 37 = .ok (.getfield 41, 3) := by decide +kernel
theorem dX5_goesAhead_40 : decode cX5_goesAhead 40 = .ok (.iload_n 1, 1) := by decide +kernel
theorem dX5_goesAhead_41 : decode cX5_goesAhead 41 = .ok (.iaload, 1) := by decide +kernel
theorem dX5_goesAhead_42 : decode cX5_goesAhead 42 = .ok (.aload_n 0, 1) := by decide +kernel
theorem dX5_goesAhead_43 : decode cX5_goesAhead 43 = .ok (.getfield 41, 3) := by decide +kernel
theorem dX5_goesAhead_46 : decode cX5_goesAhead 46 = .ok (.iload_n 2, 1) := by decide +kernel
theorem dX5_goesAhead_47 : decode cX5_goesAhead 47 = .ok (.iaload, 1) := by decide +kernel
theorem dX5_goesAhead_48 : decode cX5_goesAhead 48 = .ok (.if_icmp .ge 7, 3) := by decide +kernel
theorem dX5_goesAhead_51 : decode cX5_goesAhead 51 = .ok (.iconst 1, 1) := by decide +kernel
theorem dX5_goesAhead_52 : decode cX5_goesAhead 52 = .ok (.goto 4, 3) := by decide +kernel
theorem dX5_goesAhead_55 : decode cX5_goesAhead 55 = .ok (.iconst 0, 1) := by decide +kernel
theorem dX5_goesAhead_56 : decode cX5_goesAhead 56 = .ok (.ireturn, 1) := by decide +kernel
theorem dX5_begin_0 : decode cX5_begin 0 = .ok (.aload_n 0, 1) := by decide +kernel
theorem dX5_begin_1 : decode cX5_begin 1 = .ok (.getfield 32, 3) := by decide +kernel
theorem dX5_begin_4 : decode cX5_begin 4 = .ok (.iload_n 1, 1) := by decide +kernel
theorem dX5_begin_5 : decode cX5_begin 5 = .ok (.iconst 5, 1) := by decide +kernel
theorem dX5_begin_6 : decode cX5_begin 6 = .ok (.imul, 1) := by decide +kernel
theorem dX5_begin_7 : decode cX5_begin 7 = .ok (.aload_n 0, 1) := by decide +kernel
theorem dX5_begin_8 : decode cX5_begin 8 = .ok (.getfield 38, 3) := by decide +kernel
theorem dX5_begin_11 : decode cX5_begin 11 = .ok (.iload_n 1, 1) := by decide +kernel
theorem dX5_begin_12 : decode cX5_begin 12 = .ok (.iaload, 1) := by decide +kernel
theorem dX5_begin_13 : decode cX5_begin 13 = .ok (.iadd, 1) := by decide +kernel
theorem dX5_begin_14 : decode cX5_begin 14 = .ok (.iload_n 3, 1) := by decide +kernel
theorem dX5_begin_15 : decode cX5_begin 15 = .ok (.iastore, 1) := by decide +kernel
theorem dX5_begin_16 : decode cX5_begin 16 = .ok (.aload_n 0, 1) := by decide +kernel
theorem dX5_begin_17 : decode cX5_begin 17 = .ok (.getfield 38, 3) := by decide +kernel
theorem dX5_begin_20 : decode cX5_begin 20 = .ok (.iload_n 1, 1) := by decide +kernel
theorem dX5_begin_21 : decode cX5_begin 21 = .ok (.dup2, 1) := by decide +kernel
theorem dX5_begin_22 : decode cX5_begin 22 = .ok (.iaload, 1) := by decide +kernel
theorem dX5_begin_23 : decode cX5_begin 23 = .ok (.iconst 1, 1) := by decide +kernel
theorem dX5_begin_24 : decode cX5_begin 24 = .ok (.iadd, 1) := by decide +kernel
theorem dX5_begin_25 : decode cX5_begin 25 = .ok (.iastore, 1) := by decide +kernel
theorem dX5_begin_26 : decode cX5_begin 26 = .ok (.aload_n 0, 1) := by decide +kernel
theorem dX5_begin_27 : decode cX5_begin 27 = .ok (.getfield 41, 3) := by decide +kernel
theorem dX5_begin_30 : decode cX5_begin 30 = .ok (.iload_n 1, 1) := by decide +kernel
theorem dX5_begin_31 : decode cX5_begin 31 = .ok (.iload_n 3, 1) := by decide +kernel
theorem dX5_begin_32 : decode cX5_begin 32 = .ok (.aload_n 0, 1) := by decide +kernel
theorem dX5_begin_33 : decode cX5_begin 33 = .ok (.getfield 23, 3) := by decide +kernel
theorem dX5_begin_36 : decode cX5_begin 36 = .ok (.iload_n 1, 1) := by decide +kernel
theorem dX5_begin_37 : decode cX5_begin 37 = .ok (.iaload, 1) := by decide +kernel
theorem dX5_begin_38 : decode cX5_begin 38 = .ok (.iadd, 1) := by decide +kernel
theorem dX5_begin_39 : decode cX5_begin 39 = .ok (.iastore, 1) := by decide +kernel
theorem dX5_begin_40 : decode cX5_begin 40 = .ok (.aload_n 0, 1) := by decide +kernel
theorem dX5_begin_41 : decode cX5_begin 41 = .ok (.getfield 44, 3) := by decide +kernel
theorem dX5_begin_44 : decode cX5_begin 44 = .ok (.iload_n 2, 1) := by decide +kernel
theorem dX5_begin_45 : decode cX5_begin 45 = .ok (.iload_n 3, 1) := by decide +kernel
theorem dX5_begin_46 : decode cX5_begin 46 = .ok (.aload_n 0, 1) := by decide +kernel
theorem dX5_begin_47 : decode cX5_begin 47 = .ok (.getfield 23, 3) := by decide +kernel
theorem dX5_begin_50 : decode cX5_begin 50 = .ok (.iload_n 1, 1) := by decide +kernel
theorem dX5_begin_51 : decode cX5_begin 51 = .ok (.iaload, 1) := by decide +kernel
theorem dX5_begin_52 : decode cX5_begin 52 = .ok (.iadd, 1) := by decide +kernel
theorem dX5_begin_53 : decode cX5_begin 53 = .ok (.iastore, 1) := by decide +kernel
theorem dX5_begin_54 : decode cX5_begin 54 = .ok (.return_, 1) := by decide +kernel
theorem dX5_arrivalOf_0 : decode cX5_arrivalOf 0 = .ok (.aload_n 0, 1) := by decide +kernel
theorem dX5_arrivalOf_1 : decode cX5_arrivalOf 1 = .ok (.iload_n 1, 1) := by decide +kernel
theorem dX5_arrivalOf_2 : decode cX5_arrivalOf 2 = .ok (.invokevirtual 95, 3) := by decide +kernel
theorem dX5_arrivalOf_5 : decode cX5_arrivalOf 5 = .ok (.ifCond .eq 12, 3) := by decide +kernel
theorem dX5_arrivalOf_8 : decode cX5_arrivalOf 8 = .ok (.aload_n 0, 1) := by decide +kernel
theorem dX5_arrivalOf_9 : decode cX5_arrivalOf 9 = .ok (.getfield 41, 3) := by decide +kernel
theorem dX5_arrivalOf_12 : decode cX5_arrivalOf 12 = .ok (.iload_n 1, 1) := by decide +kernel
theorem dX5_arrivalOf_13 : decode cX5_arrivalOf 13 = .ok (.iaload, 1) := by decide +kernel
theorem dX5_arrivalOf_14 : decode cX5_arrivalOf 14 = .ok (.goto 4, 3) := by decide +kernel
theorem dX5_arrivalOf_17 : decode cX5_arrivalOf 17 = .ok (.iconst (-1), 1) := by decide +kernel
theorem dX5_arrivalOf_18 : decode cX5_arrivalOf 18 = .ok (.ireturn, 1) := by decide +kernel
theorem dX5_waitOf_0 : decode cX5_waitOf 0 = .ok (.aload_n 0, 1) := by decide +kernel
theorem dX5_waitOf_1 : decode cX5_waitOf 1 = .ok (.iload_n 1, 1) := by decide +kernel
theorem dX5_waitOf_2 : decode cX5_waitOf 2 = .ok (.invokevirtual 95, 3) := by decide +kernel
theorem dX5_waitOf_5 : decode cX5_waitOf 5 = .ok (.ifCond .ne 5, 3) := by decide +kernel
theorem dX5_waitOf_8 : decode cX5_waitOf 8 = .ok (.iconst (-1), 1) := by decide +kernel
theorem dX5_waitOf_9 : decode cX5_waitOf 9 = .ok (.ireturn, 1) := by decide +kernel
theorem dX5_waitOf_10 : decode cX5_waitOf 10 = .ok (.aload_n 0, 1) := by decide +kernel
theorem dX5_waitOf_11 : decode cX5_waitOf 11 = .ok (.getfield 41, 3) := by decide +kernel
theorem dX5_waitOf_14 : decode cX5_waitOf 14 = .ok (.iload_n 1, 1) := by decide +kernel
theorem dX5_waitOf_15 : decode cX5_waitOf 15 = .ok (.iaload, 1) := by decide +kernel
theorem dX5_waitOf_16 : decode cX5_waitOf 16 = .ok (.aload_n 0, 1) := by decide +kernel
theorem dX5_waitOf_17 : decode cX5_waitOf 17 = .ok (.getfield 20, 3) := by decide +kernel
theorem dX5_waitOf_20 : decode cX5_waitOf 20 = .ok (.iload_n 1, 1) := by decide +kernel
theorem dX5_waitOf_21 : decode cX5_waitOf 21 = .ok (.iaload, 1) := by decide +kernel
theorem dX5_waitOf_22 : decode cX5_waitOf 22 = .ok (.isub, 1) := by decide +kernel
theorem dX5_waitOf_23 : decode cX5_waitOf 23 = .ok (.aload_n 0, 1) := by decide +kernel
theorem dX5_waitOf_24 : decode cX5_waitOf 24 = .ok (.getfield 38, 3) := by decide +kernel
theorem dX5_waitOf_27 : decode cX5_waitOf 27 = .ok (.iload_n 1, 1) := by decide +kernel
theorem dX5_waitOf_28 : decode cX5_waitOf 28 = .ok (.iaload, 1) := by decide +kernel
theorem dX5_waitOf_29 : decode cX5_waitOf 29 = .ok (.aload_n 0, 1) := by decide +kernel
theorem dX5_waitOf_30 : decode cX5_waitOf 30 = .ok (.getfield 23, 3) := by decide +kernel
theorem dX5_waitOf_33 : decode cX5_waitOf 33 = .ok (.iload_n 1, 1) := by decide +kernel
theorem dX5_waitOf_34 : decode cX5_waitOf 34 = .ok (.iaload, 1) := by decide +kernel
theorem dX5_waitOf_35 : decode cX5_waitOf 35 = .ok (.imul, 1) := by decide +kernel
theorem dX5_waitOf_36 : decode cX5_waitOf 36 = .ok (.isub, 1) := by decide +kernel
theorem dX5_waitOf_37 : decode cX5_waitOf 37 = .ok (.ireturn, 1) := by decide +kernel
theorem dX5_whereIs_0 : decode cX5_whereIs 0 = .ok (.aload_n 0, 1) := by decide +kernel
theorem dX5_whereIs_1 : decode cX5_whereIs 1 = .ok (.iload_n 1, 1) := by decide +kernel
theorem dX5_whereIs_2 : decode cX5_whereIs 2 = .ok (.invokevirtual 95, 3) := by decide +kernel
theorem dX5_whereIs_5 : decode cX5_whereIs 5 = .ok (.ifCond .eq 13, 3) := by decide +kernel
theorem dX5_whereIs_8 : decode cX5_whereIs 8 = .ok (.iload_n 2, 1) := by decide +kernel
theorem dX5_whereIs_9 : decode cX5_whereIs 9 = .ok (.aload_n 0, 1) := by decide +kernel
theorem dX5_whereIs_10 : decode cX5_whereIs 10 = .ok (.getfield 20, 3) := by decide +kernel
theorem dX5_whereIs_13 : decode cX5_whereIs 13 = .ok (.iload_n 1, 1) := by decide +kernel
theorem dX5_whereIs_14 : decode cX5_whereIs 14 = .ok (.iaload, 1) := by decide +kernel
theorem dX5_whereIs_15 : decode cX5_whereIs 15 = .ok (.if_icmp .ge 5, 3) := by decide +kernel
theorem dX5_whereIs_18 : decode cX5_whereIs 18 = .ok (.iconst (-1), 1) := by decide +kernel
theorem dX5_whereIs_19 : decode cX5_whereIs 19 = .ok (.ireturn, 1) := by decide +kernel
theorem dX5_whereIs_20 : decode cX5_whereIs 20 = .ok (.aload_n 0, 1) := by decide +kernel
theorem dX5_whereIs_21 : decode cX5_whereIs 21 = .ok (.getfield 13, 3) := by decide +kernel
theorem dX5_whereIs_24 : decode cX5_whereIs 24 = .ok (.iload_n 1, 1) := by decide +kernel
theorem dX5_whereIs_25 : decode cX5_whereIs 25 = .ok (.iaload, 1) := by decide +kernel
theorem dX5_whereIs_26 : decode cX5_whereIs 26 = .ok (.istore_n 3, 1) := by decide +kernel
theorem dX5_whereIs_27 : decode cX5_whereIs 27 = .ok (.iconst 0, 1) := by decide +kernel
theorem dX5_whereIs_28 : decode cX5_whereIs 28 = .ok (.istore 4, 2) := by decide +kernel
theorem dX5_whereIs_30 : decode cX5_whereIs 30 = .ok (.iload 4, 2) := by decide +kernel
theorem dX5_whereIs_32 : decode cX5_whereIs 32 = .ok (.aload_n 0, 1) := by decide +kernel
theorem dX5_whereIs_33 : decode cX5_whereIs 33 = .ok (.getfield 38, 3) := by decide +kernel
theorem dX5_whereIs_36 : decode cX5_whereIs 36 = .ok (.iload_n 1, 1) := by decide +kernel
theorem dX5_whereIs_37 : decode cX5_whereIs 37 = .ok (.iaload, 1) := by decide +kernel
theorem dX5_whereIs_38 : decode cX5_whereIs 38 = .ok (.if_icmp .ge 78, 3) := by decide +kernel
theorem dX5_whereIs_41 : decode cX5_whereIs 41 = .ok (.iload 4, 2) := by decide +kernel
theorem dX5_whereIs_43 : decode cX5_whereIs 43 = .ok (.iconst 5, 1) := by decide +kernel
theorem dX5_whereIs_44 : decode cX5_whereIs 44 = .ok (.if_icmp .ge 72, 3) := by decide +kernel
theorem dX5_whereIs_47 : decode cX5_whereIs 47 = .ok (.aload_n 0, 1) := by decide +kernel
theorem dX5_whereIs_48 : decode cX5_whereIs 48 = .ok (.getfield 29, 3) := by decide +kernel
theorem dX5_whereIs_51 : decode cX5_whereIs 51 = .ok (.iload_n 1, 1) := by decide +kernel
theorem dX5_whereIs_52 : decode cX5_whereIs 52 = .ok (.iconst 5, 1) := by decide +kernel
theorem dX5_whereIs_53 : decode cX5_whereIs 53 = .ok (.imul, 1) := by decide +kernel
theorem dX5_whereIs_54 : decode cX5_whereIs 54 = .ok (.iload 4, 2) := by decide +kernel
theorem dX5_whereIs_56 : decode cX5_whereIs 56 = .ok (.iadd, 1) := by decide +kernel
theorem dX5_whereIs_57 : decode cX5_whereIs 57 = .ok (.iaload, 1) := by decide +kernel
theorem dX5_whereIs_58 : decode cX5_whereIs 58 = .ok (.istore 5, 2) := by decide +kernel
theorem dX5_whereIs_60 : decode cX5_whereIs 60 = .ok (.aload_n 0, 1) := by decide +kernel
theorem dX5_whereIs_61 : decode cX5_whereIs 61 = .ok (.getfield 32, 3) := by decide +kernel
theorem dX5_whereIs_64 : decode cX5_whereIs 64 = .ok (.iload_n 1, 1) := by decide +kernel
theorem dX5_whereIs_65 : decode cX5_whereIs 65 = .ok (.iconst 5, 1) := by decide +kernel
theorem dX5_whereIs_66 : decode cX5_whereIs 66 = .ok (.imul, 1) := by decide +kernel
theorem dX5_whereIs_67 : decode cX5_whereIs 67 = .ok (.iload 4, 2) := by decide +kernel
theorem dX5_whereIs_69 : decode cX5_whereIs 69 = .ok (.iadd, 1) := by decide +kernel
theorem dX5_whereIs_70 : decode cX5_whereIs 70 = .ok (.iaload, 1) := by decide +kernel
theorem dX5_whereIs_71 : decode cX5_whereIs 71 = .ok (.istore 6, 2) := by decide +kernel
theorem dX5_whereIs_73 : decode cX5_whereIs 73 = .ok (.iload_n 2, 1) := by decide +kernel
theorem dX5_whereIs_74 : decode cX5_whereIs 74 = .ok (.iload 6, 2) := by decide +kernel
theorem dX5_whereIs_76 : decode cX5_whereIs 76 = .ok (.if_icmp .ge 5, 3) := by decide +kernel
theorem dX5_whereIs_79 : decode cX5_whereIs 79 = .ok (.iload_n 3, 1) := by decide +kernel
theorem dX5_whereIs_80 : decode cX5_whereIs 80 = .ok (.ireturn, 1) := by decide +kernel
theorem dX5_whereIs_81 : decode cX5_whereIs 81 = .ok (.iload_n 2, 1) := by decide +kernel
theorem dX5_whereIs_82 : decode cX5_whereIs 82 = .ok (.iload 6, 2) := by decide +kernel
theorem dX5_whereIs_84 : decode cX5_whereIs 84 = .ok (.aload_n 0, 1) := by decide +kernel
theorem dX5_whereIs_85 : decode cX5_whereIs 85 = .ok (.getfield 23, 3) := by decide +kernel
theorem dX5_whereIs_88 : decode cX5_whereIs 88 = .ok (.iload_n 1, 1) := by decide +kernel
theorem dX5_whereIs_89 : decode cX5_whereIs 89 = .ok (.iaload, 1) := by decide +kernel
theorem dX5_whereIs_90 : decode cX5_whereIs 90 = .ok (.iadd, 1) := by decide +kernel
theorem dX5_whereIs_91 : decode cX5_whereIs 91 = .ok (.if_icmp .ge 9, 3) := by decide +kernel
theorem dX5_whereIs_94 : decode cX5_whereIs 94 = .ok (.bipush 10, 2) := by decide +kernel
theorem dX5_whereIs_96 : decode cX5_whereIs 96 = .ok (.iload 5, 2) := by decide +kernel
theorem dX5_whereIs_98 : decode cX5_whereIs 98 = .ok (.iadd, 1) := by decide +kernel
theorem dX5_whereIs_99 : decode cX5_whereIs 99 = .ok (.ireturn, 1) := by decide +kernel
theorem dX5_whereIs_100 : decode cX5_whereIs 100 = .ok (.aload_n 0, 1) := by decide +kernel
theorem dX5_whereIs_101 : decode cX5_whereIs 101 = .ok (.getfield 47, 3) := by decide +kernel
theorem dX5_whereIs_104 : decode cX5_whereIs 104 = .ok (.iload 5, 2) := by decide +kernel
theorem dX5_whereIs_106 : decode cX5_whereIs 106 = .ok (.invokevirtual 96, 3) := by decide +kernel
theorem dX5_whereIs_109 : decode cX5_whereIs 109 = .ok (.istore_n 3, 1) := by decide +kernel
theorem dX5_whereIs_110 : decode cX5_whereIs 110 = .ok (.iinc 4 1, 3) := by decide +kernel
theorem dX5_whereIs_113 : decode cX5_whereIs 113 = .ok (.goto (-83), 3) := by decide +kernel
theorem dX5_whereIs_116 : decode cX5_whereIs 116 = .ok (.iload_n 3, 1) := by decide +kernel
theorem dX5_whereIs_117 : decode cX5_whereIs 117 = .ok (.ireturn, 1) := by decide +kernel
theorem dX5_kthHeard_0 : decode cX5_kthHeard 0 = .ok (.iconst 0, 1) := by decide +kernel
theorem dX5_kthHeard_1 : decode cX5_kthHeard 1 = .ok (.istore_n 3, 1) := by decide +kernel
theorem dX5_kthHeard_2 : decode cX5_kthHeard 2 = .ok (.iconst (-1), 1) := by decide +kernel
theorem dX5_kthHeard_3 : decode cX5_kthHeard 3 = .ok (.istore 4, 2) := by decide +kernel
theorem dX5_kthHeard_5 : decode cX5_kthHeard 5 = .ok (.iconst 0, 1) := by decide +kernel
theorem dX5_kthHeard_6 : decode cX5_kthHeard 6 = .ok (.istore 5, 2) := by decide +kernel
theorem dX5_kthHeard_8 : decode cX5_kthHeard 8 = .ok (.iload 5, 2) := by decide +kernel
theorem dX5_kthHeard_10 : decode cX5_kthHeard 10 = .ok (.bipush 20, 2) := by decide +kernel
theorem dX5_kthHeard_12 : decode cX5_kthHeard 12 = .ok (.if_icmp .ge 55, 3) := by decide +kernel
theorem dX5_kthHeard_15 : decode cX5_kthHeard 15 = .ok (.aload_n 0, 1) := by decide +kernel
theorem dX5_kthHeard_16 : decode cX5_kthHeard 16 = .ok (.iload_n 1, 1) := by decide +kernel
theorem dX5_kthHeard_17 : decode cX5_kthHeard 17 = .ok (.iload 4, 2) := by decide +kernel
theorem dX5_kthHeard_19 : decode cX5_kthHeard 19 = .ok (.invokevirtual 99, 3) := by decide +kernel
theorem dX5_kthHeard_22 : decode cX5_kthHeard 22 = .ok (.istore 6, 2) := by decide +kernel
theorem dX5_kthHeard_24 : decode cX5_kthHeard 24 = .ok (.iload 6, 2) := by decide +kernel
theorem dX5_kthHeard_26 : decode cX5_kthHeard 26 = .ok (.iconst (-1), 1) := by decide +kernel
theorem dX5_kthHeard_27 : decode cX5_kthHeard 27 = .ok (.if_icmp .ne 14, 3) := by decide +kernel
theorem dX5_kthHeard_30 : decode cX5_kthHeard 30 = .ok (.iload_n 2, 1) := by decide +kernel
theorem dX5_kthHeard_31 : decode cX5_kthHeard 31 = .ok (.iconst (-1), 1) := by decide +kernel
theorem dX5_kthHeard_32 : decode cX5_kthHeard 32 = .ok (.if_icmp .ne 7, 3) := by decide +kernel
theorem dX5_kthHeard_35 : decode cX5_kthHeard 35 = .ok (.iload_n 3, 1) := by decide +kernel
theorem dX5_kthHeard_36 : decode cX5_kthHeard 36 = .ok (.goto 4, 3) := by decide +kernel
theorem dX5_kthHeard_39 : decode cX5_kthHeard 39 = .ok (.iconst (-1), 1) := by decide +kernel
theorem dX5_kthHeard_40 : decode cX5_kthHeard 40 = .ok (.ireturn, 1) := by decide +kernel
theorem dX5_kthHeard_41 : decode cX5_kthHeard 41 = .ok (.iload_n 3, 1) := by decide +kernel
theorem dX5_kthHeard_42 : decode cX5_kthHeard 42 = .ok (.iload_n 2, 1) := by decide +kernel
theorem dX5_kthHeard_43 : decode cX5_kthHeard 43 = .ok (.if_icmp .ne 6, 3) := by decide +kernel
theorem dX5_kthHeard_46 : decode cX5_kthHeard 46 = .ok (.iload 6, 2) := by decide +kernel
theorem dX5_kthHeard_48 : decode cX5_kthHeard 48 = .ok (.ireturn, 1) := by decide +kernel
theorem dX5_kthHeard_49 : decode cX5_kthHeard 49 = .ok (.iinc 3 1, 3) := by decide +kernel
theorem dX5_kthHeard_52 : decode cX5_kthHeard 52 = .ok (.aload_n 0, 1) := by decide +kernel
theorem dX5_kthHeard_53 : decode cX5_kthHeard 53 = .ok (.iload_n 1, 1) := by decide +kernel
theorem dX5_kthHeard_54 : decode cX5_kthHeard 54 = .ok (.iload 6, 2) := by decide +kernel
theorem dX5_kthHeard_56 : decode cX5_kthHeard 56 = .ok (.invokevirtual 102, 3) := by decide +kernel
theorem dX5_kthHeard_59 : decode cX5_kthHeard 59 = .ok (.istore 4, 2) := by decide +kernel
theorem dX5_kthHeard_61 : decode cX5_kthHeard 61 = .ok (.iinc 5 1, 3) := by decide +kernel
theorem dX5_kthHeard_64 : decode cX5_kthHeard 64 = .ok (.goto (-56), 3) := by decide +kernel
theorem dX5_kthHeard_67 : decode cX5_kthHeard 67 = .ok (.iload_n 2, 1) := by decide +kernel
theorem dX5_kthHeard_68 : decode cX5_kthHeard 68 = .ok (.iconst (-1), 1) := by decide +kernel
theorem dX5_kthHeard_69 : decode cX5_kthHeard 69 = .ok (.if_icmp .ne 7, 3) := by decide +kernel
theorem dX5_kthHeard_72 : decode cX5_kthHeard 72 = .ok (.iload_n 3, 1) := by decide +kernel
theorem dX5_kthHeard_73 : decode cX5_kthHeard 73 = .ok (.goto 4, 3) := by decide +kernel
theorem dX5_kthHeard_76 : decode cX5_kthHeard 76 = .ok (.iconst (-1), 1) := by decide +kernel
theorem dX5_kthHeard_77 : decode cX5_kthHeard 77 = .ok (.ireturn, 1) := by decide +kernel
theorem dX5_nextHeard_0 : decode cX5_nextHeard 0 = .ok (.iconst (-1), 1) := by decide +kernel
theorem dX5_nextHeard_1 : decode cX5_nextHeard 1 = .ok (.istore_n 3, 1) := by decide +kernel
theorem dX5_nextHeard_2 : decode cX5_nextHeard 2 = .ok (.iconst (-1), 1) := by decide +kernel
theorem dX5_nextHeard_3 : decode cX5_nextHeard 3 = .ok (.istore 4, 2) := by decide +kernel
theorem dX5_nextHeard_5 : decode cX5_nextHeard 5 = .ok (.iconst 0, 1) := by decide +kernel
theorem dX5_nextHeard_6 : decode cX5_nextHeard 6 = .ok (.istore 5, 2) := by decide +kernel
theorem dX5_nextHeard_8 : decode cX5_nextHeard 8 = .ok (.iload 5, 2) := by decide +kernel
theorem dX5_nextHeard_10 : decode cX5_nextHeard 10 = .ok (.aload_n 0, 1) := by decide +kernel
theorem dX5_nextHeard_11 : decode cX5_nextHeard 11 = .ok (.getfield 51, 3) := by decide +kernel
theorem dX5_nextHeard_14 : decode cX5_nextHeard 14 = .ok (.if_icmp .ge 43, 3) := by decide +kernel
theorem dX5_nextHeard_17 : decode cX5_nextHeard 17 = .ok (.aload_n 0, 1) := by decide +kernel
theorem dX5_nextHeard_18 : decode cX5_nextHeard 18 = .ok (.iload_n 1, 1) := by decide +kernel
theorem dX5_nextHeard_19 : decode cX5_nextHeard 19 = .ok (.iload 5, 2) := by decide +kernel
theorem dX5_nextHeard_21 : decode cX5_nextHeard 21 = .ok (.invokevirtual 102, 3) := by decide +kernel
theorem dX5_nextHeard_24 : decode cX5_nextHeard 24 = .ok (.istore 6, 2) := by decide +kernel
theorem dX5_nextHeard_26 : decode cX5_nextHeard 26 = .ok (.iload 6, 2) := by decide +kernel
theorem dX5_nextHeard_28 : decode cX5_nextHeard 28 = .ok (.iload_n 2, 1) := by decide +kernel
theorem dX5_nextHeard_29 : decode cX5_nextHeard 29 = .ok (.if_icmp .le 22, 3) := by decide +kernel
theorem dX5_nextHeard_32 : decode cX5_nextHeard 32 = .ok (.iload_n 3, 1) := by decide +kernel
theorem dX5_nextHeard_33 : decode cX5_nextHeard 33 = .ok (.iconst (-1), 1) := by decide +kernel
theorem dX5_nextHeard_34 : decode cX5_nextHeard 34 = .ok (.if_icmp .eq 10, 3) := by decide +kernel
theorem dX5_nextHeard_37 : decode cX5_nextHeard 37 = .ok (.iload 6, 2) := by decide +kernel
theorem dX5_nextHeard_39 : decode cX5_nextHeard 39 = .ok (.iload 4, 2) := by decide +kernel
theorem dX5_nextHeard_41 : decode cX5_nextHeard 41 = .ok (.if_icmp .ge 10, 3) := by decide +kernel
theorem dX5_nextHeard_44 : decode cX5_nextHeard 44 = .ok (.iload 5, 2) := by decide +kernel
theorem dX5_nextHeard_46 : decode cX5_nextHeard 46 = .ok (.istore_n 3, 1) := by decide +kernel
theorem dX5_nextHeard_47 : decode cX5_nextHeard 47 = .ok (.iload 6, 2) := by decide +kernel
theorem dX5_nextHeard_49 : decode cX5_nextHeard 49 = .ok (.istore 4, 2) := by decide +kernel
theorem dX5_nextHeard_51 : decode cX5_nextHeard 51 = .ok (.iinc 5 1, 3) := by decide +kernel
theorem dX5_nextHeard_54 : decode cX5_nextHeard 54 = .ok (.goto (-46), 3) := by decide +kernel
theorem dX5_nextHeard_57 : decode cX5_nextHeard 57 = .ok (.iload_n 3, 1) := by decide +kernel
theorem dX5_nextHeard_58 : decode cX5_nextHeard 58 = .ok (.ireturn, 1) := by decide +kernel
theorem dX5_beginOn_0 : decode cX5_beginOn 0 = .ok (.iconst 0, 1) := by decide +kernel
theorem dX5_beginOn_1 : decode cX5_beginOn 1 = .ok (.istore_n 3, 1) := by decide +kernel
theorem dX5_beginOn_2 : decode cX5_beginOn 2 = .ok (.iload_n 3, 1) := by decide +kernel
theorem dX5_beginOn_3 : decode cX5_beginOn 3 = .ok (.aload_n 0, 1) := by decide +kernel
theorem dX5_beginOn_4 : decode cX5_beginOn 4 = .ok (.getfield 38, 3) := by decide +kernel
theorem dX5_beginOn_7 : decode cX5_beginOn 7 = .ok (.iload_n 2, 1) := by decide +kernel
theorem dX5_beginOn_8 : decode cX5_beginOn 8 = .ok (.iaload, 1) := by decide +kernel
theorem dX5_beginOn_9 : decode cX5_beginOn 9 = .ok (.if_icmp .ge 39, 3) := by decide +kernel
theorem dX5_beginOn_12 : decode cX5_beginOn 12 = .ok (.iload_n 3, 1) := by decide +kernel
theorem dX5_beginOn_13 : decode cX5_beginOn 13 = .ok (.iconst 5, 1) := by decide +kernel
theorem dX5_beginOn_14 : decode cX5_beginOn 14 = .ok (.if_icmp .ge 34, 3) := by decide +kernel
theorem dX5_beginOn_17 : decode cX5_beginOn 17 = .ok (.aload_n 0, 1) := by decide +kernel
theorem dX5_beginOn_18 : decode cX5_beginOn 18 = .ok (.getfield 29, 3) := by decide +kernel
theorem dX5_beginOn_21 : decode cX5_beginOn 21 = .ok (.iload_n 2, 1) := by decide +kernel
theorem dX5_beginOn_22 : decode cX5_beginOn 22 = .ok (.iconst 5, 1) := by decide +kernel
theorem dX5_beginOn_23 : decode cX5_beginOn 23 = .ok (.imul, 1) := by decide +kernel
theorem dX5_beginOn_24 : decode cX5_beginOn 24 = .ok (.iload_n 3, 1) := by decide +kernel
theorem dX5_beginOn_25 : decode cX5_beginOn 25 = .ok (.iadd, 1) := by decide +kernel
theorem dX5_beginOn_26 : decode cX5_beginOn 26 = .ok (.iaload, 1) := by decide +kernel
theorem dX5_beginOn_27 : decode cX5_beginOn 27 = .ok (.iload_n 1, 1) := by decide +kernel
theorem dX5_beginOn_28 : decode cX5_beginOn 28 = .ok (.if_icmp .ne 14, 3) := by decide +kernel
theorem dX5_beginOn_31 : decode cX5_beginOn 31 = .ok (.aload_n 0, 1) := by decide +kernel
theorem dX5_beginOn_32 : decode cX5_beginOn 32 = .ok (.getfield 32, 3) := by decide +kernel
theorem dX5_beginOn_35 : decode cX5_beginOn 35 = .ok (.iload_n 2, 1) := by decide +kernel
theorem dX5_beginOn_36 : decode cX5_beginOn 36 = .ok (.iconst 5, 1) := by decide +kernel
theorem dX5_beginOn_37 : decode cX5_beginOn 37 = .ok (.imul, 1) := by decide +kernel
theorem dX5_beginOn_38 : decode cX5_beginOn 38 = .ok (.iload_n 3, 1) := by decide +kernel
theorem dX5_beginOn_39 : decode cX5_beginOn 39 = .ok (.iadd, 1) := by decide +kernel
theorem dX5_beginOn_40 : decode cX5_beginOn 40 = .ok (.iaload, 1) := by decide +kernel
theorem dX5_beginOn_41 : decode cX5_beginOn 41 = .ok (.ireturn, 1) := by decide +kernel
theorem dX5_beginOn_42 : decode cX5_beginOn 42 = .ok (.iinc 3 1, 3) := by decide +kernel
theorem dX5_beginOn_45 : decode cX5_beginOn 45 = .ok (.goto (-43), 3) := by decide +kernel
theorem dX5_beginOn_48 : decode cX5_beginOn 48 = .ok (.iconst (-1), 1) := by decide +kernel
theorem dX5_beginOn_49 : decode cX5_beginOn 49 = .ok (.ireturn, 1) := by decide +kernel
theorem dX6_init_0 : decode cX6_init 0 = .ok (.aload_n 0, 1) := by decide +kernel
theorem dX6_init_1 : decode cX6_init 1 = .ok (.invokespecial 5, 3) := by decide +kernel
theorem dX6_init_4 : decode cX6_init 4 = .ok (.aload_n 0, 1) := by decide +kernel
theorem dX6_init_5 : decode cX6_init 5 = .ok (.bipush 49, 2) := by decide +kernel
theorem dX6_init_7 : decode cX6_init 7 = .ok (.newarray .int, 2) := by decide +kernel
theorem dX6_init_9 : decode cX6_init 9 = .ok (.putfield 11, 3) := by decide +kernel
theorem dX6_init_12 : decode cX6_init 12 = .ok (.return_, 1) := by decide +kernel
theorem dX6_becomeOne_0 : decode cX6_becomeOne 0 = .ok (.iconst 0, 1) := by decide +kernel
theorem dX6_becomeOne_1 : decode cX6_becomeOne 1 = .ok (.istore_n 1, 1) := by decide +kernel
theorem dX6_becomeOne_2 : decode cX6_becomeOne 2 = .ok (.iload_n 1, 1) := by decide +kernel
theorem dX6_becomeOne_3 : decode cX6_becomeOne 3 = .ok (.bipush 49, 2) := by decide +kernel
theorem dX6_becomeOne_5 : decode cX6_becomeOne 5 = .ok (.if_icmp .ge 24, 3) := by decide +kernel
theorem dX6_becomeOne_8 : decode cX6_becomeOne 8 = .ok (.aload_n 0, 1) := by decide +kernel
theorem dX6_becomeOne_9 : decode cX6_becomeOne 9 = .ok (.getfield 11, 3) := by decide +kernel
theorem dX6_becomeOne_12 : decode cX6_becomeOne 12 = .ok (.iload_n 1, 1) := by decide +kernel
theorem dX6_becomeOne_13 : decode cX6_becomeOne 13 = .ok (.iload_n 1, 1) := by decide +kernel
theorem dX6_becomeOne_14 : decode cX6_becomeOne 14 = .ok (.ifCond .ne 7, 3) := by decide +kernel
theorem dX6_becomeOne_17 : decode cX6_becomeOne 17 = .ok (.iconst 1, 1) := by decide +kernel
theorem dX6_becomeOne_18 : decode cX6_becomeOne 18 = .ok (.goto 4, 3) := by decide +kernel
theorem dX6_becomeOne_21 : decode cX6_becomeOne 21 = .ok (.iconst 0, 1) := by decide +kernel
theorem dX6_becomeOne_22 : decode cX6_becomeOne 22 = .ok (.iastore, 1) := by decide +kernel
theorem dX6_becomeOne_23 : decode cX6_becomeOne 23 = .ok (.iinc 1 1, 3) := by decide +kernel
theorem dX6_becomeOne_26 : decode cX6_becomeOne 26 = .ok (.goto (-24), 3) := by decide +kernel
theorem dX6_becomeOne_29 : decode cX6_becomeOne 29 = .ok (.return_, 1) := by decide +kernel
theorem dX6_multiply_0 : decode cX6_multiply 0 = .ok (.iconst 0, 1) := by decide +kernel
theorem dX6_multiply_1 : decode cX6_multiply 1 = .ok (.istore_n 2, 1) := by decide +kernel
theorem dX6_multiply_2 : decode cX6_multiply 2 = .ok (.iconst 0, 1) := by decide +kernel
theorem dX6_multiply_3 : decode cX6_multiply 3 = .ok (.istore_n 3, 1) := by decide +kernel
theorem dX6_multiply_4 : decode cX6_multiply 4 = .ok (.iload_n 3, 1) := by decide +kernel
theorem dX6_multiply_5 : decode cX6_multiply 5 = .ok (.bipush 49, 2) := by decide +kernel
theorem dX6_multiply_7 : decode cX6_multiply 7 = .ok (.if_icmp .ge 38, 3) := by decide +kernel
theorem dX6_multiply_10 : decode cX6_multiply 10 = .ok (.aload_n 0, 1) := by decide +kernel
theorem dX6_multiply_11 : decode cX6_multiply 11 = .ok (.getfield 11, 3) := by decide +kernel
theorem dX6_multiply_14 : decode cX6_multiply 14 = .ok (.iload_n 3, 1) := by decide +kernel
theorem dX6_multiply_15 : decode cX6_multiply 15 = .ok (.iaload, 1) := by decide +kernel
theorem dX6_multiply_16 : decode cX6_multiply 16 = .ok (.iload_n 1, 1) := by decide +kernel
theorem dX6_multiply_17 : decode cX6_multiply 17 = .ok (.imul, 1) := by decide +kernel
theorem dX6_multiply_18 : decode cX6_multiply 18 = .ok (.iload_n 2, 1) := by decide +kernel
theorem dX6_multiply_19 : decode cX6_multiply 19 = .ok (.iadd, 1) := by decide +kernel
theorem dX6_multiply_20 : decode cX6_multiply 20 = .ok (.istore 4, 2) := by decide +kernel
theorem dX6_multiply_22 : decode cX6_multiply 22 = .ok (.aload_n 0, 1) := by decide +kernel
theorem dX6_multiply_23 : decode cX6_multiply 23 = .ok (.getfield 11, 3) := by decide +kernel
theorem dX6_multiply_26 : decode cX6_multiply 26 = .ok (.iload_n 3, 1) := by decide +kernel
theorem dX6_multiply_27 : decode cX6_multiply 27 = .ok (.iload 4, 2) := by decide +kernel
theorem dX6_multiply_29 : decode cX6_multiply 29 = .ok (.ldc 15, 2) := by decide +kernel
theorem dX6_multiply_31 : decode cX6_multiply 31 = .ok (.iand, 1) := by decide +kernel
theorem dX6_multiply_32 : decode cX6_multiply 32 = .ok (.iastore, 1) := by decide +kernel
theorem dX6_multiply_33 : decode cX6_multiply 33 = .ok (.iload 4, 2) := by decide +kernel
theorem dX6_multiply_35 : decode cX6_multiply 35 = .ok (.bipush 20, 2) := by decide +kernel
theorem dX6_multiply_37 : decode cX6_multiply 37 = .ok (.iushr, 1) := by decide +kernel
theorem dX6_multiply_38 : decode cX6_multiply 38 = .ok (.istore_n 2, 1) := by decide +kernel
theorem dX6_multiply_39 : decode cX6_multiply 39 = .ok (.iinc 3 1, 3) := by decide +kernel
theorem dX6_multiply_42 : decode cX6_multiply 42 = .ok (.goto (-38), 3) := by decide +kernel
theorem dX6_multiply_45 : decode cX6_multiply 45 = .ok (.return_, 1) := by decide +kernel
theorem dX6_compareWith_0 : decode cX6_compareWith 0 = .ok (.bipush 48, 2) := by decide +kernel
theorem dX6_compareWith_2 : decode cX6_compareWith 2 = .ok (.istore_n 2, 1) := by decide +kernel
theorem dX6_compareWith_3 : decode cX6_compareWith 3 = .ok (.iload_n 2, 1) := by decide +kernel
theorem dX6_compareWith_4 : decode cX6_compareWith 4 = .ok (.ifCond .lt 40, 3) := by decide +kernel
theorem dX6_compareWith_7 : decode cX6_compareWith 7 = .ok (.aload_n 0, 1) := by decide +kernel
theorem dX6_compareWith_8 : decode cX6_compareWith 8 = .ok (.getfield 11, 3) := by decide +kernel
theorem dX6_compareWith_11 : decode cX6_compareWith 11 = .ok (.iload_n 2, 1) := by decide +kernel
theorem dX6_compareWith_12 : decode cX6_compareWith 12 = .ok (.iaload, 1) := by decide +kernel
theorem dX6_compareWith_13 : decode cX6_compareWith 13 = .ok (.aload_n 1, 1) := by decide +kernel
theorem dX6_compareWith_14 : decode cX6_compareWith 14 = .ok (.getfield 11, 3) := by decide +kernel
theorem dX6_compareWith_17 : decode cX6_compareWith 17 = .ok (.iload_n 2, 1) := by decide +kernel
theorem dX6_compareWith_18 : decode cX6_compareWith 18 = .ok (.iaload, 1) := by decide +kernel
theorem dX6_compareWith_19 : decode cX6_compareWith 19 = .ok (.if_icmp .eq 19, 3) := by decide +kernel
theorem dX6_compareWith_22 : decode cX6_compareWith 22 = .ok (.aload_n 0, 1) := by decide +kernel
theorem dX6_compareWith_23 : decode cX6_compareWith 23 = .ok (.getfield 11, 3) := by decide +kernel
theorem dX6_compareWith_26 : decode cX6_compareWith 26 = .ok (.iload_n 2, 1) := by decide +kernel
theorem dX6_compareWith_27 : decode cX6_compareWith 27 = .ok (.iaload, 1) := by decide +kernel
theorem dX6_compareWith_28 : decode cX6_compareWith 28 = .ok (.aload_n 1, 1) := by decide +kernel
theorem dX6_compareWith_29 : decode cX6_compareWith 29 = .ok (.getfield 11, 3) := by decide +kernel
theorem dX6_compareWith_32 : decode cX6_compareWith 32 = .ok (.iload_n 2, 1) := by decide +kernel
theorem dX6_compareWith_33 : decode cX6_compareWith 33 = .ok (.iaload, 1) := by decide +kernel
theorem dX6_compareWith_34 : decode cX6_compareWith 34 = .ok (.invokestatic 16, 3) := by decide +kernel
theorem dX6_compareWith_37 : decode cX6_compareWith 37 = .ok (.ireturn, 1) := by decide +kernel
theorem dX6_compareWith_38 : decode cX6_compareWith 38 = .ok (.iinc 2 (-1), 3) := by decide +kernel
theorem dX6_compareWith_41 : decode cX6_compareWith 41 = .ok (.goto (-38), 3) := by decide +kernel
theorem dX6_compareWith_44 : decode cX6_compareWith 44 = .ok (.iconst 0, 1) := by decide +kernel
theorem dX6_compareWith_45 : decode cX6_compareWith 45 = .ok (.ireturn, 1) := by decide +kernel
theorem dX7_init_0 : decode cX7_init 0 = .ok (.aload_n 0, 1) := by decide +kernel
theorem dX7_init_1 : decode cX7_init 1 = .ok (.invokespecial 5, 3) := by decide +kernel
theorem dX7_init_4 : decode cX7_init 4 = .ok (.aload_n 0, 1) := by decide +kernel
theorem dX7_init_5 : decode cX7_init 5 = .ok (.iconst 5, 1) := by decide +kernel
theorem dX7_init_6 : decode cX7_init 6 = .ok (.newarray .int, 2) := by decide +kernel
theorem dX7_init_8 : decode cX7_init 8 = .ok (.putfield 11, 3) := by decide +kernel
theorem dX7_init_11 : decode cX7_init 11 = .ok (.aload_n 0, 1) := by decide +kernel
theorem dX7_init_12 : decode cX7_init 12 = .ok (.iconst 5, 1) := by decide +kernel
theorem dX7_init_13 : decode cX7_init 13 = .ok (.newarray .int, 2) := by decide +kernel
theorem dX7_init_15 : decode cX7_init 15 = .ok (.putfield 17, 3) := by decide +kernel
theorem dX7_init_18 : decode cX7_init 18 = .ok (.aload_n 0, 1) := by decide +kernel
theorem dX7_init_19 : decode cX7_init 19 = .ok (.bipush 61, 2) := by decide +kernel
theorem dX7_init_21 : decode cX7_init 21 = .ok (.newarray .int, 2) := by decide +kernel
theorem dX7_init_23 : decode cX7_init 23 = .ok (.putfield 20, 3) := by decide +kernel
theorem dX7_init_26 : decode cX7_init 26 = .ok (.aload_n 0, 1) := by decide +kernel
theorem dX7_init_27 : decode cX7_init 27 = .ok (.bipush 61, 2) := by decide +kernel
theorem dX7_init_29 : decode cX7_init 29 = .ok (.newarray .int, 2) := by decide +kernel
theorem dX7_init_31 : decode cX7_init 31 = .ok (.putfield 23, 3) := by decide +kernel
theorem dX7_init_34 : decode cX7_init 34 = .ok (.aload_n 0, 1) := by decide +kernel
theorem dX7_init_35 : decode cX7_init 35 = .ok (.bipush 61, 2) := by decide +kernel
theorem dX7_init_37 : decode cX7_init 37 = .ok (.newarray .int, 2) := by decide +kernel
theorem dX7_init_39 : decode cX7_init 39 = .ok (.putfield 26, 3) := by decide +kernel
theorem dX7_init_42 : decode cX7_init 42 = .ok (.aload_n 0, 1) := by decide +kernel
theorem dX7_init_43 : decode cX7_init 43 = .ok (.bipush 120, 2) := by decide +kernel
theorem dX7_init_45 : decode cX7_init 45 = .ok (.newarray .int, 2) := by decide +kernel
theorem dX7_init_47 : decode cX7_init 47 = .ok (.putfield 29, 3) := by decide +kernel
theorem dX7_init_50 : decode cX7_init 50 = .ok (.aload_n 0, 1) := by decide +kernel
theorem dX7_init_51 : decode cX7_init 51 = .ok (.aload_n 1, 1) := by decide +kernel
theorem dX7_init_52 : decode cX7_init 52 = .ok (.putfield 32, 3) := by decide +kernel
theorem dX7_init_55 : decode cX7_init 55 = .ok (.aload_n 0, 1) := by decide +kernel
theorem dX7_init_56 : decode cX7_init 56 = .ok (.aload_n 2, 1) := by decide +kernel
theorem dX7_init_57 : decode cX7_init 57 = .ok (.putfield 36, 3) := by decide +kernel
theorem dX7_init_60 : decode cX7_init 60 = .ok (.aload_n 0, 1) := by decide +kernel
theorem dX7_init_61 : decode cX7_init 61 = .ok (.aload_n 3, 1) := by decide +kernel
theorem dX7_init_62 : decode cX7_init 62 = .ok (.putfield 40, 3) := by decide +kernel
theorem dX7_init_65 : decode cX7_init 65 = .ok (.aload_n 0, 1) := by decide +kernel
theorem dX7_init_66 : decode cX7_init 66 = .ok (.aload 4, 2) := by decide +kernel
theorem dX7_init_68 : decode cX7_init 68 = .ok (.putfield 44, 3) := by decide +kernel
theorem dX7_init_71 : decode cX7_init 71 = .ok (.return_, 1) := by decide +kernel
theorem dX7_listen_0 : decode cX7_listen 0 = .ok (.iconst 0, 1) := by decide +kernel
theorem dX7_listen_1 : decode cX7_listen 1 = .ok (.istore_n 3, 1) := by decide +kernel
theorem dX7_listen_2 : decode cX7_listen 2 = .ok (.iload_n 3, 1) := by decide +kernel
theorem dX7_listen_3 : decode cX7_listen 3 = .ok (.iconst 5, 1) := by decide +kernel
theorem dX7_listen_4 : decode cX7_listen 4 = .ok (.if_icmp .ge 39, 3) := by decide +kernel
theorem dX7_listen_7 : decode cX7_listen 7 = .ok (.aload_n 0, 1) := by decide +kernel
theorem dX7_listen_8 : decode cX7_listen 8 = .ok (.getfield 11, 3) := by decide +kernel
theorem dX7_listen_11 : decode cX7_listen 11 = .ok (.iload_n 3, 1) := by decide +kernel
theorem dX7_listen_12 : decode cX7_listen 12 = .ok (.aload_n 0, 1) := by decide +kernel
theorem dX7_listen_13 : decode cX7_listen 13 = .ok (.getfield 40, 3) := by decide +kernel
theorem dX7_listen_16 : decode cX7_listen 16 = .ok (.iload_n 1, 1) := by decide +kernel
theorem dX7_listen_17 : decode cX7_listen 17 = .ok (.iload_n 3, 1) := by decide +kernel
theorem dX7_listen_18 : decode cX7_listen 18 = .ok (.invokevirtual 48, 3) := by decide +kernel
theorem dX7_listen_21 : decode cX7_listen 21 = .ok (.iastore, 1) := by decide +kernel
theorem dX7_listen_22 : decode cX7_listen 22 = .ok (.aload_n 0, 1) := by decide +kernel
theorem dX7_listen_23 : decode cX7_listen 23 = .ok (.getfield 17, 3) := by decide +kernel
theorem dX7_listen_26 : decode cX7_listen 26 = .ok (.iload_n 3, 1) := by decide +kernel
theorem dX7_listen_27 : decode cX7_listen 27 = .ok (.aload_n 0, 1) := by decide +kernel
theorem dX7_listen_28 : decode cX7_listen 28 = .ok (.getfield 40, 3) := by decide +kernel
theorem dX7_listen_31 : decode cX7_listen 31 = .ok (.iload_n 1, 1) := by decide +kernel
theorem dX7_listen_32 : decode cX7_listen 32 = .ok (.iload_n 3, 1) := by decide +kernel
theorem dX7_listen_33 : decode cX7_listen 33 = .ok (.invokevirtual 54, 3) := by decide +kernel
theorem dX7_listen_36 : decode cX7_listen 36 = .ok (.iastore, 1) := by decide +kernel
theorem dX7_listen_37 : decode cX7_listen 37 = .ok (.iinc 3 1, 3) := by decide +kernel
theorem dX7_listen_40 : decode cX7_listen 40 = .ok (.goto (-38), 3) := by decide +kernel
theorem dX7_listen_43 : decode cX7_listen 43 = .ok (.aload_n 0, 1) := by decide +kernel
theorem dX7_listen_44 : decode cX7_listen 44 = .ok (.aload_n 0, 1) := by decide +kernel
theorem dX7_listen_45 : decode cX7_listen 45 = .ok (.getfield 44, 3) := by decide +kernel
theorem dX7_listen_48 : decode cX7_listen 48 = .ok (.iload_n 2, 1) := by decide +kernel
theorem dX7_listen_49 : decode cX7_listen 49 = .ok (.invokevirtual 57, 3) := by decide +kernel
theorem dX7_listen_52 : decode cX7_listen 52 = .ok (.putfield 63, 3) := by decide +kernel
theorem dX7_listen_55 : decode cX7_listen 55 = .ok (.aload_n 0, 1) := by decide +kernel
theorem dX7_listen_56 : decode cX7_listen 56 = .ok (.aload_n 0, 1) := by decide +kernel
theorem dX7_listen_57 : decode cX7_listen 57 = .ok (.getfield 36, 3) := by decide +kernel
theorem dX7_listen_60 : decode cX7_listen 60 = .ok (.invokevirtual 67, 3) := by decide +kernel
theorem dX7_listen_63 : decode cX7_listen 63 = .ok (.iconst 1, 1) := by decide +kernel
theorem dX7_listen_64 : decode cX7_listen 64 = .ok (.iadd, 1) := by decide +kernel
theorem dX7_listen_65 : decode cX7_listen 65 = .ok (.iconst 2, 1) := by decide +kernel
theorem dX7_listen_66 : decode cX7_listen 66 = .ok (.idiv, 1) := by decide +kernel
theorem dX7_listen_67 : decode cX7_listen 67 = .ok (.bipush 60, 2) := by decide +kernel
theorem dX7_listen_69 : decode cX7_listen 69 = .ok (.invokestatic 71, 3) := by decide +kernel
theorem dX7_listen_72 : decode cX7_listen 72 = .ok (.putfield 76, 3) := by decide +kernel
theorem dX7_listen_75 : decode cX7_listen 75 = .ok (.return_, 1) := by decide +kernel
theorem dX7_costOf_0 : decode cX7_costOf 0 = .ok (.aload_n 0, 1) := by decide +kernel
theorem dX7_costOf_1 : decode cX7_costOf 1 = .ok (.getfield 36, 3) := by decide +kernel
theorem dX7_costOf_4 : decode cX7_costOf 4 = .ok (.iload_n 1, 1) := by decide +kernel
theorem dX7_costOf_5 : decode cX7_costOf 5 = .ok (.invokevirtual 79, 3) := by decide +kernel
theorem dX7_costOf_8 : decode cX7_costOf 8 = .ok (.istore_n 3, 1) := by decide +kernel
theorem dX7_costOf_9 : decode cX7_costOf 9 = .ok (.iload_n 3, 1) := by decide +kernel
theorem dX7_costOf_10 : decode cX7_costOf 10 = .ok (.iconst (-1), 1) := by decide +kernel
theorem dX7_costOf_11 : decode cX7_costOf 11 = .ok (.if_icmp .eq 12, 3) := by decide +kernel
theorem dX7_costOf_14 : decode cX7_costOf 14 = .ok (.iload_n 2, 1) := by decide +kernel
theorem dX7_costOf_15 : decode cX7_costOf 15 = .ok (.ifCond .lt 8, 3) := by decide +kernel
theorem dX7_costOf_18 : decode cX7_costOf 18 = .ok (.iload_n 2, 1) := by decide +kernel
theorem dX7_costOf_19 : decode cX7_costOf 19 = .ok (.iconst 5, 1) := by decide +kernel
theorem dX7_costOf_20 : decode cX7_costOf 20 = .ok (.if_icmp .lt 5, 3) := by decide +kernel
theorem dX7_costOf_23 : decode cX7_costOf 23 = .ok (.iconst (-1), 1) := by decide +kernel
theorem dX7_costOf_24 : decode cX7_costOf 24 = .ok (.ireturn, 1) := by decide +kernel
theorem dX7_costOf_25 : decode cX7_costOf 25 = .ok (.iload_n 1, 1) := by decide +kernel
theorem dX7_costOf_26 : decode cX7_costOf 26 = .ok (.iconst 2, 1) := by decide +kernel
theorem dX7_costOf_27 : decode cX7_costOf 27 = .ok (.irem, 1) := by decide +kernel
theorem dX7_costOf_28 : decode cX7_costOf 28 = .ok (.ifCond .ne 12, 3) := by decide +kernel
theorem dX7_costOf_31 : decode cX7_costOf 31 = .ok (.iload_n 3, 1) := by decide +kernel
theorem dX7_costOf_32 : decode cX7_costOf 32 = .ok (.aload_n 0, 1) := by decide +kernel
theorem dX7_costOf_33 : decode cX7_costOf 33 = .ok (.getfield 63, 3) := by decide +kernel
theorem dX7_costOf_36 : decode cX7_costOf 36 = .ok (.iadd, 1) := by decide +kernel
theorem dX7_costOf_37 : decode cX7_costOf 37 = .ok (.goto 9, 3) := by decide +kernel
theorem dX7_costOf_40 : decode cX7_costOf 40 = .ok (.iload_n 3, 1) := by decide +kernel
theorem dX7_costOf_41 : decode cX7_costOf 41 = .ok (.aload_n 0, 1) := by decide +kernel
theorem dX7_costOf_42 : decode cX7_costOf 42 = .ok (.getfield 63, 3) := by decide +kernel
theorem dX7_costOf_45 : decode cX7_costOf 45 = .ok (.isub, 1) := by decide +kernel
theorem dX7_costOf_46 : decode cX7_costOf 46 = .ok (.istore 4, 2) := by decide +kernel
theorem dX7_costOf_48 : decode cX7_costOf 48 = .ok (.iload 4, 2) := by decide +kernel
theorem dX7_costOf_50 : decode cX7_costOf 50 = .ok (.aload_n 0, 1) := by decide +kernel
theorem dX7_costOf_51 : decode cX7_costOf 51 = .ok (.getfield 11, 3) := by decide +kernel
theorem dX7_costOf_54 : decode cX7_costOf 54 = .ok (.iload_n 2, 1) := by decide +kernel
theorem dX7_costOf_55 : decode cX7_costOf 55 = .ok (.iaload, 1) := by decide +kernel
theorem dX7_costOf_56 : decode cX7_costOf 56 = .ok (.if_icmp .lt 14, 3) := by decide +kernel
theorem dX7_costOf_59 : decode cX7_costOf 59 = .ok (.iload 4, 2) := by decide +kernel
theorem dX7_costOf_61 : decode cX7_costOf 61 = .ok (.aload_n 0, 1) := by decide +kernel
theorem dX7_costOf_62 : decode cX7_costOf 62 = .ok (.getfield 17, 3) := by decide +kernel
theorem dX7_costOf_65 : decode cX7_costOf 65 = .ok (.iload_n 2, 1) := by decide +kernel
theorem dX7_costOf_66 : decode cX7_costOf 66 = .ok (.iaload, 1) := by decide +kernel
theorem dX7_costOf_67 : decode cX7_costOf 67 = .ok (.if_icmp .le 5, 3) := by decide +kernel
theorem dX7_costOf_70 : decode cX7_costOf 70 = .ok (.iconst (-1), 1) := by decide +kernel
theorem dX7_costOf_71 : decode cX7_costOf 71 = .ok (.ireturn, 1) := by decide +kernel
theorem dX7_costOf_72 : decode cX7_costOf 72 = .ok (.iconst 2, 1) := by decide +kernel
theorem dX7_costOf_73 : decode cX7_costOf 73 = .ok (.iload 4, 2) := by decide +kernel
theorem dX7_costOf_75 : decode cX7_costOf 75 = .ok (.imul, 1) := by decide +kernel
theorem dX7_costOf_76 : decode cX7_costOf 76 = .ok (.aload_n 0, 1) := by decide +kernel
theorem dX7_costOf_77 : decode cX7_costOf 77 = .ok (.getfield 11, 3) := by decide +kernel
theorem dX7_costOf_80 : decode cX7_costOf 80 = .ok (.iload_n 2, 1) := by decide +kernel
theorem dX7_costOf_81 : decode cX7_costOf 81 = .ok (.iaload, 1) := by decide +kernel
theorem dX7_costOf_82 : decode cX7_costOf 82 = .ok (.isub, 1) := by decide +kernel
theorem dX7_costOf_83 : decode cX7_costOf 83 = .ok (.aload_n 0, 1) := by decide +kernel
theorem dX7_costOf_84 : decode cX7_costOf 84 = .ok (.getfield 17, 3) := by decide +kernel
theorem dX7_costOf_87 : decode cX7_costOf 87 = .ok (.iload_n 2, 1) := by decide +kernel
theorem dX7_costOf_88 : decode cX7_costOf 88 = .ok (.iaload, 1) := by decide +kernel
theorem dX7_costOf_89 : decode cX7_costOf 89 = .ok (.isub, 1) := by decide +kernel
theorem dX7_costOf_90 : decode cX7_costOf 90 = .ok (.invokestatic 82, 3) := by decide +kernel
theorem dX7_costOf_93 : decode cX7_costOf 93 = .ok (.ireturn, 1) := by decide +kernel
theorem dX7_countAll_0 : decode cX7_countAll 0 = .ok (.aload_n 0, 1) := by decide +kernel
theorem dX7_countAll_1 : decode cX7_countAll 1 = .ok (.getfield 20, 3) := by decide +kernel
theorem dX7_countAll_4 : decode cX7_countAll 4 = .ok (.iconst 0, 1) := by decide +kernel
theorem dX7_countAll_5 : decode cX7_countAll 5 = .ok (.iconst 0, 1) := by decide +kernel
theorem dX7_countAll_6 : decode cX7_countAll 6 = .ok (.iastore, 1) := by decide +kernel
theorem dX7_countAll_7 : decode cX7_countAll 7 = .ok (.aload_n 0, 1) := by decide +kernel
theorem dX7_countAll_8 : decode cX7_countAll 8 = .ok (.getfield 76, 3) := by decide +kernel
theorem dX7_countAll_11 : decode cX7_countAll 11 = .ok (.iconst 1, 1) := by decide +kernel
theorem dX7_countAll_12 : decode cX7_countAll 12 = .ok (.isub, 1) := by decide +kernel
theorem dX7_countAll_13 : decode cX7_countAll 13 = .ok (.istore_n 1, 1) := by decide +kernel
theorem dX7_countAll_14 : decode cX7_countAll 14 = .ok (.iload_n 1, 1) := by decide +kernel
theorem dX7_countAll_15 : decode cX7_countAll 15 = .ok (.ifCond .lt 70, 3) := by decide +kernel
theorem dX7_countAll_18 : decode cX7_countAll 18 = .ok (.lconst 0, 1) := by decide +kernel
theorem dX7_countAll_19 : decode cX7_countAll 19 = .ok (.lstore_n 2, 1) := by decide +kernel
theorem dX7_countAll_20 : decode cX7_countAll 20 = .ok (.iconst 0, 1) := by decide +kernel
theorem dX7_countAll_21 : decode cX7_countAll 21 = .ok (.istore 4, 2) := by decide +kernel
theorem dX7_countAll_23 : decode cX7_countAll 23 = .ok (.iload 4, 2) := by decide +kernel
theorem dX7_countAll_25 : decode cX7_countAll 25 = .ok (.bipush 26, 2) := by decide +kernel
theorem dX7_countAll_27 : decode cX7_countAll 27 = .ok (.if_icmp .ge 38, 3) := by decide +kernel
theorem dX7_countAll_30 : decode cX7_countAll 30 = .ok (.aload_n 0, 1) := by decide +kernel
theorem dX7_countAll_31 : decode cX7_countAll 31 = .ok (.iload_n 1, 1) := by decide +kernel
theorem dX7_countAll_32 : decode cX7_countAll 32 = .ok (.iload 4, 2) := by decide +kernel
theorem dX7_countAll_34 : decode cX7_countAll 34 = .ok (.invokevirtual 85, 3) := by decide +kernel
theorem dX7_countAll_37 : decode cX7_countAll 37 = .ok (.iconst (-1), 1) := by decide +kernel
theorem dX7_countAll_38 : decode cX7_countAll 38 = .ok (.if_icmp .eq 21, 3) := by decide +kernel
theorem dX7_countAll_41 : decode cX7_countAll 41 = .ok (.lload_n 2, 1) := by decide +kernel
theorem dX7_countAll_42 : decode cX7_countAll 42 = .ok (.aload_n 0, 1) := by decide +kernel
theorem dX7_countAll_43 : decode cX7_countAll 43 = .ok (.iload_n 1, 1) := by decide +kernel
theorem dX7_countAll_44 : decode cX7_countAll 44 = .ok (.aload_n 0, 1) := by decide +kernel
theorem dX7_countAll_45 : decode cX7_countAll 45 = .ok (.getfield 32, 3) := by decide +kernel
theorem dX7_countAll_48 : decode cX7_countAll 48 = .ok (.iload 4, 2) := by decide +kernel
theorem dX7_countAll_50 : decode cX7_countAll 50 = .ok (.invokevirtual 88, 3) := by decide +kernel
theorem dX7_countAll_53 : decode cX7_countAll 53 = .ok (.iadd, 1) := by decide +kernel
theorem dX7_countAll_54 : decode cX7_countAll 54 = .ok (.invokevirtual 93, 3) := by decide +kernel
theorem dX7_countAll_57 : decode cX7_countAll 57 = .ok (.ladd, 1) := by decide +kernel
theorem dX7_countAll_58 : decode cX7_countAll 58 = .ok (.lstore_n 2, 1) := by decide +kernel
theorem dX7_countAll_59 : decode cX7_countAll 59 = .ok (.iinc 4 1, 3) := by decide +kernel
theorem dX7_countAll_62 : decode cX7_countAll 62 = .ok (.goto (-39), 3) := by decide +kernel
theorem dX7_countAll_65 : decode cX7_countAll 65 = .ok (.aload_n 0, 1) := by decide +kernel
theorem dX7_countAll_66 : decode cX7_countAll 66 = .ok (.getfield 20, 3) := by decide +kernel
theorem dX7_countAll_69 : decode cX7_countAll 69 = .ok (.iload_n 1, 1) := by decide +kernel
theorem dX7_countAll_70 : decode cX7_countAll 70 = .ok (.lload_n 2, 1) := by decide +kernel
theorem dX7_countAll_71 : decode cX7_countAll 71 = .ok (.ldc2_w 97, 3) := by decide +kernel
theorem dX7_countAll_74 : decode cX7_countAll 74 = .ok (.invokestatic 99, 3) := by decide +kernel
theorem dX7_countAll_77 : decode cX7_countAll 77 = .ok (.l2i, 1) := by decide +kernel
theorem dX7_countAll_78 : decode cX7_countAll 78 = .ok (.iastore, 1) := by decide +kernel
theorem dX7_countAll_79 : decode cX7_countAll 79 = .ok (.iinc 1 (-1), 3) := by decide +kernel
theorem dX7_countAll_82 : decode cX7_countAll 82 = .ok (.goto (-68), 3) := by decide +kernel
theorem dX7_countAll_85 : decode cX7_countAll 85 = .ok (.aload_n 0, 1) := by decide +kernel
theorem dX7_countAll_86 : decode cX7_countAll 86 = .ok (.getfield 20, 3) := by decide +kernel
theorem dX7_countAll_89 : decode cX7_countAll 89 = .ok (.iconst 0, 1) := by decide +kernel
theorem dX7_countAll_90 : decode cX7_countAll 90 = .ok (.iaload, 1) := by decide +kernel
theorem dX7_countAll_91 : decode cX7_countAll 91 = .ok (.ireturn, 1) := by decide +kernel
theorem dX7_waysBehind_0 : decode cX7_waysBehind 0 = .ok (.iload_n 1, 1) := by decide +kernel
theorem dX7_waysBehind_1 : decode cX7_waysBehind 1 = .ok (.aload_n 0, 1) := by decide +kernel
theorem dX7_waysBehind_2 : decode cX7_waysBehind 2 = .ok (.getfield 76, 3) := by decide +kernel
theorem dX7_waysBehind_5 : decode cX7_waysBehind 5 = .ok (.if_icmp .lt 5, 3) := by decide +kernel
theorem dX7_waysBehind_8 : decode cX7_waysBehind 8 = .ok (.lconst 1, 1) := by decide +kernel
theorem dX7_waysBehind_9 : decode cX7_waysBehind 9 = .ok (.lreturn, 1) := by decide +kernel
theorem dX7_waysBehind_10 : decode cX7_waysBehind 10 = .ok (.iconst 0, 1) := by decide +kernel
theorem dX7_waysBehind_11 : decode cX7_waysBehind 11 = .ok (.istore_n 2, 1) := by decide +kernel
theorem dX7_waysBehind_12 : decode cX7_waysBehind 12 = .ok (.aload_n 0, 1) := by decide +kernel
theorem dX7_waysBehind_13 : decode cX7_waysBehind 13 = .ok (.iconst 2, 1) := by decide +kernel
theorem dX7_waysBehind_14 : decode cX7_waysBehind 14 = .ok (.iload_n 1, 1) := by decide +kernel
theorem dX7_waysBehind_15 : decode cX7_waysBehind 15 = .ok (.imul, 1) := by decide +kernel
theorem dX7_waysBehind_16 : decode cX7_waysBehind 16 = .ok (.iconst 1, 1) := by decide +kernel
theorem dX7_waysBehind_17 : decode cX7_waysBehind 17 = .ok (.isub, 1) := by decide +kernel
theorem dX7_waysBehind_18 : decode cX7_waysBehind 18 = .ok (.iconst 3, 1) := by decide +kernel
theorem dX7_waysBehind_19 : decode cX7_waysBehind 19 = .ok (.invokevirtual 102, 3) := by decide +kernel
theorem dX7_waysBehind_22 : decode cX7_waysBehind 22 = .ok (.iconst (-1), 1) := by decide +kernel
theorem dX7_waysBehind_23 : decode cX7_waysBehind 23 = .ok (.if_icmp .eq 6, 3) := by decide +kernel
theorem dX7_waysBehind_26 : decode cX7_waysBehind 26 = .ok (.iinc 2 1, 3) := by decide +kernel
theorem dX7_waysBehind_29 : decode cX7_waysBehind 29 = .ok (.aload_n 0, 1) := by decide +kernel
theorem dX7_waysBehind_30 : decode cX7_waysBehind 30 = .ok (.iconst 2, 1) := by decide +kernel
theorem dX7_waysBehind_31 : decode cX7_waysBehind 31 = .ok (.iload_n 1, 1) := by decide +kernel
theorem dX7_waysBehind_32 : decode cX7_waysBehind 32 = .ok (.imul, 1) := by decide +kernel
theorem dX7_waysBehind_33 : decode cX7_waysBehind 33 = .ok (.iconst 1, 1) := by decide +kernel
theorem dX7_waysBehind_34 : decode cX7_waysBehind 34 = .ok (.isub, 1) := by decide +kernel
theorem dX7_waysBehind_35 : decode cX7_waysBehind 35 = .ok (.iconst 4, 1) := by decide +kernel
theorem dX7_waysBehind_36 : decode cX7_waysBehind 36 = .ok (.invokevirtual 102, 3) := by decide +kernel
theorem dX7_waysBehind_39 : decode cX7_waysBehind 39 = .ok (.iconst (-1), 1) := by decide +kernel
theorem dX7_waysBehind_40 : decode cX7_waysBehind 40 = .ok (.if_icmp .eq 6, 3) := by decide +kernel
theorem dX7_waysBehind_43 : decode cX7_waysBehind 43 = .ok (.iinc 2 1, 3) := by decide +kernel
theorem dX7_waysBehind_46 : decode cX7_waysBehind 46 = .ok (.iload_n 2, 1) := by decide +kernel
theorem dX7_waysBehind_47 : decode cX7_waysBehind 47 = .ok (.i2l, 1) := by decide +kernel
theorem dX7_waysBehind_48 : decode cX7_waysBehind 48 = .ok (.aload_n 0, 1) := by decide +kernel
theorem dX7_waysBehind_49 : decode cX7_waysBehind 49 = .ok (.getfield 20, 3) := by decide +kernel
theorem dX7_waysBehind_52 : decode cX7_waysBehind 52 = .ok (.iload_n 1, 1) := by decide +kernel
theorem dX7_waysBehind_53 : decode cX7_waysBehind 53 = .ok (.iaload, 1) := by decide +kernel
theorem dX7_waysBehind_54 : decode cX7_waysBehind 54 = .ok (.i2l, 1) := by decide +kernel
theorem dX7_waysBehind_55 : decode cX7_waysBehind 55 = .ok (.lmul, 1) := by decide +kernel
theorem dX7_waysBehind_56 : decode cX7_waysBehind 56 = .ok (.lreturn, 1) := by decide +kernel
theorem dX7_findNearest_0 : decode cX7_findNearest 0 = .ok (.aload_n 0, 1) := by decide +kernel
theorem dX7_findNearest_1 : decode cX7_findNearest 1 = .ok (.getfield 23, 3) := by decide +kernel
theorem dX7_findNearest_4 : decode cX7_findNearest 4 = .ok (.iconst 0, 1) := by decide +kernel
theorem dX7_findNearest_5 : decode cX7_findNearest 5 = .ok (.iconst (-1), 1) := by decide +kernel
theorem dX7_findNearest_6 : decode cX7_findNearest 6 = .ok (.iastore, 1) := by decide +kernel
theorem dX7_findNearest_7 : decode cX7_findNearest 7 = .ok (.aload_n 0, 1) := by decide +kernel
theorem dX7_findNearest_8 : decode cX7_findNearest 8 = .ok (.getfield 76, 3) := by decide +kernel
theorem dX7_findNearest_11 : decode cX7_findNearest 11 = .ok (.iconst 1, 1) := by decide +kernel
theorem dX7_findNearest_12 : decode cX7_findNearest 12 = .ok (.isub, 1) := by decide +kernel
theorem dX7_findNearest_13 : decode cX7_findNearest 13 = .ok (.istore_n 1, 1) := by decide +kernel
theorem dX7_findNearest_14 : decode cX7_findNearest 14 = .ok (.iload_n 1, 1) := by decide +kernel
theorem dX7_findNearest_15 : decode cX7_findNearest 15 = .ok (.ifCond .lt 83, 3) := by decide +kernel
theorem dX7_findNearest_18 : decode cX7_findNearest 18 = .ok (.aload_n 0, 1) := by decide +kernel
theorem dX7_findNearest_19 : decode cX7_findNearest 19 = .ok (.getfield 23, 3) := by decide +kernel
theorem dX7_findNearest_22 : decode cX7_findNearest 22 = .ok (.iload_n 1, 1) := by decide +kernel
theorem dX7_findNearest_23 : decode cX7_findNearest 23 = .ok (.iconst (-1), 1) := by decide +kernel
theorem dX7_findNearest_24 : decode cX7_findNearest 24 = .ok (.iastore, 1) := by decide +kernel
theorem dX7_findNearest_25 : decode cX7_findNearest 25 = .ok (.aload_n 0, 1) := by decide +kernel
theorem dX7_findNearest_26 : decode cX7_findNearest 26 = .ok (.getfield 26, 3) := by decide +kernel
theorem dX7_findNearest_29 : decode cX7_findNearest 29 = .ok (.iload_n 1, 1) := by decide +kernel
theorem dX7_findNearest_30 : decode cX7_findNearest 30 = .ok (.iconst (-1), 1) := by decide +kernel
theorem dX7_findNearest_31 : decode cX7_findNearest 31 = .ok (.iastore, 1) := by decide +kernel
theorem dX7_findNearest_32 : decode cX7_findNearest 32 = .ok (.iconst 0, 1) := by decide +kernel
theorem dX7_findNearest_33 : decode cX7_findNearest 33 = .ok (.istore_n 2, 1) := by decide +kernel
theorem dX7_findNearest_34 : decode cX7_findNearest 34 = .ok (.iload_n 2, 1) := by decide +kernel
theorem dX7_findNearest_35 : decode cX7_findNearest 35 = .ok (.bipush 26, 2) := by decide +kernel
theorem dX7_findNearest_37 : decode cX7_findNearest 37 = .ok (.if_icmp .ge 55, 3) := by decide +kernel
theorem dX7_findNearest_40 : decode cX7_findNearest 40 = .ok (.aload_n 0, 1) := by decide +kernel
theorem dX7_findNearest_41 : decode cX7_findNearest 41 = .ok (.iload_n 1, 1) := by decide +kernel
theorem dX7_findNearest_42 : decode cX7_findNearest 42 = .ok (.iload_n 2, 1) := by decide +kernel
theorem dX7_findNearest_43 : decode cX7_findNearest 43 = .ok (.invokevirtual 105, 3) := by decide +kernel
theorem dX7_findNearest_46 : decode cX7_findNearest 46 = .ok (.istore_n 3, 1) := by decide +kernel
theorem dX7_findNearest_47 : decode cX7_findNearest 47 = .ok (.iload_n 3, 1) := by decide +kernel
theorem dX7_findNearest_48 : decode cX7_findNearest 48 = .ok (.iconst (-1), 1) := by decide +kernel
theorem dX7_findNearest_49 : decode cX7_findNearest 49 = .ok (.if_icmp .eq 37, 3) := by decide +kernel
theorem dX7_findNearest_52 : decode cX7_findNearest 52 = .ok (.aload_n 0, 1) := by decide +kernel
theorem dX7_findNearest_53 : decode cX7_findNearest 53 = .ok (.getfield 23, 3) := by decide +kernel
theorem dX7_findNearest_56 : decode cX7_findNearest 56 = .ok (.iload_n 1, 1) := by decide +kernel
theorem dX7_findNearest_57 : decode cX7_findNearest 57 = .ok (.iaload, 1) := by decide +kernel
theorem dX7_findNearest_58 : decode cX7_findNearest 58 = .ok (.iconst (-1), 1) := by decide +kernel
theorem dX7_findNearest_59 : decode cX7_findNearest 59 = .ok (.if_icmp .eq 13, 3) := by decide +kernel
theorem dX7_findNearest_62 : decode cX7_findNearest 62 = .ok (.iload_n 3, 1) := by decide +kernel
theorem dX7_findNearest_63 : decode cX7_findNearest 63 = .ok (.aload_n 0, 1) := by decide +kernel
theorem dX7_findNearest_64 : decode cX7_findNearest 64 = .ok (.getfield 23, 3) := by decide +kernel
theorem dX7_findNearest_67 : decode cX7_findNearest 67 = .ok (.iload_n 1, 1) := by decide +kernel
theorem dX7_findNearest_68 : decode cX7_findNearest 68 = .ok (.iaload, 1) := by decide +kernel
theorem dX7_findNearest_69 : decode cX7_findNearest 69 = .ok (.if_icmp .ge 17, 3) := by decide +kernel
theorem dX7_findNearest_72 : decode cX7_findNearest 72 = .ok (.aload_n 0, 1) := by decide +kernel
theorem dX7_findNearest_73 : decode cX7_findNearest 73 = .ok (.getfield 23, 3) := by decide +kernel
theorem dX7_findNearest_76 : decode cX7_findNearest 76 = .ok (.iload_n 1, 1) := by decide +kernel
theorem dX7_findNearest_77 : decode cX7_findNearest 77 = .ok (.iload_n 3, 1) := by decide +kernel
theorem dX7_findNearest_78 : decode cX7_findNearest 78 = .ok (.iastore, 1) := by decide +kernel
theorem dX7_findNearest_79 : decode cX7_findNearest 79 = .ok (.aload_n 0, 1) := by decide +kernel
theorem dX7_findNearest_80 : decode cX7_findNearest 80 = .ok (.getfield 26, 3) := by decide +kernel
theorem dX7_findNearest_83 : decode cX7_findNearest 83 = .ok (.iload_n 1, 1) := by decide +kernel
theorem dX7_findNearest_84 : decode cX7_findNearest 84 = .ok (.iload_n 2, 1) := by decide +kernel
theorem dX7_findNearest_85 : decode cX7_findNearest 85 = .ok (.iastore, 1) := by decide +kernel
theorem dX7_findNearest_86 : decode cX7_findNearest 86 = .ok (.iinc 2 1, 3) := by decide +kernel
theorem dX7_findNearest_89 : decode cX7_findNearest 89 = .ok (.goto (-55), 3) := by decide +kernel
theorem dX7_findNearest_92 : decode cX7_findNearest 92 = .ok (.iinc 1 (-1), 3) := by decide +kernel
theorem dX7_findNearest_95 : decode cX7_findNearest 95 = .ok (.goto (-81), 3) := by decide +kernel
theorem dX7_findNearest_98 : decode cX7_findNearest 98 = .ok (.aload_n 0, 1) := by decide +kernel
theorem dX7_findNearest_99 : decode cX7_findNearest 99 = .ok (.getfield 23, 3) := by decide +kernel
theorem dX7_findNearest_102 : decode cX7_findNearest 102 = .ok (.iconst 0, 1) := by decide +kernel
theorem dX7_findNearest_103 : decode cX7_findNearest 103 = .ok (.iaload, 1) := by decide +kernel
theorem dX7_findNearest_104 : decode cX7_findNearest 104 = .ok (.ireturn, 1) := by decide +kernel
theorem dX7_writeNearest_0 : decode cX7_writeNearest 0 = .ok (.aload_n 0, 1) := by decide +kernel
theorem dX7_writeNearest_1 : decode cX7_writeNearest 1 = .ok (.iconst 0, 1) := by decide +kernel
theorem dX7_writeNearest_2 : decode cX7_writeNearest 2 = .ok (.putfield 108, 3) := by decide +kernel
theorem dX7_writeNearest_5 : decode cX7_writeNearest 5 = .ok (.iconst 0, 1) := by decide +kernel
theorem dX7_writeNearest_6 : decode cX7_writeNearest 6 = .ok (.istore_n 1, 1) := by decide +kernel
theorem dX7_writeNearest_7 : decode cX7_writeNearest 7 = .ok (.iconst 0, 1) := by decide +kernel
theorem dX7_writeNearest_8 : decode cX7_writeNearest 8 = .ok (.istore_n 2, 1) := by decide +kernel
theorem dX7_writeNearest_9 : decode cX7_writeNearest 9 = .ok (.iload_n 2, 1) := by decide +kernel
theorem dX7_writeNearest_10 : decode cX7_writeNearest 10 = .ok (.bipush 60, 2) := by decide +kernel
theorem dX7_writeNearest_12 : decode cX7_writeNearest 12 = .ok (.if_icmp .ge 81, 3) := by decide +kernel
theorem dX7_writeNearest_15 : decode cX7_writeNearest 15 = .ok (.iload_n 1, 1) := by decide +kernel
theorem dX7_writeNearest_16 : decode cX7_writeNearest 16 = .ok (.aload_n 0, 1) := by decide +kernel
theorem dX7_writeNearest_17 : decode cX7_writeNearest 17 = .ok (.getfield 76, 3) := by decide +kernel
theorem dX7_writeNearest_20 : decode cX7_writeNearest 20 = .ok (.if_icmp .ge 73, 3) := by decide +kernel
theorem dX7_writeNearest_23 : decode cX7_writeNearest 23 = .ok (.aload_n 0, 1) := by decide +kernel
theorem dX7_writeNearest_24 : decode cX7_writeNearest 24 = .ok (.getfield 26, 3) := by decide +kernel
theorem dX7_writeNearest_27 : decode cX7_writeNearest 27 = .ok (.iload_n 1, 1) := by decide +kernel
theorem dX7_writeNearest_28 : decode cX7_writeNearest 28 = .ok (.iaload, 1) := by decide +kernel
theorem dX7_writeNearest_29 : decode cX7_writeNearest 29 = .ok (.istore_n 3, 1) := by decide +kernel
theorem dX7_writeNearest_30 : decode cX7_writeNearest 30 = .ok (.iload_n 3, 1) := by decide +kernel
theorem dX7_writeNearest_31 : decode cX7_writeNearest 31 = .ok (.iconst (-1), 1) := by decide +kernel
theorem dX7_writeNearest_32 : decode cX7_writeNearest 32 = .ok (.if_icmp .ne 4, 3) := by decide +kernel
theorem dX7_writeNearest_35 : decode cX7_writeNearest 35 = .ok (.return_, 1) := by decide +kernel
theorem dX7_writeNearest_36 : decode cX7_writeNearest 36 = .ok (.aload_n 0, 1) := by decide +kernel
theorem dX7_writeNearest_37 : decode cX7_writeNearest 37 = .ok (.bipush 97, 2) := by decide +kernel
theorem dX7_writeNearest_39 : decode cX7_writeNearest 39 = .ok (.iload_n 3, 1) := by decide +kernel
theorem dX7_writeNearest_40 : decode cX7_writeNearest 40 = .ok (.iadd, 1) := by decide +kernel
theorem dX7_writeNearest_41 : decode cX7_writeNearest 41 = .ok (.invokevirtual 111, 3) := by decide +kernel
theorem dX7_writeNearest_44 : decode cX7_writeNearest 44 = .ok (.iload_n 1, 1) := by decide +kernel
theorem dX7_writeNearest_45 : decode cX7_writeNearest 45 = .ok (.aload_n 0, 1) := by decide +kernel
theorem dX7_writeNearest_46 : decode cX7_writeNearest 46 = .ok (.getfield 32, 3) := by decide +kernel
theorem dX7_writeNearest_49 : decode cX7_writeNearest 49 = .ok (.iload_n 3, 1) := by decide +kernel
theorem dX7_writeNearest_50 : decode cX7_writeNearest 50 = .ok (.invokevirtual 88, 3) := by decide +kernel
theorem dX7_writeNearest_53 : decode cX7_writeNearest 53 = .ok (.iadd, 1) := by decide +kernel
theorem dX7_writeNearest_54 : decode cX7_writeNearest 54 = .ok (.istore_n 1, 1) := by decide +kernel
theorem dX7_writeNearest_55 : decode cX7_writeNearest 55 = .ok (.iload_n 1, 1) := by decide +kernel
theorem dX7_writeNearest_56 : decode cX7_writeNearest 56 = .ok (.aload_n 0, 1) := by decide +kernel
theorem dX7_writeNearest_57 : decode cX7_writeNearest 57 = .ok (.getfield 76, 3) := by decide +kernel
theorem dX7_writeNearest_60 : decode cX7_writeNearest 60 = .ok (.if_icmp .ge 27, 3) := by decide +kernel
theorem dX7_writeNearest_63 : decode cX7_writeNearest 63 = .ok (.aload_n 0, 1) := by decide +kernel
theorem dX7_writeNearest_64 : decode cX7_writeNearest 64 = .ok (.iconst 2, 1) := by decide +kernel
theorem dX7_writeNearest_65 : decode cX7_writeNearest 65 = .ok (.iload_n 1, 1) := by decide +kernel
theorem dX7_writeNearest_66 : decode cX7_writeNearest 66 = .ok (.imul, 1) := by decide +kernel
theorem dX7_writeNearest_67 : decode cX7_writeNearest 67 = .ok (.iconst 1, 1) := by decide +kernel
theorem dX7_writeNearest_68 : decode cX7_writeNearest 68 = .ok (.isub, 1) := by decide +kernel
theorem dX7_writeNearest_69 : decode cX7_writeNearest 69 = .ok (.iconst 3, 1) := by decide +kernel
theorem dX7_writeNearest_70 : decode cX7_writeNearest 70 = .ok (.invokevirtual 102, 3) := by decide +kernel
theorem dX7_writeNearest_73 : decode cX7_writeNearest 73 = .ok (.aload_n 0, 1) := by decide +kernel
theorem dX7_writeNearest_74 : decode cX7_writeNearest 74 = .ok (.iload_n 1, 1) := by decide +kernel
theorem dX7_writeNearest_75 : decode cX7_writeNearest 75 = .ok (.invokevirtual 115, 3) := by decide +kernel
theorem dX7_writeNearest_78 : decode cX7_writeNearest 78 = .ok (.if_icmp .eq 9, 3) := by decide +kernel
theorem dX7_writeNearest_81 : decode cX7_writeNearest 81 = .ok (.aload_n 0, 1) := by decide +kernel
theorem dX7_writeNearest_82 : decode cX7_writeNearest 82 = .ok (.bipush 32, 2) := by decide +kernel
theorem dX7_writeNearest_84 : decode cX7_writeNearest 84 = .ok (.invokevirtual 111, 3) := by decide +kernel
theorem dX7_writeNearest_87 : decode cX7_writeNearest 87 = .ok (.iinc 2 1, 3) := by decide +kernel
theorem dX7_writeNearest_90 : decode cX7_writeNearest 90 = .ok (.goto (-81), 3) := by decide +kernel
theorem dX7_writeNearest_93 : decode cX7_writeNearest 93 = .ok (.return_, 1) := by decide +kernel
theorem dX7_write_0 : decode cX7_write 0 = .ok (.aload_n 0, 1) := by decide +kernel
theorem dX7_write_1 : decode cX7_write 1 = .ok (.getfield 108, 3) := by decide +kernel
theorem dX7_write_4 : decode cX7_write 4 = .ok (.bipush 120, 2) := by decide +kernel
theorem dX7_write_6 : decode cX7_write 6 = .ok (.if_icmp .ge 23, 3) := by decide +kernel
theorem dX7_write_9 : decode cX7_write 9 = .ok (.aload_n 0, 1) := by decide +kernel
theorem dX7_write_10 : decode cX7_write 10 = .ok (.getfield 29, 3) := by decide +kernel
theorem dX7_write_13 : decode cX7_write 13 = .ok (.aload_n 0, 1) := by decide +kernel
theorem dX7_write_14 : decode cX7_write 14 = .ok (.getfield 108, 3) := by decide +kernel
theorem dX7_write_17 : decode cX7_write 17 = .ok (.iload_n 1, 1) := by decide +kernel
theorem dX7_write_18 : decode cX7_write 18 = .ok (.iastore, 1) := by decide +kernel
theorem dX7_write_19 : decode cX7_write 19 = .ok (.aload_n 0, 1) := by decide +kernel
theorem dX7_write_20 : decode cX7_write 20 = .ok (.dup, 1) := by decide +kernel
theorem dX7_write_21 : decode cX7_write 21 = .ok (.getfield 108, 3) := by decide +kernel
theorem dX7_write_24 : decode cX7_write 24 = .ok (.iconst 1, 1) := by decide +kernel
theorem dX7_write_25 : decode cX7_write 25 = .ok (.iadd, 1) := by decide +kernel
theorem dX7_write_26 : decode cX7_write 26 = .ok (.putfield 108, 3) := by decide +kernel
theorem dX7_write_29 : decode cX7_write 29 = .ok (.return_, 1) := by decide +kernel
theorem dX7_rowSize_0 : decode cX7_rowSize 0 = .ok (.aload_n 0, 1) := by decide +kernel
theorem dX7_rowSize_1 : decode cX7_rowSize 1 = .ok (.getfield 108, 3) := by decide +kernel
theorem dX7_rowSize_4 : decode cX7_rowSize 4 = .ok (.ireturn, 1) := by decide +kernel
theorem dX7_rowAt_0 : decode cX7_rowAt 0 = .ok (.iload_n 1, 1) := by decide +kernel
theorem dX7_rowAt_1 : decode cX7_rowAt 1 = .ok (.ifCond .lt 20, 3) := by decide +kernel
theorem dX7_rowAt_4 : decode cX7_rowAt 4 = .ok (.iload_n 1, 1) := by decide +kernel
theorem dX7_rowAt_5 : decode cX7_rowAt 5 = .ok (.aload_n 0, 1) := by decide +kernel
theorem dX7_rowAt_6 : decode cX7_rowAt 6 = .ok (.getfield 108, 3) := by decide +kernel
theorem dX7_rowAt_9 : decode cX7_rowAt 9 = .ok (.if_icmp .ge 12, 3) := by decide +kernel
theorem dX7_rowAt_12 : decode cX7_rowAt 12 = .ok (.aload_n 0, 1) := by decide +kernel
theorem dX7_rowAt_13 : decode cX7_rowAt 13 = .ok (.getfield 29, 3) := by decide +kernel
theorem dX7_rowAt_16 : decode cX7_rowAt 16 = .ok (.iload_n 1, 1) := by decide +kernel
theorem dX7_rowAt_17 : decode cX7_rowAt 17 = .ok (.iaload, 1) := by decide +kernel
theorem dX7_rowAt_18 : decode cX7_rowAt 18 = .ok (.goto 4, 3) := by decide +kernel
theorem dX7_rowAt_21 : decode cX7_rowAt 21 = .ok (.iconst (-1), 1) := by decide +kernel
theorem dX7_rowAt_22 : decode cX7_rowAt 22 = .ok (.ireturn, 1) := by decide +kernel
theorem dX7_costFrom_0 : decode cX7_costFrom 0 = .ok (.aload_n 0, 1) := by decide +kernel
theorem dX7_costFrom_1 : decode cX7_costFrom 1 = .ok (.iload_n 1, 1) := by decide +kernel
theorem dX7_costFrom_2 : decode cX7_costFrom 2 = .ok (.iload_n 2, 1) := by decide +kernel
theorem dX7_costFrom_3 : decode cX7_costFrom 3 = .ok (.invokevirtual 85, 3) := by decide +kernel
theorem dX7_costFrom_6 : decode cX7_costFrom 6 = .ok (.istore_n 3, 1) := by decide +kernel
theorem dX7_costFrom_7 : decode cX7_costFrom 7 = .ok (.iload_n 1, 1) := by decide +kernel
theorem dX7_costFrom_8 : decode cX7_costFrom 8 = .ok (.aload_n 0, 1) := by decide +kernel
theorem dX7_costFrom_9 : decode cX7_costFrom 9 = .ok (.getfield 32, 3) := by decide +kernel
theorem dX7_costFrom_12 : decode cX7_costFrom 12 = .ok (.iload_n 2, 1) := by decide +kernel
theorem dX7_costFrom_13 : decode cX7_costFrom 13 = .ok (.invokevirtual 88, 3) := by decide +kernel
theorem dX7_costFrom_16 : decode cX7_costFrom 16 = .ok (.iadd, 1) := by decide +kernel
theorem dX7_costFrom_17 : decode cX7_costFrom 17 = .ok (.istore 4, 2) := by decide +kernel
theorem dX7_costFrom_19 : decode cX7_costFrom 19 = .ok (.iload_n 3, 1) := by decide +kernel
theorem dX7_costFrom_20 : decode cX7_costFrom 20 = .ok (.iconst (-1), 1) := by decide +kernel
theorem dX7_costFrom_21 : decode cX7_costFrom 21 = .ok (.if_icmp .eq 12, 3) := by decide +kernel
theorem dX7_costFrom_24 : decode cX7_costFrom 24 = .ok (.iload 4, 2) := by decide +kernel
theorem dX7_costFrom_26 : decode cX7_costFrom 26 = .ok (.aload_n 0, 1) := by decide +kernel
theorem dX7_costFrom_27 : decode cX7_costFrom 27 = .ok (.getfield 76, 3) := by decide +kernel
theorem dX7_costFrom_30 : decode cX7_costFrom 30 = .ok (.if_icmp .lt 5, 3) := by decide +kernel
theorem dX7_costFrom_33 : decode cX7_costFrom 33 = .ok (.iload_n 3, 1) := by decide +kernel
theorem dX7_costFrom_34 : decode cX7_costFrom 34 = .ok (.ireturn, 1) := by decide +kernel
theorem dX7_costFrom_35 : decode cX7_costFrom 35 = .ok (.aload_n 0, 1) := by decide +kernel
theorem dX7_costFrom_36 : decode cX7_costFrom 36 = .ok (.iload 4, 2) := by decide +kernel
theorem dX7_costFrom_38 : decode cX7_costFrom 38 = .ok (.invokevirtual 115, 3) := by decide +kernel
theorem dX7_costFrom_41 : decode cX7_costFrom 41 = .ok (.istore 5, 2) := by decide +kernel
theorem dX7_costFrom_43 : decode cX7_costFrom 43 = .ok (.iload 5, 2) := by decide +kernel
theorem dX7_costFrom_45 : decode cX7_costFrom 45 = .ok (.iconst (-1), 1) := by decide +kernel
theorem dX7_costFrom_46 : decode cX7_costFrom 46 = .ok (.if_icmp .eq 14, 3) := by decide +kernel
theorem dX7_costFrom_49 : decode cX7_costFrom 49 = .ok (.aload_n 0, 1) := by decide +kernel
theorem dX7_costFrom_50 : decode cX7_costFrom 50 = .ok (.getfield 23, 3) := by decide +kernel
theorem dX7_costFrom_53 : decode cX7_costFrom 53 = .ok (.iload 4, 2) := by decide +kernel
theorem dX7_costFrom_55 : decode cX7_costFrom 55 = .ok (.iaload, 1) := by decide +kernel
theorem dX7_costFrom_56 : decode cX7_costFrom 56 = .ok (.iconst (-1), 1) := by decide +kernel
theorem dX7_costFrom_57 : decode cX7_costFrom 57 = .ok (.if_icmp .ne 7, 3) := by decide +kernel
theorem dX7_costFrom_60 : decode cX7_costFrom 60 = .ok (.iconst (-1), 1) := by decide +kernel
theorem dX7_costFrom_61 : decode cX7_costFrom 61 = .ok (.goto 15, 3) := by decide +kernel
theorem dX7_costFrom_64 : decode cX7_costFrom 64 = .ok (.iload_n 3, 1) := by decide +kernel
theorem dX7_costFrom_65 : decode cX7_costFrom 65 = .ok (.iload 5, 2) := by decide +kernel
theorem dX7_costFrom_67 : decode cX7_costFrom 67 = .ok (.iadd, 1) := by decide +kernel
theorem dX7_costFrom_68 : decode cX7_costFrom 68 = .ok (.aload_n 0, 1) := by decide +kernel
theorem dX7_costFrom_69 : decode cX7_costFrom 69 = .ok (.getfield 23, 3) := by decide +kernel
theorem dX7_costFrom_72 : decode cX7_costFrom 72 = .ok (.iload 4, 2) := by decide +kernel
theorem dX7_costFrom_74 : decode cX7_costFrom 74 = .ok (.iaload, 1) := by decide +kernel
theorem dX7_costFrom_75 : decode cX7_costFrom 75 = .ok (.iadd, 1) := by decide +kernel
theorem dX7_costFrom_76 : decode cX7_costFrom 76 = .ok (.ireturn, 1) := by decide +kernel
theorem dX7_letterCost_0 : decode cX7_letterCost 0 = .ok (.aload_n 0, 1) := by decide +kernel
theorem dX7_letterCost_1 : decode cX7_letterCost 1 = .ok (.getfield 32, 3) := by decide +kernel
theorem dX7_letterCost_4 : decode cX7_letterCost 4 = .ok (.iload_n 2, 1) := by decide +kernel
theorem dX7_letterCost_5 : decode cX7_letterCost 5 = .ok (.invokevirtual 88, 3) := by decide +kernel
theorem dX7_letterCost_8 : decode cX7_letterCost 8 = .ok (.istore_n 3, 1) := by decide +kernel
theorem dX7_letterCost_9 : decode cX7_letterCost 9 = .ok (.iload_n 3, 1) := by decide +kernel
theorem dX7_letterCost_10 : decode cX7_letterCost 10 = .ok (.ifCond .eq 13, 3) := by decide +kernel
theorem dX7_letterCost_13 : decode cX7_letterCost 13 = .ok (.iload_n 1, 1) := by decide +kernel
theorem dX7_letterCost_14 : decode cX7_letterCost 14 = .ok (.iload_n 3, 1) := by decide +kernel
theorem dX7_letterCost_15 : decode cX7_letterCost 15 = .ok (.iadd, 1) := by decide +kernel
theorem dX7_letterCost_16 : decode cX7_letterCost 16 = .ok (.aload_n 0, 1) := by decide +kernel
theorem dX7_letterCost_17 : decode cX7_letterCost 17 = .ok (.getfield 76, 3) := by decide +kernel
theorem dX7_letterCost_20 : decode cX7_letterCost 20 = .ok (.if_icmp .le 5, 3) := by decide +kernel
theorem dX7_letterCost_23 : decode cX7_letterCost 23 = .ok (.iconst (-1), 1) := by decide +kernel
theorem dX7_letterCost_24 : decode cX7_letterCost 24 = .ok (.ireturn, 1) := by decide +kernel
theorem dX7_letterCost_25 : decode cX7_letterCost 25 = .ok (.iconst 0, 1) := by decide +kernel
theorem dX7_letterCost_26 : decode cX7_letterCost 26 = .ok (.istore 4, 2) := by decide +kernel
theorem dX7_letterCost_28 : decode cX7_letterCost 28 = .ok (.iconst 0, 1) := by decide +kernel
theorem dX7_letterCost_29 : decode cX7_letterCost 29 = .ok (.istore 5, 2) := by decide +kernel
theorem dX7_letterCost_31 : decode cX7_letterCost 31 = .ok (.iload 5, 2) := by decide +kernel
theorem dX7_letterCost_33 : decode cX7_letterCost 33 = .ok (.iconst 2, 1) := by decide +kernel
theorem dX7_letterCost_34 : decode cX7_letterCost 34 = .ok (.iload_n 3, 1) := by decide +kernel
theorem dX7_letterCost_35 : decode cX7_letterCost 35 = .ok (.imul, 1) := by decide +kernel
theorem dX7_letterCost_36 : decode cX7_letterCost 36 = .ok (.iconst 1, 1) := by decide +kernel
theorem dX7_letterCost_37 : decode cX7_letterCost 37 = .ok (.isub, 1) := by decide +kernel
theorem dX7_letterCost_38 : decode cX7_letterCost 38 = .ok (.if_icmp .ge 63, 3) := by decide +kernel
theorem dX7_letterCost_41 : decode cX7_letterCost 41 = .ok (.iload 5, 2) := by decide +kernel
theorem dX7_letterCost_43 : decode cX7_letterCost 43 = .ok (.iconst 2, 1) := by decide +kernel
theorem dX7_letterCost_44 : decode cX7_letterCost 44 = .ok (.irem, 1) := by decide +kernel
theorem dX7_letterCost_45 : decode cX7_letterCost 45 = .ok (.ifCond .ne 18, 3) := by decide +kernel
theorem dX7_letterCost_48 : decode cX7_letterCost 48 = .ok (.aload_n 0, 1) := by decide +kernel
theorem dX7_letterCost_49 : decode cX7_letterCost 49 = .ok (.getfield 32, 3) := by decide +kernel
theorem dX7_letterCost_52 : decode cX7_letterCost 52 = .ok (.iload_n 2, 1) := by decide +kernel
theorem dX7_letterCost_53 : decode cX7_letterCost 53 = .ok (.iload 5, 2) := by decide +kernel
theorem dX7_letterCost_55 : decode cX7_letterCost 55 = .ok (.iconst 2, 1) := by decide +kernel
theorem dX7_letterCost_56 : decode cX7_letterCost 56 = .ok (.idiv, 1) := by decide +kernel
theorem dX7_letterCost_57 : decode cX7_letterCost 57 = .ok (.invokevirtual 118, 3) := by decide +kernel
theorem dX7_letterCost_60 : decode cX7_letterCost 60 = .ok (.goto 4, 3) := by decide +kernel
theorem dX7_letterCost_63 : decode cX7_letterCost 63 = .ok (.iconst 2, 1) := by decide +kernel
theorem dX7_letterCost_64 : decode cX7_letterCost 64 = .ok (.istore 6, 2) := by decide +kernel
theorem dX7_letterCost_66 : decode cX7_letterCost 66 = .ok (.aload_n 0, 1) := by decide +kernel
theorem dX7_letterCost_67 : decode cX7_letterCost 67 = .ok (.iconst 2, 1) := by decide +kernel
theorem dX7_letterCost_68 : decode cX7_letterCost 68 = .ok (.iload_n 1, 1) := by decide +kernel
theorem dX7_letterCost_69 : decode cX7_letterCost 69 = .ok (.imul, 1) := by decide +kernel
theorem dX7_letterCost_70 : decode cX7_letterCost 70 = .ok (.iload 5, 2) := by decide +kernel
theorem dX7_letterCost_72 : decode cX7_letterCost 72 = .ok (.iadd, 1) := by decide +kernel
theorem dX7_letterCost_73 : decode cX7_letterCost 73 = .ok (.iload 6, 2) := by decide +kernel
theorem dX7_letterCost_75 : decode cX7_letterCost 75 = .ok (.invokevirtual 102, 3) := by decide +kernel
theorem dX7_letterCost_78 : decode cX7_letterCost 78 = .ok (.istore 7, 2) := by decide +kernel
theorem dX7_letterCost_80 : decode cX7_letterCost 80 = .ok (.iload 7, 2) := by decide +kernel
theorem dX7_letterCost_82 : decode cX7_letterCost 82 = .ok (.iconst (-1), 1) := by decide +kernel
theorem dX7_letterCost_83 : decode cX7_letterCost 83 = .ok (.if_icmp .ne 5, 3) := by decide +kernel
theorem dX7_letterCost_86 : decode cX7_letterCost 86 = .ok (.iconst (-1), 1) := by decide +kernel
theorem dX7_letterCost_87 : decode cX7_letterCost 87 = .ok (.ireturn, 1) := by decide +kernel
theorem dX7_letterCost_88 : decode cX7_letterCost 88 = .ok (.iload 4, 2) := by decide +kernel
theorem dX7_letterCost_90 : decode cX7_letterCost 90 = .ok (.iload 7, 2) := by decide +kernel
theorem dX7_letterCost_92 : decode cX7_letterCost 92 = .ok (.iadd, 1) := by decide +kernel
theorem dX7_letterCost_93 : decode cX7_letterCost 93 = .ok (.istore 4, 2) := by decide +kernel
theorem dX7_letterCost_95 : decode cX7_letterCost 95 = .ok (.iinc 5 1, 3) := by decide +kernel
theorem dX7_letterCost_98 : decode cX7_letterCost 98 = .ok (.goto (-67), 3) := by decide +kernel
theorem dX7_letterCost_101 : decode cX7_letterCost 101 = .ok (.iload 4, 2) := by decide +kernel
theorem dX7_letterCost_103 : decode cX7_letterCost 103 = .ok (.ireturn, 1) := by decide +kernel
theorem dX7_gapCost_0 : decode cX7_gapCost 0 = .ok (.aload_n 0, 1) := by decide +kernel
theorem dX7_gapCost_1 : decode cX7_gapCost 1 = .ok (.iconst 2, 1) := by decide +kernel
theorem dX7_gapCost_2 : decode cX7_gapCost 2 = .ok (.iload_n 1, 1) := by decide +kernel
theorem dX7_gapCost_3 : decode cX7_gapCost 3 = .ok (.imul, 1) := by decide +kernel
theorem dX7_gapCost_4 : decode cX7_gapCost 4 = .ok (.iconst 1, 1) := by decide +kernel
theorem dX7_gapCost_5 : decode cX7_gapCost 5 = .ok (.isub, 1) := by decide +kernel
theorem dX7_gapCost_6 : decode cX7_gapCost 6 = .ok (.iconst 3, 1) := by decide +kernel
theorem dX7_gapCost_7 : decode cX7_gapCost 7 = .ok (.invokevirtual 102, 3) := by decide +kernel
theorem dX7_gapCost_10 : decode cX7_gapCost 10 = .ok (.istore_n 2, 1) := by decide +kernel
theorem dX7_gapCost_11 : decode cX7_gapCost 11 = .ok (.aload_n 0, 1) := by decide +kernel
theorem dX7_gapCost_12 : decode cX7_gapCost 12 = .ok (.iconst 2, 1) := by decide +kernel
theorem dX7_gapCost_13 : decode cX7_gapCost 13 = .ok (.iload_n 1, 1) := by decide +kernel
theorem dX7_gapCost_14 : decode cX7_gapCost 14 = .ok (.imul, 1) := by decide +kernel
theorem dX7_gapCost_15 : decode cX7_gapCost 15 = .ok (.iconst 1, 1) := by decide +kernel
theorem dX7_gapCost_16 : decode cX7_gapCost 16 = .ok (.isub, 1) := by decide +kernel
theorem dX7_gapCost_17 : decode cX7_gapCost 17 = .ok (.iconst 4, 1) := by decide +kernel
theorem dX7_gapCost_18 : decode cX7_gapCost 18 = .ok (.invokevirtual 102, 3) := by decide +kernel
theorem dX7_gapCost_21 : decode cX7_gapCost 21 = .ok (.istore_n 3, 1) := by decide +kernel
theorem dX7_gapCost_22 : decode cX7_gapCost 22 = .ok (.iload_n 2, 1) := by decide +kernel
theorem dX7_gapCost_23 : decode cX7_gapCost 23 = .ok (.iconst (-1), 1) := by decide +kernel
theorem dX7_gapCost_24 : decode cX7_gapCost 24 = .ok (.if_icmp .eq 8, 3) := by decide +kernel
theorem dX7_gapCost_27 : decode cX7_gapCost 27 = .ok (.iload_n 3, 1) := by decide +kernel
theorem dX7_gapCost_28 : decode cX7_gapCost 28 = .ok (.iconst (-1), 1) := by decide +kernel
theorem dX7_gapCost_29 : decode cX7_gapCost 29 = .ok (.if_icmp .ne 9, 3) := by decide +kernel
theorem dX7_gapCost_32 : decode cX7_gapCost 32 = .ok (.iload_n 2, 1) := by decide +kernel
theorem dX7_gapCost_33 : decode cX7_gapCost 33 = .ok (.iload_n 3, 1) := by decide +kernel
theorem dX7_gapCost_34 : decode cX7_gapCost 34 = .ok (.invokestatic 121, 3) := by decide +kernel
theorem dX7_gapCost_37 : decode cX7_gapCost 37 = .ok (.ireturn, 1) := by decide +kernel
theorem dX7_gapCost_38 : decode cX7_gapCost 38 = .ok (.iload_n 2, 1) := by decide +kernel
theorem dX7_gapCost_39 : decode cX7_gapCost 39 = .ok (.iload_n 3, 1) := by decide +kernel
theorem dX7_gapCost_40 : decode cX7_gapCost 40 = .ok (.invokestatic 71, 3) := by decide +kernel
theorem dX7_gapCost_43 : decode cX7_gapCost 43 = .ok (.ireturn, 1) := by decide +kernel
theorem dX8_init_0 : decode cX8_init 0 = .ok (.aload_n 0, 1) := by decide +kernel
theorem dX8_init_1 : decode cX8_init 1 = .ok (.invokespecial 3, 3) := by decide +kernel
theorem dX8_init_4 : decode cX8_init 4 = .ok (.aload_n 0, 1) := by decide +kernel
theorem dX8_init_5 : decode cX8_init 5 = .ok (.bipush 120, 2) := by decide +kernel
theorem dX8_init_7 : decode cX8_init 7 = .ok (.newarray .int, 2) := by decide +kernel
theorem dX8_init_9 : decode cX8_init 9 = .ok (.putfield 11, 3) := by decide +kernel
theorem dX8_init_12 : decode cX8_init 12 = .ok (.aload_n 0, 1) := by decide +kernel
theorem dX8_init_13 : decode cX8_init 13 = .ok (.bipush 120, 2) := by decide +kernel
theorem dX8_init_15 : decode cX8_init 15 = .ok (.newarray .int, 2) := by decide +kernel
theorem dX8_init_17 : decode cX8_init 17 = .ok (.putfield 17, 3) := by decide +kernel
theorem dX8_init_20 : decode cX8_init 20 = .ok (.aload_n 0, 1) := by decide +kernel
theorem dX8_init_21 : decode cX8_init 21 = .ok (.aload_n 1, 1) := by decide +kernel
theorem dX8_init_22 : decode cX8_init 22 = .ok (.putfield 20, 3) := by decide +kernel
theorem dX8_init_25 : decode cX8_init 25 = .ok (.aload_n 0, 1) := by decide +kernel
theorem dX8_init_26 : decode cX8_init 26 = .ok (.aload_n 2, 1) := by decide +kernel
theorem dX8_init_27 : decode cX8_init 27 = .ok (.putfield 24, 3) := by decide +kernel
theorem dX8_init_30 : decode cX8_init 30 = .ok (.return_, 1) := by decide +kernel
theorem dX8_size_0 : decode cX8_size 0 = .ok (.aload_n 0, 1) := by decide +kernel
theorem dX8_size_1 : decode cX8_size 1 = .ok (.getfield 28, 3) := by decide +kernel
theorem dX8_size_4 : decode cX8_size 4 = .ok (.ireturn, 1) := by decide +kernel
theorem dX8_kindAt_0 : decode cX8_kindAt 0 = .ok (.iload_n 1, 1) := by decide +kernel
theorem dX8_kindAt_1 : decode cX8_kindAt 1 = .ok (.ifCond .lt 20, 3) := by decide +kernel
theorem dX8_kindAt_4 : decode cX8_kindAt 4 = .ok (.iload_n 1, 1) := by decide +kernel
theorem dX8_kindAt_5 : decode cX8_kindAt 5 = .ok (.aload_n 0, 1) := by decide +kernel
theorem dX8_kindAt_6 : decode cX8_kindAt 6 = .ok (.getfield 28, 3) := by decide +kernel
theorem dX8_kindAt_9 : decode cX8_kindAt 9 = .ok (.if_icmp .ge 12, 3) := by decide +kernel
theorem dX8_kindAt_12 : decode cX8_kindAt 12 = .ok (.aload_n 0, 1) := by decide +kernel
theorem dX8_kindAt_13 : decode cX8_kindAt 13 = .ok (.getfield 11, 3) := by decide +kernel
theorem dX8_kindAt_16 : decode cX8_kindAt 16 = .ok (.iload_n 1, 1) := by decide +kernel
theorem dX8_kindAt_17 : decode cX8_kindAt 17 = .ok (.iaload, 1) := by decide +kernel
theorem dX8_kindAt_18 : decode cX8_kindAt 18 = .ok (.goto 4, 3) := by decide +kernel
theorem dX8_kindAt_21 : decode cX8_kindAt 21 = .ok (.iconst (-1), 1) := by decide +kernel
theorem dX8_kindAt_22 : decode cX8_kindAt 22 = .ok (.ireturn, 1) := by decide +kernel
theorem dX8_isThere_0 : decode cX8_isThere 0 = .ok (.iconst 0, 1) := by decide +kernel
theorem dX8_isThere_1 : decode cX8_isThere 1 = .ok (.istore_n 1, 1) := by decide +kernel
theorem dX8_isThere_2 : decode cX8_isThere 2 = .ok (.iconst 0, 1) := by decide +kernel
theorem dX8_isThere_3 : decode cX8_isThere 3 = .ok (.istore_n 2, 1) := by decide +kernel
theorem dX8_isThere_4 : decode cX8_isThere 4 = .ok (.iload_n 2, 1) := by decide +kernel
theorem dX8_isThere_5 : decode cX8_isThere 5 = .ok (.aload_n 0, 1) := by decide +kernel
theorem dX8_isThere_6 : decode cX8_isThere 6 = .ok (.getfield 20, 3) := by decide +kernel
theorem dX8_isThere_9 : decode cX8_isThere 9 = .ok (.invokevirtual 32, 3) := by decide +kernel
theorem dX8_isThere_12 : decode cX8_isThere 12 = .ok (.if_icmp .ge 49, 3) := by decide +kernel
theorem dX8_isThere_15 : decode cX8_isThere 15 = .ok (.aload_n 0, 1) := by decide +kernel
theorem dX8_isThere_16 : decode cX8_isThere 16 = .ok (.getfield 20, 3) := by decide +kernel
theorem dX8_isThere_19 : decode cX8_isThere 19 = .ok (.iload_n 2, 1) := by decide +kernel
theorem dX8_isThere_20 : decode cX8_isThere 20 = .ok (.invokevirtual 37, 3) := by decide +kernel
theorem dX8_isThere_23 : decode cX8_isThere 23 = .ok (.ifCond .eq 8, 3) := by decide +kernel
theorem dX8_isThere_26 : decode cX8_isThere 26 = .ok (.iconst 1, 1) := by decide +kernel
theorem dX8_isThere_27 : decode cX8_isThere 27 = .ok (.istore_n 1, 1) := by decide +kernel
theorem dX8_isThere_28 : decode cX8_isThere 28 = .ok (.goto 27, 3) := by decide +kernel
theorem dX8_isThere_31 : decode cX8_isThere 31 = .ok (.aload_n 0, 1) := by decide +kernel
theorem dX8_isThere_32 : decode cX8_isThere 32 = .ok (.getfield 20, 3) := by decide +kernel
theorem dX8_isThere_35 : decode cX8_isThere 35 = .ok (.iload_n 2, 1) := by decide +kernel
theorem dX8_isThere_36 : decode cX8_isThere 36 = .ok (.invokevirtual 41, 3) := by decide +kernel
theorem dX8_isThere_39 : decode cX8_isThere 39 = .ok (.bipush 32, 2) := by decide +kernel
theorem dX8_isThere_41 : decode cX8_isThere 41 = .ok (.if_icmp .ne 12, 3) := by decide +kernel
theorem dX8_isThere_44 : decode cX8_isThere 44 = .ok (.iload_n 1, 1) := by decide +kernel
theorem dX8_isThere_45 : decode cX8_isThere 45 = .ok (.ifCond .eq 8, 3) := by decide +kernel
theorem dX8_isThere_48 : decode cX8_isThere 48 = .ok (.iconst 0, 1) := by decide +kernel
theorem dX8_isThere_49 : decode cX8_isThere 49 = .ok (.istore_n 1, 1) := by decide +kernel
theorem dX8_isThere_50 : decode cX8_isThere 50 = .ok (.goto 5, 3) := by decide +kernel
theorem dX8_isThere_53 : decode cX8_isThere 53 = .ok (.iconst 0, 1) := by decide +kernel
theorem dX8_isThere_54 : decode cX8_isThere 54 = .ok (.ireturn, 1) := by decide +kernel
theorem dX8_isThere_55 : decode cX8_isThere 55 = .ok (.iinc 2 1, 3) := by decide +kernel
theorem dX8_isThere_58 : decode cX8_isThere 58 = .ok (.goto (-54), 3) := by decide +kernel
theorem dX8_isThere_61 : decode cX8_isThere 61 = .ok (.iload_n 1, 1) := by decide +kernel
theorem dX8_isThere_62 : decode cX8_isThere 62 = .ok (.ireturn, 1) := by decide +kernel
theorem dX8_spell_0 : decode cX8_spell 0 = .ok (.aload_n 0, 1) := by decide +kernel
theorem dX8_spell_1 : decode cX8_spell 1 = .ok (.iconst 0, 1) := by decide +kernel
theorem dX8_spell_2 : decode cX8_spell 2 = .ok (.putfield 28, 3) := by decide +kernel
theorem dX8_spell_5 : decode cX8_spell 5 = .ok (.iconst (-1), 1) := by decide +kernel
theorem dX8_spell_6 : decode cX8_spell 6 = .ok (.istore_n 1, 1) := by decide +kernel
theorem dX8_spell_7 : decode cX8_spell 7 = .ok (.iconst 0, 1) := by decide +kernel
theorem dX8_spell_8 : decode cX8_spell 8 = .ok (.istore_n 2, 1) := by decide +kernel
theorem dX8_spell_9 : decode cX8_spell 9 = .ok (.iload_n 2, 1) := by decide +kernel
theorem dX8_spell_10 : decode cX8_spell 10 = .ok (.aload_n 0, 1) := by decide +kernel
theorem dX8_spell_11 : decode cX8_spell 11 = .ok (.getfield 20, 3) := by decide +kernel
theorem dX8_spell_14 : decode cX8_spell 14 = .ok (.invokevirtual 32, 3) := by decide +kernel
theorem dX8_spell_17 : decode cX8_spell 17 = .ok (.if_icmp .ge 58, 3) := by decide +kernel
theorem dX8_spell_20 : decode cX8_spell 20 = .ok (.aload_n 0, 1) := by decide +kernel
theorem dX8_spell_21 : decode cX8_spell 21 = .ok (.getfield 20, 3) := by decide +kernel
theorem dX8_spell_24 : decode cX8_spell 24 = .ok (.iload_n 2, 1) := by decide +kernel
theorem dX8_spell_25 : decode cX8_spell 25 = .ok (.invokevirtual 41, 3) := by decide +kernel
theorem dX8_spell_28 : decode cX8_spell 28 = .ok (.bipush 32, 2) := by decide +kernel
theorem dX8_spell_30 : decode cX8_spell 30 = .ok (.if_icmp .ne 8, 3) := by decide +kernel
theorem dX8_spell_33 : decode cX8_spell 33 = .ok (.iconst 4, 1) := by decide +kernel
theorem dX8_spell_34 : decode cX8_spell 34 = .ok (.istore_n 1, 1) := by decide +kernel
theorem dX8_spell_35 : decode cX8_spell 35 = .ok (.goto 34, 3) := by decide +kernel
theorem dX8_spell_38 : decode cX8_spell 38 = .ok (.aload_n 0, 1) := by decide +kernel
theorem dX8_spell_39 : decode cX8_spell 39 = .ok (.aload_n 0, 1) := by decide +kernel
theorem dX8_spell_40 : decode cX8_spell 40 = .ok (.getfield 20, 3) := by decide +kernel
theorem dX8_spell_43 : decode cX8_spell 43 = .ok (.iload_n 2, 1) := by decide +kernel
theorem dX8_spell_44 : decode cX8_spell 44 = .ok (.invokevirtual 41, 3) := by decide +kernel
theorem dX8_spell_47 : decode cX8_spell 47 = .ok (.bipush 97, 2) := by decide +kernel
theorem dX8_spell_49 : decode cX8_spell 49 = .ok (.isub, 1) := by decide +kernel
theorem dX8_spell_50 : decode cX8_spell 50 = .ok (.iload_n 1, 1) := by decide +kernel
theorem dX8_spell_51 : decode cX8_spell 51 = .ok (.invokevirtual 45, 3) := by decide +kernel
theorem dX8_spell_54 : decode cX8_spell 54 = .ok (.ifCond .eq 8, 3) := by decide +kernel
theorem dX8_spell_57 : decode cX8_spell 57 = .ok (.iconst 3, 1) := by decide +kernel
theorem dX8_spell_58 : decode cX8_spell 58 = .ok (.istore_n 1, 1) := by decide +kernel
theorem dX8_spell_59 : decode cX8_spell 59 = .ok (.goto 10, 3) := by decide +kernel
theorem dX8_spell_62 : decode cX8_spell 62 = .ok (.aload_n 0, 1) := by decide +kernel
theorem dX8_spell_63 : decode cX8_spell 63 = .ok (.iconst (-1), 1) := by decide +kernel
theorem dX8_spell_64 : decode cX8_spell 64 = .ok (.putfield 28, 3) := by decide +kernel
theorem dX8_spell_67 : decode cX8_spell 67 = .ok (.iconst (-1), 1) := by decide +kernel
theorem dX8_spell_68 : decode cX8_spell 68 = .ok (.ireturn, 1) := by decide +kernel
theorem dX8_spell_69 : decode cX8_spell 69 = .ok (.iinc 2 1, 3) := by decide +kernel
theorem dX8_spell_72 : decode cX8_spell 72 = .ok (.goto (-63), 3) := by decide +kernel
theorem dX8_spell_75 : decode cX8_spell 75 = .ok (.aload_n 0, 1) := by decide +kernel
theorem dX8_spell_76 : decode cX8_spell 76 = .ok (.getfield 28, 3) := by decide +kernel
theorem dX8_spell_79 : decode cX8_spell 79 = .ok (.ireturn, 1) := by decide +kernel
theorem dX8_spellLetter_0 : decode cX8_spellLetter 0 = .ok (.aload_n 0, 1) := by decide +kernel
theorem dX8_spellLetter_1 : decode cX8_spellLetter 1 = .ok (.getfield 24, 3) := by decide +kernel
theorem dX8_spellLetter_4 : decode cX8_spellLetter 4 = .ok (.iload_n 1, 1) := by decide +kernel
theorem dX8_spellLetter_5 : decode cX8_spellLetter 5 = .ok (.invokevirtual 49, 3) := by decide +kernel
theorem dX8_spellLetter_8 : decode cX8_spellLetter 8 = .ok (.istore_n 3, 1) := by decide +kernel
theorem dX8_spellLetter_9 : decode cX8_spellLetter 9 = .ok (.iload_n 3, 1) := by decide +kernel
theorem dX8_spellLetter_10 : decode cX8_spellLetter 10 = .ok (.ifCond .eq 16, 3) := by decide +kernel
theorem dX8_spellLetter_13 : decode cX8_spellLetter 13 = .ok (.aload_n 0, 1) := by decide +kernel
theorem dX8_spellLetter_14 : decode cX8_spellLetter 14 = .ok (.getfield 28, 3) := by decide +kernel
theorem dX8_spellLetter_17 : decode cX8_spellLetter 17 = .ok (.iconst 2, 1) := by decide +kernel
theorem dX8_spellLetter_18 : decode cX8_spellLetter 18 = .ok (.iload_n 3, 1) := by decide +kernel
theorem dX8_spellLetter_19 : decode cX8_spellLetter 19 = .ok (.imul, 1) := by decide +kernel
theorem dX8_spellLetter_20 : decode cX8_spellLetter 20 = .ok (.iadd, 1) := by decide +kernel
theorem dX8_spellLetter_21 : decode cX8_spellLetter 21 = .ok (.bipush 120, 2) := by decide +kernel
theorem dX8_spellLetter_23 : decode cX8_spellLetter 23 = .ok (.if_icmp .le 5, 3) := by decide +kernel
theorem dX8_spellLetter_26 : decode cX8_spellLetter 26 = .ok (.iconst 0, 1) := by decide +kernel
theorem dX8_spellLetter_27 : decode cX8_spellLetter 27 = .ok (.ireturn, 1) := by decide +kernel
theorem dX8_spellLetter_28 : decode cX8_spellLetter 28 = .ok (.iconst 0, 1) := by decide +kernel
theorem dX8_spellLetter_29 : decode cX8_spellLetter 29 = .ok (.istore 4, 2) := by decide +kernel
theorem dX8_spellLetter_31 : decode cX8_spellLetter 31 = .ok (.iload 4, 2) := by decide +kernel
theorem dX8_spellLetter_33 : decode cX8_spellLetter 33 = .ok (.iload_n 3, 1) := by decide +kernel
theorem dX8_spellLetter_34 : decode cX8_spellLetter 34 = .ok (.if_icmp .ge 47, 3) := by decide +kernel
theorem dX8_spellLetter_37 : decode cX8_spellLetter 37 = .ok (.iload 4, 2) := by decide +kernel
theorem dX8_spellLetter_39 : decode cX8_spellLetter 39 = .ok (.ifCond .ne 7, 3) := by decide +kernel
theorem dX8_spellLetter_42 : decode cX8_spellLetter 42 = .ok (.iload_n 2, 1) := by decide +kernel
theorem dX8_spellLetter_43 : decode cX8_spellLetter 43 = .ok (.goto 4, 3) := by decide +kernel
theorem dX8_spellLetter_46 : decode cX8_spellLetter 46 = .ok (.iconst 2, 1) := by decide +kernel
theorem dX8_spellLetter_47 : decode cX8_spellLetter 47 = .ok (.istore 5, 2) := by decide +kernel
theorem dX8_spellLetter_49 : decode cX8_spellLetter 49 = .ok (.iload 5, 2) := by decide +kernel
theorem dX8_spellLetter_51 : decode cX8_spellLetter 51 = .ok (.iconst (-1), 1) := by decide +kernel
theorem dX8_spellLetter_52 : decode cX8_spellLetter 52 = .ok (.if_icmp .eq 9, 3) := by decide +kernel
theorem dX8_spellLetter_55 : decode cX8_spellLetter 55 = .ok (.aload_n 0, 1) := by decide +kernel
theorem dX8_spellLetter_56 : decode cX8_spellLetter 56 = .ok (.iload 5, 2) := by decide +kernel
theorem dX8_spellLetter_58 : decode cX8_spellLetter 58 = .ok (.invokevirtual 54, 3) := by decide +kernel
theorem dX8_spellLetter_61 : decode cX8_spellLetter 61 = .ok (.aload_n 0, 1) := by decide +kernel
theorem dX8_spellLetter_62 : decode cX8_spellLetter 62 = .ok (.aload_n 0, 1) := by decide +kernel
theorem dX8_spellLetter_63 : decode cX8_spellLetter 63 = .ok (.getfield 24, 3) := by decide +kernel
theorem dX8_spellLetter_66 : decode cX8_spellLetter 66 = .ok (.iload_n 1, 1) := by decide +kernel
theorem dX8_spellLetter_67 : decode cX8_spellLetter 67 = .ok (.iload 4, 2) := by decide +kernel
theorem dX8_spellLetter_69 : decode cX8_spellLetter 69 = .ok (.invokevirtual 58, 3) := by decide +kernel
theorem dX8_spellLetter_72 : decode cX8_spellLetter 72 = .ok (.invokevirtual 54, 3) := by decide +kernel
theorem dX8_spellLetter_75 : decode cX8_spellLetter 75 = .ok (.iinc 4 1, 3) := by decide +kernel
theorem dX8_spellLetter_78 : decode cX8_spellLetter 78 = .ok (.goto (-47), 3) := by decide +kernel
theorem dX8_spellLetter_81 : decode cX8_spellLetter 81 = .ok (.iconst 1, 1) := by decide +kernel
theorem dX8_spellLetter_82 : decode cX8_spellLetter 82 = .ok (.ireturn, 1) := by decide +kernel
theorem dX8_addKind_0 : decode cX8_addKind 0 = .ok (.aload_n 0, 1) := by decide +kernel
theorem dX8_addKind_1 : decode cX8_addKind 1 = .ok (.getfield 28, 3) := by decide +kernel
theorem dX8_addKind_4 : decode cX8_addKind 4 = .ok (.ifCond .lt 32, 3) := by decide +kernel
theorem dX8_addKind_7 : decode cX8_addKind 7 = .ok (.aload_n 0, 1) := by decide +kernel
theorem dX8_addKind_8 : decode cX8_addKind 8 = .ok (.getfield 28, 3) := by decide +kernel
theorem dX8_addKind_11 : decode cX8_addKind 11 = .ok (.bipush 120, 2) := by decide +kernel
theorem dX8_addKind_13 : decode cX8_addKind 13 = .ok (.if_icmp .ge 23, 3) := by decide +kernel
theorem dX8_addKind_16 : decode cX8_addKind 16 = .ok (.aload_n 0, 1) := by decide +kernel
theorem dX8_addKind_17 : decode cX8_addKind 17 = .ok (.getfield 11, 3) := by decide +kernel
theorem dX8_addKind_20 : decode cX8_addKind 20 = .ok (.aload_n 0, 1) := by decide +kernel
theorem dX8_addKind_21 : decode cX8_addKind 21 = .ok (.getfield 28, 3) := by decide +kernel
theorem dX8_addKind_24 : decode cX8_addKind 24 = .ok (.iload_n 1, 1) := by decide +kernel
theorem dX8_addKind_25 : decode cX8_addKind 25 = .ok (.iastore, 1) := by decide +kernel
theorem dX8_addKind_26 : decode cX8_addKind 26 = .ok (.aload_n 0, 1) := by decide +kernel
theorem dX8_addKind_27 : decode cX8_addKind 27 = .ok (.dup, 1) := by decide +kernel
theorem dX8_addKind_28 : decode cX8_addKind 28 = .ok (.getfield 28, 3) := by decide +kernel
theorem dX8_addKind_31 : decode cX8_addKind 31 = .ok (.iconst 1, 1) := by decide +kernel
theorem dX8_addKind_32 : decode cX8_addKind 32 = .ok (.iadd, 1) := by decide +kernel
theorem dX8_addKind_33 : decode cX8_addKind 33 = .ok (.putfield 28, 3) := by decide +kernel
theorem dX8_addKind_36 : decode cX8_addKind 36 = .ok (.return_, 1) := by decide +kernel
theorem dX8_draw_0 : decode cX8_draw 0 = .ok (.iload_n 3, 1) := by decide +kernel
theorem dX8_draw_1 : decode cX8_draw 1 = .ok (.i2l, 1) := by decide +kernel
theorem dX8_draw_2 : decode cX8_draw 2 = .ok (.lstore 4, 2) := by decide +kernel
theorem dX8_draw_4 : decode cX8_draw 4 = .ok (.iconst 0, 1) := by decide +kernel
theorem dX8_draw_5 : decode cX8_draw 5 = .ok (.istore 6, 2) := by decide +kernel
theorem dX8_draw_7 : decode cX8_draw 7 = .ok (.iload 6, 2) := by decide +kernel
theorem dX8_draw_9 : decode cX8_draw 9 = .ok (.aload_n 0, 1) := by decide +kernel
theorem dX8_draw_10 : decode cX8_draw 10 = .ok (.getfield 28, 3) := by decide +kernel
theorem dX8_draw_13 : decode cX8_draw 13 = .ok (.if_icmp .ge 83, 3) := by decide +kernel
theorem dX8_draw_16 : decode cX8_draw 16 = .ok (.lload 4, 2) := by decide +kernel
theorem dX8_draw_18 : decode cX8_draw 18 = .ok (.ldc2_w 62, 3) := by decide +kernel
theorem dX8_draw_21 : decode cX8_draw 21 = .ok (.lmul, 1) := by decide +kernel
theorem dX8_draw_22 : decode cX8_draw 22 = .ok (.ldc2_w 64, 3) := by decide +kernel
theorem dX8_draw_25 : decode cX8_draw 25 = .ok (.ladd, 1) := by decide +kernel
theorem dX8_draw_26 : decode cX8_draw 26 = .ok (.ldc2_w 66, 3) := by decide +kernel
theorem dX8_draw_29 : decode cX8_draw 29 = .ok (.land, 1) := by decide +kernel
theorem dX8_draw_30 : decode cX8_draw 30 = .ok (.lstore 4, 2) := by decide +kernel
theorem dX8_draw_32 : decode cX8_draw 32 = .ok (.aload_n 1, 1) := by decide +kernel
theorem dX8_draw_33 : decode cX8_draw 33 = .ok (.iload_n 2, 1) := by decide +kernel
theorem dX8_draw_34 : decode cX8_draw 34 = .ok (.aload_n 0, 1) := by decide +kernel
theorem dX8_draw_35 : decode cX8_draw 35 = .ok (.getfield 11, 3) := by decide +kernel
theorem dX8_draw_38 : decode cX8_draw 38 = .ok (.iload 6, 2) := by decide +kernel
theorem dX8_draw_40 : decode cX8_draw 40 = .ok (.iaload, 1) := by decide +kernel
theorem dX8_draw_41 : decode cX8_draw 41 = .ok (.invokevirtual 68, 3) := by decide +kernel
theorem dX8_draw_44 : decode cX8_draw 44 = .ok (.istore 7, 2) := by decide +kernel
theorem dX8_draw_46 : decode cX8_draw 46 = .ok (.iload 7, 2) := by decide +kernel
theorem dX8_draw_48 : decode cX8_draw 48 = .ok (.ifCond .le 16, 3) := by decide +kernel
theorem dX8_draw_51 : decode cX8_draw 51 = .ok (.lload 4, 2) := by decide +kernel
theorem dX8_draw_53 : decode cX8_draw 53 = .ok (.ldc2_w 73, 3) := by decide +kernel
theorem dX8_draw_56 : decode cX8_draw 56 = .ok (.ldiv, 1) := by decide +kernel
theorem dX8_draw_57 : decode cX8_draw 57 = .ok (.iload 7, 2) := by decide +kernel
theorem dX8_draw_59 : decode cX8_draw 59 = .ok (.i2l, 1) := by decide +kernel
theorem dX8_draw_60 : decode cX8_draw 60 = .ok (.lrem, 1) := by decide +kernel
theorem dX8_draw_61 : decode cX8_draw 61 = .ok (.goto 4, 3) := by decide +kernel
theorem dX8_draw_64 : decode cX8_draw 64 = .ok (.lconst 0, 1) := by decide +kernel
theorem dX8_draw_65 : decode cX8_draw 65 = .ok (.lstore 8, 2) := by decide +kernel
theorem dX8_draw_67 : decode cX8_draw 67 = .ok (.aload_n 0, 1) := by decide +kernel
theorem dX8_draw_68 : decode cX8_draw 68 = .ok (.getfield 17, 3) := by decide +kernel
theorem dX8_draw_71 : decode cX8_draw 71 = .ok (.iload 6, 2) := by decide +kernel
theorem dX8_draw_73 : decode cX8_draw 73 = .ok (.aload_n 1, 1) := by decide +kernel
theorem dX8_draw_74 : decode cX8_draw 74 = .ok (.iload_n 2, 1) := by decide +kernel
theorem dX8_draw_75 : decode cX8_draw 75 = .ok (.aload_n 0, 1) := by decide +kernel
theorem dX8_draw_76 : decode cX8_draw 76 = .ok (.getfield 11, 3) := by decide +kernel
theorem dX8_draw_79 : decode cX8_draw 79 = .ok (.iload 6, 2) := by decide +kernel
theorem dX8_draw_81 : decode cX8_draw 81 = .ok (.iaload, 1) := by decide +kernel
theorem dX8_draw_82 : decode cX8_draw 82 = .ok (.invokevirtual 75, 3) := by decide +kernel
theorem dX8_draw_85 : decode cX8_draw 85 = .ok (.lload 8, 2) := by decide +kernel
theorem dX8_draw_87 : decode cX8_draw 87 = .ok (.l2i, 1) := by decide +kernel
theorem dX8_draw_88 : decode cX8_draw 88 = .ok (.iadd, 1) := by decide +kernel
theorem dX8_draw_89 : decode cX8_draw 89 = .ok (.iastore, 1) := by decide +kernel
theorem dX8_draw_90 : decode cX8_draw 90 = .ok (.iinc 6 1, 3) := by decide +kernel
theorem dX8_draw_93 : decode cX8_draw 93 = .ok (.goto (-86), 3) := by decide +kernel
theorem dX8_draw_96 : decode cX8_draw 96 = .ok (.return_, 1) := by decide +kernel
theorem dX8_sendThrough_0 : decode cX8_sendThrough 0 = .ok (.aload_n 2, 1) := by decide +kernel
theorem dX8_sendThrough_1 : decode cX8_sendThrough 1 = .ok (.iconst 0, 1) := by decide +kernel
theorem dX8_sendThrough_2 : decode cX8_sendThrough 2 = .ok (.invokevirtual 78, 3) := by decide +kernel
theorem dX8_sendThrough_5 : decode cX8_sendThrough 5 = .ok (.pop, 1) := by decide +kernel
theorem dX8_sendThrough_6 : decode cX8_sendThrough 6 = .ok (.iconst 0, 1) := by decide +kernel
theorem dX8_sendThrough_7 : decode cX8_sendThrough 7 = .ok (.istore_n 3, 1) := by decide +kernel
theorem dX8_sendThrough_8 : decode cX8_sendThrough 8 = .ok (.iconst 0, 1) := by decide +kernel
theorem dX8_sendThrough_9 : decode cX8_sendThrough 9 = .ok (.istore 4, 2) := by decide +kernel
theorem dX8_sendThrough_11 : decode cX8_sendThrough 11 = .ok (.iload 4, 2) := by decide +kernel
theorem dX8_sendThrough_13 : decode cX8_sendThrough 13 = .ok (.aload_n 0, 1) := by decide +kernel
theorem dX8_sendThrough_14 : decode cX8_sendThrough 14 = .ok (.getfield 28, 3) := by decide +kernel
theorem dX8_sendThrough_17 : decode cX8_sendThrough 17 = .ok (.if_icmp .ge 72, 3) := by decide +kernel
theorem dX8_sendThrough_20 : decode cX8_sendThrough 20 = .ok (.aload_n 0, 1) := by decide +kernel
theorem dX8_sendThrough_21 : decode cX8_sendThrough 21 = .ok (.getfield 17, 3) := by decide +kernel
theorem dX8_sendThrough_24 : decode cX8_sendThrough 24 = .ok (.iload 4, 2) := by decide +kernel
theorem dX8_sendThrough_26 : decode cX8_sendThrough 26 = .ok (.iaload, 1) := by decide +kernel
theorem dX8_sendThrough_27 : decode cX8_sendThrough 27 = .ok (.istore 5, 2) := by decide +kernel
theorem dX8_sendThrough_29 : decode cX8_sendThrough 29 = .ok (.iload 4, 2) := by decide +kernel
theorem dX8_sendThrough_31 : decode cX8_sendThrough 31 = .ok (.iconst 2, 1) := by decide +kernel
theorem dX8_sendThrough_32 : decode cX8_sendThrough 32 = .ok (.irem, 1) := by decide +kernel
theorem dX8_sendThrough_33 : decode cX8_sendThrough 33 = .ok (.iconst 1, 1) := by decide +kernel
theorem dX8_sendThrough_34 : decode cX8_sendThrough 34 = .ok (.if_icmp .eq 9, 3) := by decide +kernel
theorem dX8_sendThrough_37 : decode cX8_sendThrough 37 = .ok (.iload 5, 2) := by decide +kernel
theorem dX8_sendThrough_39 : decode cX8_sendThrough 39 = .ok (.iload_n 1, 1) := by decide +kernel
theorem dX8_sendThrough_40 : decode cX8_sendThrough 40 = .ok (.if_icmp .gt 11, 3) := by decide +kernel
theorem dX8_sendThrough_43 : decode cX8_sendThrough 43 = .ok (.iload_n 3, 1) := by decide +kernel
theorem dX8_sendThrough_44 : decode cX8_sendThrough 44 = .ok (.iload 5, 2) := by decide +kernel
theorem dX8_sendThrough_46 : decode cX8_sendThrough 46 = .ok (.iadd, 1) := by decide +kernel
theorem dX8_sendThrough_47 : decode cX8_sendThrough 47 = .ok (.istore_n 3, 1) := by decide +kernel
theorem dX8_sendThrough_48 : decode cX8_sendThrough 48 = .ok (.goto 35, 3) := by decide +kernel
theorem dX8_sendThrough_51 : decode cX8_sendThrough 51 = .ok (.aload_n 2, 1) := by decide +kernel
theorem dX8_sendThrough_52 : decode cX8_sendThrough 52 = .ok (.invokevirtual 81, 3) := by decide +kernel
theorem dX8_sendThrough_55 : decode cX8_sendThrough 55 = .ok (.ifCond .le 17, 3) := by decide +kernel
theorem dX8_sendThrough_58 : decode cX8_sendThrough 58 = .ok (.aload_n 2, 1) := by decide +kernel
theorem dX8_sendThrough_59 : decode cX8_sendThrough 59 = .ok (.iload_n 3, 1) := by decide +kernel
theorem dX8_sendThrough_60 : decode cX8_sendThrough 60 = .ok (.iload_n 1, 1) := by decide +kernel
theorem dX8_sendThrough_61 : decode cX8_sendThrough 61 = .ok (.iadd, 1) := by decide +kernel
theorem dX8_sendThrough_62 : decode cX8_sendThrough 62 = .ok (.sipush 999, 3) := by decide +kernel
theorem dX8_sendThrough_65 : decode cX8_sendThrough 65 = .ok (.invokestatic 82, 3) := by decide +kernel
theorem dX8_sendThrough_68 : decode cX8_sendThrough 68 = .ok (.invokevirtual 87, 3) := by decide +kernel
theorem dX8_sendThrough_71 : decode cX8_sendThrough 71 = .ok (.pop, 1) := by decide +kernel
theorem dX8_sendThrough_72 : decode cX8_sendThrough 72 = .ok (.aload_n 2, 1) := by decide +kernel
theorem dX8_sendThrough_73 : decode cX8_sendThrough 73 = .ok (.iload 5, 2) := by decide +kernel
theorem dX8_sendThrough_75 : decode cX8_sendThrough 75 = .ok (.iload_n 1, 1) := by decide +kernel
theorem dX8_sendThrough_76 : decode cX8_sendThrough 76 = .ok (.isub, 1) := by decide +kernel
theorem dX8_sendThrough_77 : decode cX8_sendThrough 77 = .ok (.invokevirtual 87, 3) := by decide +kernel
theorem dX8_sendThrough_80 : decode cX8_sendThrough 80 = .ok (.pop, 1) := by decide +kernel
theorem dX8_sendThrough_81 : decode cX8_sendThrough 81 = .ok (.iconst 0, 1) := by decide +kernel
theorem dX8_sendThrough_82 : decode cX8_sendThrough 82 = .ok (.istore_n 3, 1) := by decide +kernel
theorem dX8_sendThrough_83 : decode cX8_sendThrough 83 = .ok (.iinc 4 1, 3) := by decide +kernel
theorem dX8_sendThrough_86 : decode cX8_sendThrough 86 = .ok (.goto (-75), 3) := by decide +kernel
theorem dX8_sendThrough_89 : decode cX8_sendThrough 89 = .ok (.return_, 1) := by decide +kernel
theorem dX9_init_0 : decode cX9_init 0 = .ok (.aload_n 0, 1) := by decide +kernel
theorem dX9_init_1 : decode cX9_init 1 = .ok (.invokespecial 3, 3) := by decide +kernel
theorem dX9_init_4 : decode cX9_init 4 = .ok (.aload_n 0, 1) := by decide +kernel
theorem dX9_init_5 : decode cX9_init 5 = .ok (.bipush 120, 2) := by decide +kernel
theorem dX9_init_7 : decode cX9_init 7 = .ok (.newarray .int, 2) := by decide +kernel
theorem dX9_init_9 : decode cX9_init 9 = .ok (.putfield 11, 3) := by decide +kernel
theorem dX9_init_12 : decode cX9_init 12 = .ok (.return_, 1) := by decide +kernel
theorem dX9_size_0 : decode cX9_size 0 = .ok (.aload_n 0, 1) := by decide +kernel
theorem dX9_size_1 : decode cX9_size 1 = .ok (.getfield 15, 3) := by decide +kernel
theorem dX9_size_4 : decode cX9_size 4 = .ok (.ireturn, 1) := by decide +kernel
theorem dX9_add_0 : decode cX9_add 0 = .ok (.aload_n 0, 1) := by decide +kernel
theorem dX9_add_1 : decode cX9_add 1 = .ok (.getfield 15, 3) := by decide +kernel
theorem dX9_add_4 : decode cX9_add 4 = .ok (.bipush 120, 2) := by decide +kernel
theorem dX9_add_6 : decode cX9_add 6 = .ok (.if_icmp .lt 5, 3) := by decide +kernel
theorem dX9_add_9 : decode cX9_add 9 = .ok (.iconst (-1), 1) := by decide +kernel
theorem dX9_add_10 : decode cX9_add 10 = .ok (.ireturn, 1) := by decide +kernel
theorem dX9_add_11 : decode cX9_add 11 = .ok (.aload_n 0, 1) := by decide +kernel
theorem dX9_add_12 : decode cX9_add 12 = .ok (.getfield 11, 3) := by decide +kernel
theorem dX9_add_15 : decode cX9_add 15 = .ok (.aload_n 0, 1) := by decide +kernel
theorem dX9_add_16 : decode cX9_add 16 = .ok (.getfield 15, 3) := by decide +kernel
theorem dX9_add_19 : decode cX9_add 19 = .ok (.iload_n 1, 1) := by decide +kernel
theorem dX9_add_20 : decode cX9_add 20 = .ok (.iastore, 1) := by decide +kernel
theorem dX9_add_21 : decode cX9_add 21 = .ok (.aload_n 0, 1) := by decide +kernel
theorem dX9_add_22 : decode cX9_add 22 = .ok (.dup, 1) := by decide +kernel
theorem dX9_add_23 : decode cX9_add 23 = .ok (.getfield 15, 3) := by decide +kernel
theorem dX9_add_26 : decode cX9_add 26 = .ok (.iconst 1, 1) := by decide +kernel
theorem dX9_add_27 : decode cX9_add 27 = .ok (.iadd, 1) := by decide +kernel
theorem dX9_add_28 : decode cX9_add 28 = .ok (.putfield 15, 3) := by decide +kernel
theorem dX9_add_31 : decode cX9_add 31 = .ok (.aload_n 0, 1) := by decide +kernel
theorem dX9_add_32 : decode cX9_add 32 = .ok (.getfield 15, 3) := by decide +kernel
theorem dX9_add_35 : decode cX9_add 35 = .ok (.ireturn, 1) := by decide +kernel
theorem dX9_keep_0 : decode cX9_keep 0 = .ok (.iload_n 1, 1) := by decide +kernel
theorem dX9_keep_1 : decode cX9_keep 1 = .ok (.ifCond .lt 11, 3) := by decide +kernel
theorem dX9_keep_4 : decode cX9_keep 4 = .ok (.iload_n 1, 1) := by decide +kernel
theorem dX9_keep_5 : decode cX9_keep 5 = .ok (.aload_n 0, 1) := by decide +kernel
theorem dX9_keep_6 : decode cX9_keep 6 = .ok (.getfield 15, 3) := by decide +kernel
theorem dX9_keep_9 : decode cX9_keep 9 = .ok (.if_icmp .le 5, 3) := by decide +kernel
theorem dX9_keep_12 : decode cX9_keep 12 = .ok (.iconst 0, 1) := by decide +kernel
theorem dX9_keep_13 : decode cX9_keep 13 = .ok (.ireturn, 1) := by decide +kernel
theorem dX9_keep_14 : decode cX9_keep 14 = .ok (.aload_n 0, 1) := by decide +kernel
theorem dX9_keep_15 : decode cX9_keep 15 = .ok (.iload_n 1, 1) := by decide +kernel
theorem dX9_keep_16 : decode cX9_keep 16 = .ok (.putfield 15, 3) := by decide +kernel
theorem dX9_keep_19 : decode cX9_keep 19 = .ok (.iconst 1, 1) := by decide +kernel
theorem dX9_keep_20 : decode cX9_keep 20 = .ok (.ireturn, 1) := by decide +kernel
theorem dX9_at_0 : decode cX9_at 0 = .ok (.iload_n 1, 1) := by decide +kernel
theorem dX9_at_1 : decode cX9_at 1 = .ok (.ifCond .lt 20, 3) := by decide +kernel
theorem dX9_at_4 : decode cX9_at 4 = .ok (.iload_n 1, 1) := by decide +kernel
theorem dX9_at_5 : decode cX9_at 5 = .ok (.aload_n 0, 1) := by decide +kernel
theorem dX9_at_6 : decode cX9_at 6 = .ok (.getfield 15, 3) := by decide +kernel
theorem dX9_at_9 : decode cX9_at 9 = .ok (.if_icmp .ge 12, 3) := by decide +kernel
theorem dX9_at_12 : decode cX9_at 12 = .ok (.aload_n 0, 1) := by decide +kernel
theorem dX9_at_13 : decode cX9_at 13 = .ok (.getfield 11, 3) := by decide +kernel
theorem dX9_at_16 : decode cX9_at 16 = .ok (.iload_n 1, 1) := by decide +kernel
theorem dX9_at_17 : decode cX9_at 17 = .ok (.iaload, 1) := by decide +kernel
theorem dX9_at_18 : decode cX9_at 18 = .ok (.goto 4, 3) := by decide +kernel
theorem dX9_at_21 : decode cX9_at 21 = .ok (.iconst (-1), 1) := by decide +kernel
theorem dX9_at_22 : decode cX9_at 22 = .ok (.ireturn, 1) := by decide +kernel
theorem dX9_isWhole_0 : decode cX9_isWhole 0 = .ok (.aload_n 0, 1) := by decide +kernel
theorem dX9_isWhole_1 : decode cX9_isWhole 1 = .ok (.getfield 15, 3) := by decide +kernel
theorem dX9_isWhole_4 : decode cX9_isWhole 4 = .ok (.iconst 2, 1) := by decide +kernel
theorem dX9_isWhole_5 : decode cX9_isWhole 5 = .ok (.irem, 1) := by decide +kernel
theorem dX9_isWhole_6 : decode cX9_isWhole 6 = .ok (.iconst 1, 1) := by decide +kernel
theorem dX9_isWhole_7 : decode cX9_isWhole 7 = .ok (.if_icmp .ne 7, 3) := by decide +kernel
theorem dX9_isWhole_10 : decode cX9_isWhole 10 = .ok (.iconst 1, 1) := by decide +kernel
theorem dX9_isWhole_11 : decode cX9_isWhole 11 = .ok (.goto 4, 3) := by decide +kernel
theorem dX9_isWhole_14 : decode cX9_isWhole 14 = .ok (.iconst 0, 1) := by decide +kernel
theorem dX9_isWhole_15 : decode cX9_isWhole 15 = .ok (.ireturn, 1) := by decide +kernel
theorem dX10_init_0 : decode cX10_init 0 = .ok (.aload_n 0, 1) := by decide +kernel
theorem dX10_init_1 : decode cX10_init 1 = .ok (.invokespecial 3, 3) := by decide +kernel
theorem dX10_init_4 : decode cX10_init 4 = .ok (.aload_n 0, 1) := by decide +kernel
theorem dX10_init_5 : decode cX10_init 5 = .ok (.sipush 500, 3) := by decide +kernel
theorem dX10_init_8 : decode cX10_init 8 = .ok (.newarray .int, 2) := by decide +kernel
theorem dX10_init_10 : decode cX10_init 10 = .ok (.putfield 11, 3) := by decide +kernel
theorem dX10_init_13 : decode cX10_init 13 = .ok (.return_, 1) := by decide +kernel
theorem dX10_size_0 : decode cX10_size 0 = .ok (.aload_n 0, 1) := by decide +kernel
theorem dX10_size_1 : decode cX10_size 1 = .ok (.getfield 15, 3) := by decide +kernel
theorem dX10_size_4 : decode cX10_size 4 = .ok (.ireturn, 1) := by decide +kernel
theorem dX10_hasRoom_0 : decode cX10_hasRoom 0 = .ok (.aload_n 0, 1) := by decide +kernel
theorem dX10_hasRoom_1 : decode cX10_hasRoom 1 = .ok (.getfield 15, 3) := by decide +kernel
theorem dX10_hasRoom_4 : decode cX10_hasRoom 4 = .ok (.bipush 20, 2) := by decide +kernel
theorem dX10_hasRoom_6 : decode cX10_hasRoom 6 = .ok (.iadd, 1) := by decide +kernel
theorem dX10_hasRoom_7 : decode cX10_hasRoom 7 = .ok (.sipush 500, 3) := by decide +kernel
theorem dX10_hasRoom_10 : decode cX10_hasRoom 10 = .ok (.if_icmp .gt 7, 3) := by decide +kernel
theorem dX10_hasRoom_13 : decode cX10_hasRoom 13 = .ok (.iconst 1, 1) := by decide +kernel
theorem dX10_hasRoom_14 : decode cX10_hasRoom 14 = .ok (.goto 4, 3) := by decide +kernel
theorem dX10_hasRoom_17 : decode cX10_hasRoom 17 = .ok (.iconst 0, 1) := by decide +kernel
theorem dX10_hasRoom_18 : decode cX10_hasRoom 18 = .ok (.ireturn, 1) := by decide +kernel
theorem dX10_add_0 : decode cX10_add 0 = .ok (.bipush 24, 2) := by decide +kernel
theorem dX10_add_2 : decode cX10_add 2 = .ok (.istore_n 2, 1) := by decide +kernel
theorem dX10_add_3 : decode cX10_add 3 = .ok (.iload_n 2, 1) := by decide +kernel
theorem dX10_add_4 : decode cX10_add 4 = .ok (.ifCond .lt 45, 3) := by decide +kernel
theorem dX10_add_7 : decode cX10_add 7 = .ok (.aload_n 0, 1) := by decide +kernel
theorem dX10_add_8 : decode cX10_add 8 = .ok (.getfield 15, 3) := by decide +kernel
theorem dX10_add_11 : decode cX10_add 11 = .ok (.sipush 500, 3) := by decide +kernel
theorem dX10_add_14 : decode cX10_add 14 = .ok (.if_icmp .ge 35, 3) := by decide +kernel
theorem dX10_add_17 : decode cX10_add 17 = .ok (.aload_n 0, 1) := by decide +kernel
theorem dX10_add_18 : decode cX10_add 18 = .ok (.getfield 11, 3) := by decide +kernel
theorem dX10_add_21 : decode cX10_add 21 = .ok (.aload_n 0, 1) := by decide +kernel
theorem dX10_add_22 : decode cX10_add 22 = .ok (.getfield 15, 3) := by decide +kernel
theorem dX10_add_25 : decode cX10_add 25 = .ok (.iload_n 1, 1) := by decide +kernel
theorem dX10_add_26 : decode cX10_add 26 = .ok (.iload_n 2, 1) := by decide +kernel
theorem dX10_add_27 : decode cX10_add 27 = .ok (.iushr, 1) := by decide +kernel
theorem dX10_add_28 : decode cX10_add 28 = .ok (.sipush 255, 3) := by decide +kernel
theorem dX10_add_31 : decode cX10_add 31 = .ok (.iand, 1) := by decide +kernel
theorem dX10_add_32 : decode cX10_add 32 = .ok (.iastore, 1) := by decide +kernel
theorem dX10_add_33 : decode cX10_add 33 = .ok (.aload_n 0, 1) := by decide +kernel
theorem dX10_add_34 : decode cX10_add 34 = .ok (.dup, 1) := by decide +kernel
theorem dX10_add_35 : decode cX10_add 35 = .ok (.getfield 15, 3) := by decide +kernel
theorem dX10_add_38 : decode cX10_add 38 = .ok (.iconst 1, 1) := by decide +kernel
theorem dX10_add_39 : decode cX10_add 39 = .ok (.iadd, 1) := by decide +kernel
theorem dX10_add_40 : decode cX10_add 40 = .ok (.putfield 15, 3) := by decide +kernel
theorem dX10_add_43 : decode cX10_add 43 = .ok (.iinc 2 (-8), 3) := by decide +kernel
theorem dX10_add_46 : decode cX10_add 46 = .ok (.goto (-43), 3) := by decide +kernel
theorem dX10_add_49 : decode cX10_add 49 = .ok (.return_, 1) := by decide +kernel
theorem dX10_keep_0 : decode cX10_keep 0 = .ok (.iload_n 1, 1) := by decide +kernel
theorem dX10_keep_1 : decode cX10_keep 1 = .ok (.ifCond .lt 11, 3) := by decide +kernel
theorem dX10_keep_4 : decode cX10_keep 4 = .ok (.iload_n 1, 1) := by decide +kernel
theorem dX10_keep_5 : decode cX10_keep 5 = .ok (.aload_n 0, 1) := by decide +kernel
theorem dX10_keep_6 : decode cX10_keep 6 = .ok (.getfield 15, 3) := by decide +kernel
theorem dX10_keep_9 : decode cX10_keep 9 = .ok (.if_icmp .le 5, 3) := by decide +kernel
theorem dX10_keep_12 : decode cX10_keep 12 = .ok (.iconst 0, 1) := by decide +kernel
theorem dX10_keep_13 : decode cX10_keep 13 = .ok (.ireturn, 1) := by decide +kernel
theorem dX10_keep_14 : decode cX10_keep 14 = .ok (.aload_n 0, 1) := by decide +kernel
theorem dX10_keep_15 : decode cX10_keep 15 = .ok (.iload_n 1, 1) := by decide +kernel
theorem dX10_keep_16 : decode cX10_keep 16 = .ok (.putfield 15, 3) := by decide +kernel
theorem dX10_keep_19 : decode cX10_keep 19 = .ok (.iconst 1, 1) := by decide +kernel
theorem dX10_keep_20 : decode cX10_keep 20 = .ok (.ireturn, 1) := by decide +kernel
theorem dX10_at_0 : decode cX10_at 0 = .ok (.iload_n 1, 1) := by decide +kernel
theorem dX10_at_1 : decode cX10_at 1 = .ok (.ifCond .lt 20, 3) := by decide +kernel
theorem dX10_at_4 : decode cX10_at 4 = .ok (.iload_n 1, 1) := by decide +kernel
theorem dX10_at_5 : decode cX10_at 5 = .ok (.aload_n 0, 1) := by decide +kernel
theorem dX10_at_6 : decode cX10_at 6 = .ok (.getfield 15, 3) := by decide +kernel
theorem dX10_at_9 : decode cX10_at 9 = .ok (.if_icmp .ge 12, 3) := by decide +kernel
theorem dX10_at_12 : decode cX10_at 12 = .ok (.aload_n 0, 1) := by decide +kernel
theorem dX10_at_13 : decode cX10_at 13 = .ok (.getfield 11, 3) := by decide +kernel
theorem dX10_at_16 : decode cX10_at 16 = .ok (.iload_n 1, 1) := by decide +kernel
theorem dX10_at_17 : decode cX10_at 17 = .ok (.iaload, 1) := by decide +kernel
theorem dX10_at_18 : decode cX10_at 18 = .ok (.goto 4, 3) := by decide +kernel
theorem dX10_at_21 : decode cX10_at 21 = .ok (.iconst (-1), 1) := by decide +kernel
theorem dX10_at_22 : decode cX10_at 22 = .ok (.ireturn, 1) := by decide +kernel
theorem dX10_isLetter_0 : decode cX10_isLetter 0 = .ok (.aload_n 0, 1) := by decide +kernel
theorem dX10_isLetter_1 : decode cX10_isLetter 1 = .ok (.iload_n 1, 1) := by decide +kernel
theorem dX10_isLetter_2 : decode cX10_isLetter 2 = .ok (.invokevirtual 19, 3) := by decide +kernel
theorem dX10_isLetter_5 : decode cX10_isLetter 5 = .ok (.istore_n 2, 1) := by decide +kernel
theorem dX10_isLetter_6 : decode cX10_isLetter 6 = .ok (.iload_n 2, 1) := by decide +kernel
theorem dX10_isLetter_7 : decode cX10_isLetter 7 = .ok (.bipush 97, 2) := by decide +kernel
theorem dX10_isLetter_9 : decode cX10_isLetter 9 = .ok (.if_icmp .lt 13, 3) := by decide +kernel
theorem dX10_isLetter_12 : decode cX10_isLetter 12 = .ok (.iload_n 2, 1) := by decide +kernel
theorem dX10_isLetter_13 : decode cX10_isLetter 13 = .ok (.bipush 122, 2) := by decide +kernel
theorem dX10_isLetter_15 : decode cX10_isLetter 15 = .ok (.if_icmp .gt 7, 3) := by decide +kernel
theorem dX10_isLetter_18 : decode cX10_isLetter 18 = .ok (.iconst 1, 1) := by decide +kernel
theorem dX10_isLetter_19 : decode cX10_isLetter 19 = .ok (.goto 4, 3) := by decide +kernel
theorem dX10_isLetter_22 : decode cX10_isLetter 22 = .ok (.iconst 0, 1) := by decide +kernel
theorem dX10_isLetter_23 : decode cX10_isLetter 23 = .ok (.ireturn, 1) := by decide +kernel
theorem dX11_init_0 : decode cX11_init 0 = .ok (.aload_n 0, 1) := by decide +kernel
theorem dX11_init_1 : decode cX11_init 1 = .ok (.invokespecial 1, 3) := by decide +kernel
theorem dX11_init_4 : decode cX11_init 4 = .ok (.aload_n 0, 1) := by decide +kernel
theorem dX11_init_5 : decode cX11_init 5 = .ok (.new 7, 3) := by decide +kernel
theorem dX11_init_8 : decode cX11_init 8 = .ok (.dup, 1) := by decide +kernel
theorem dX11_init_9 : decode cX11_init 9 = .ok (.invokespecial 9, 3) := by decide +kernel
theorem dX11_init_12 : decode cX11_init 12 = .ok (.putfield 10, 3) := by decide +kernel
theorem dX11_init_15 : decode cX11_init 15 = .ok (.aload_n 0, 1) := by decide +kernel
theorem dX11_init_16 : decode cX11_init 16 = .ok (.new 16, 3) := by decide +kernel
theorem dX11_init_19 : decode cX11_init 19 = .ok (.dup, 1) := by decide +kernel
theorem dX11_init_20 : decode cX11_init 20 = .ok (.invokespecial 18, 3) := by decide +kernel
theorem dX11_init_23 : decode cX11_init 23 = .ok (.putfield 19, 3) := by decide +kernel
theorem dX11_init_26 : decode cX11_init 26 = .ok (.aload_n 0, 1) := by decide +kernel
theorem dX11_init_27 : decode cX11_init 27 = .ok (.new 16, 3) := by decide +kernel
theorem dX11_init_30 : decode cX11_init 30 = .ok (.dup, 1) := by decide +kernel
theorem dX11_init_31 : decode cX11_init 31 = .ok (.invokespecial 18, 3) := by decide +kernel
theorem dX11_init_34 : decode cX11_init 34 = .ok (.putfield 23, 3) := by decide +kernel
theorem dX11_init_37 : decode cX11_init 37 = .ok (.aload_n 0, 1) := by decide +kernel
theorem dX11_init_38 : decode cX11_init 38 = .ok (.new 26, 3) := by decide +kernel
theorem dX11_init_41 : decode cX11_init 41 = .ok (.dup, 1) := by decide +kernel
theorem dX11_init_42 : decode cX11_init 42 = .ok (.aload_n 0, 1) := by decide +kernel
theorem dX11_init_43 : decode cX11_init 43 = .ok (.getfield 10, 3) := by decide +kernel
theorem dX11_init_46 : decode cX11_init 46 = .ok (.aload_n 0, 1) := by decide +kernel
theorem dX11_init_47 : decode cX11_init 47 = .ok (.getfield 23, 3) := by decide +kernel
theorem dX11_init_50 : decode cX11_init 50 = .ok (.invokespecial 28, 3) := by decide +kernel
theorem dX11_init_53 : decode cX11_init 53 = .ok (.putfield 31, 3) := by decide +kernel
theorem dX11_init_56 : decode cX11_init 56 = .ok (.aload_n 0, 1) := by decide +kernel
theorem dX11_init_57 : decode cX11_init 57 = .ok (.new 35, 3) := by decide +kernel
theorem dX11_init_60 : decode cX11_init 60 = .ok (.dup, 1) := by decide +kernel
theorem dX11_init_61 : decode cX11_init 61 = .ok (.invokespecial 37, 3) := by decide +kernel
theorem dX11_init_64 : decode cX11_init 64 = .ok (.putfield 38, 3) := by decide +kernel
theorem dX11_init_67 : decode cX11_init 67 = .ok (.aload_n 0, 1) := by decide +kernel
theorem dX11_init_68 : decode cX11_init 68 = .ok (.new 42, 3) := by decide +kernel
theorem dX11_init_71 : decode cX11_init 71 = .ok (.dup, 1) := by decide +kernel
theorem dX11_init_72 : decode cX11_init 72 = .ok (.invokespecial 44, 3) := by decide +kernel
theorem dX11_init_75 : decode cX11_init 75 = .ok (.putfield 45, 3) := by decide +kernel
theorem dX11_init_78 : decode cX11_init 78 = .ok (.aload_n 0, 1) := by decide +kernel
theorem dX11_init_79 : decode cX11_init 79 = .ok (.new 49, 3) := by decide +kernel
theorem dX11_init_82 : decode cX11_init 82 = .ok (.dup, 1) := by decide +kernel
theorem dX11_init_83 : decode cX11_init 83 = .ok (.invokespecial 51, 3) := by decide +kernel
theorem dX11_init_86 : decode cX11_init 86 = .ok (.putfield 52, 3) := by decide +kernel
theorem dX11_init_89 : decode cX11_init 89 = .ok (.aload_n 0, 1) := by decide +kernel
theorem dX11_init_90 : decode cX11_init 90 = .ok (.new 56, 3) := by decide +kernel
theorem dX11_init_93 : decode cX11_init 93 = .ok (.dup, 1) := by decide +kernel
theorem dX11_init_94 : decode cX11_init 94 = .ok (.aload_n 0, 1) := by decide +kernel
theorem dX11_init_95 : decode cX11_init 95 = .ok (.getfield 19, 3) := by decide +kernel
theorem dX11_init_98 : decode cX11_init 98 = .ok (.aload_n 0, 1) := by decide +kernel
theorem dX11_init_99 : decode cX11_init 99 = .ok (.getfield 52, 3) := by decide +kernel
theorem dX11_init_102 : decode cX11_init 102 = .ok (.aload_n 0, 1) := by decide +kernel
theorem dX11_init_103 : decode cX11_init 103 = .ok (.getfield 38, 3) := by decide +kernel
theorem dX11_init_106 : decode cX11_init 106 = .ok (.aload_n 0, 1) := by decide +kernel
theorem dX11_init_107 : decode cX11_init 107 = .ok (.getfield 45, 3) := by decide +kernel
theorem dX11_init_110 : decode cX11_init 110 = .ok (.invokespecial 58, 3) := by decide +kernel
theorem dX11_init_113 : decode cX11_init 113 = .ok (.putfield 61, 3) := by decide +kernel
theorem dX11_init_116 : decode cX11_init 116 = .ok (.aload_n 0, 1) := by decide +kernel
theorem dX11_init_117 : decode cX11_init 117 = .ok (.new 65, 3) := by decide +kernel
theorem dX11_init_120 : decode cX11_init 120 = .ok (.dup, 1) := by decide +kernel
theorem dX11_init_121 : decode cX11_init 121 = .ok (.aload_n 0, 1) := by decide +kernel
theorem dX11_init_122 : decode cX11_init 122 = .ok (.getfield 10, 3) := by decide +kernel
theorem dX11_init_125 : decode cX11_init 125 = .ok (.aload_n 0, 1) := by decide +kernel
theorem dX11_init_126 : decode cX11_init 126 = .ok (.getfield 19, 3) := by decide +kernel
theorem dX11_init_129 : decode cX11_init 129 = .ok (.invokespecial 67, 3) := by decide +kernel
theorem dX11_init_132 : decode cX11_init 132 = .ok (.putfield 68, 3) := by decide +kernel
theorem dX11_init_135 : decode cX11_init 135 = .ok (.aload_n 0, 1) := by decide +kernel
theorem dX11_init_136 : decode cX11_init 136 = .ok (.new 72, 3) := by decide +kernel
theorem dX11_init_139 : decode cX11_init 139 = .ok (.dup, 1) := by decide +kernel
theorem dX11_init_140 : decode cX11_init 140 = .ok (.aload_n 0, 1) := by decide +kernel
theorem dX11_init_141 : decode cX11_init 141 = .ok (.getfield 45, 3) := by decide +kernel
theorem dX11_init_144 : decode cX11_init 144 = .ok (.invokespecial 74, 3) := by decide +kernel
theorem dX11_init_147 : decode cX11_init 147 = .ok (.putfield 77, 3) := by decide +kernel
theorem dX11_init_150 : decode cX11_init 150 = .ok (.aload_n 0, 1) := by decide +kernel
theorem dX11_init_151 : decode cX11_init 151 = .ok (.new 81, 3) := by decide +kernel
theorem dX11_init_154 : decode cX11_init 154 = .ok (.dup, 1) := by decide +kernel
theorem dX11_init_155 : decode cX11_init 155 = .ok (.invokespecial 83, 3) := by decide +kernel
theorem dX11_init_158 : decode cX11_init 158 = .ok (.putfield 84, 3) := by decide +kernel
theorem dX11_init_161 : decode cX11_init 161 = .ok (.aload_n 0, 1) := by decide +kernel
theorem dX11_init_162 : decode cX11_init 162 = .ok (.new 88, 3) := by decide +kernel
theorem dX11_init_165 : decode cX11_init 165 = .ok (.dup, 1) := by decide +kernel
theorem dX11_init_166 : decode cX11_init 166 = .ok (.invokespecial 90, 3) := by decide +kernel
theorem dX11_init_169 : decode cX11_init 169 = .ok (.putfield 91, 3) := by decide +kernel
theorem dX11_init_172 : decode cX11_init 172 = .ok (.aload_n 0, 1) := by decide +kernel
theorem dX11_init_173 : decode cX11_init 173 = .ok (.new 88, 3) := by decide +kernel
theorem dX11_init_176 : decode cX11_init 176 = .ok (.dup, 1) := by decide +kernel
theorem dX11_init_177 : decode cX11_init 177 = .ok (.invokespecial 90, 3) := by decide +kernel
theorem dX11_init_180 : decode cX11_init 180 = .ok (.putfield 95, 3) := by decide +kernel
theorem dX11_init_183 : decode cX11_init 183 = .ok (.return_, 1) := by decide +kernel
theorem dX11_feed_0 : decode cX11_feed 0 = .ok (.aload_n 0, 1) := by decide +kernel
theorem dX11_feed_1 : decode cX11_feed 1 = .ok (.getfield 10, 3) := by decide +kernel
theorem dX11_feed_4 : decode cX11_feed 4 = .ok (.invokevirtual 98, 3) := by decide +kernel
theorem dX11_feed_7 : decode cX11_feed 7 = .ok (.ifCond .ne 5, 3) := by decide +kernel
theorem dX11_feed_10 : decode cX11_feed 10 = .ok (.iconst (-1), 1) := by decide +kernel
theorem dX11_feed_11 : decode cX11_feed 11 = .ok (.ireturn, 1) := by decide +kernel
theorem dX11_feed_12 : decode cX11_feed 12 = .ok (.aload_n 0, 1) := by decide +kernel
theorem dX11_feed_13 : decode cX11_feed 13 = .ok (.getfield 10, 3) := by decide +kernel
theorem dX11_feed_16 : decode cX11_feed 16 = .ok (.iload_n 1, 1) := by decide +kernel
theorem dX11_feed_17 : decode cX11_feed 17 = .ok (.invokevirtual 102, 3) := by decide +kernel
theorem dX11_feed_20 : decode cX11_feed 20 = .ok (.aload_n 0, 1) := by decide +kernel
theorem dX11_feed_21 : decode cX11_feed 21 = .ok (.getfield 10, 3) := by decide +kernel
theorem dX11_feed_24 : decode cX11_feed 24 = .ok (.iload_n 2, 1) := by decide +kernel
theorem dX11_feed_25 : decode cX11_feed 25 = .ok (.invokevirtual 102, 3) := by decide +kernel
theorem dX11_feed_28 : decode cX11_feed 28 = .ok (.aload_n 0, 1) := by decide +kernel
theorem dX11_feed_29 : decode cX11_feed 29 = .ok (.getfield 10, 3) := by decide +kernel
theorem dX11_feed_32 : decode cX11_feed 32 = .ok (.iload_n 3, 1) := by decide +kernel
theorem dX11_feed_33 : decode cX11_feed 33 = .ok (.invokevirtual 102, 3) := by decide +kernel
theorem dX11_feed_36 : decode cX11_feed 36 = .ok (.aload_n 0, 1) := by decide +kernel
theorem dX11_feed_37 : decode cX11_feed 37 = .ok (.getfield 10, 3) := by decide +kernel
theorem dX11_feed_40 : decode cX11_feed 40 = .ok (.iload 4, 2) := by decide +kernel
theorem dX11_feed_42 : decode cX11_feed 42 = .ok (.invokevirtual 102, 3) := by decide +kernel
theorem dX11_feed_45 : decode cX11_feed 45 = .ok (.aload_n 0, 1) := by decide +kernel
theorem dX11_feed_46 : decode cX11_feed 46 = .ok (.getfield 10, 3) := by decide +kernel
theorem dX11_feed_49 : decode cX11_feed 49 = .ok (.iload 5, 2) := by decide +kernel
theorem dX11_feed_51 : decode cX11_feed 51 = .ok (.invokevirtual 102, 3) := by decide +kernel
theorem dX11_feed_54 : decode cX11_feed 54 = .ok (.aload_n 0, 1) := by decide +kernel
theorem dX11_feed_55 : decode cX11_feed 55 = .ok (.getfield 10, 3) := by decide +kernel
theorem dX11_feed_58 : decode cX11_feed 58 = .ok (.invokevirtual 106, 3) := by decide +kernel
theorem dX11_feed_61 : decode cX11_feed 61 = .ok (.ireturn, 1) := by decide +kernel
theorem dX11_end_0 : decode cX11_end 0 = .ok (.aload_n 0, 1) := by decide +kernel
theorem dX11_end_1 : decode cX11_end 1 = .ok (.getfield 10, 3) := by decide +kernel
theorem dX11_end_4 : decode cX11_end 4 = .ok (.iload_n 1, 1) := by decide +kernel
theorem dX11_end_5 : decode cX11_end 5 = .ok (.invokevirtual 110, 3) := by decide +kernel
theorem dX11_end_8 : decode cX11_end 8 = .ok (.ireturn, 1) := by decide +kernel
theorem dX11_fault_0 : decode cX11_fault 0 = .ok (.aload_n 0, 1) := by decide +kernel
theorem dX11_fault_1 : decode cX11_fault 1 = .ok (.getfield 31, 3) := by decide +kernel
theorem dX11_fault_4 : decode cX11_fault 4 = .ok (.invokevirtual 114, 3) := by decide +kernel
theorem dX11_fault_7 : decode cX11_fault 7 = .ok (.ireturn, 1) := by decide +kernel
theorem dX11_code_0 : decode cX11_code 0 = .ok (.aload_n 0, 1) := by decide +kernel
theorem dX11_code_1 : decode cX11_code 1 = .ok (.getfield 31, 3) := by decide +kernel
theorem dX11_code_4 : decode cX11_code 4 = .ok (.invokevirtual 114, 3) := by decide +kernel
theorem dX11_code_7 : decode cX11_code 7 = .ok (.iconst (-1), 1) := by decide +kernel
theorem dX11_code_8 : decode cX11_code 8 = .ok (.if_icmp .eq 5, 3) := by decide +kernel
theorem dX11_code_11 : decode cX11_code 11 = .ok (.iconst (-1), 1) := by decide +kernel
theorem dX11_code_12 : decode cX11_code 12 = .ok (.ireturn, 1) := by decide +kernel
theorem dX11_code_13 : decode cX11_code 13 = .ok (.aload_n 0, 1) := by decide +kernel
theorem dX11_code_14 : decode cX11_code 14 = .ok (.getfield 19, 3) := by decide +kernel
theorem dX11_code_17 : decode cX11_code 17 = .ok (.aload_n 0, 1) := by decide +kernel
theorem dX11_code_18 : decode cX11_code 18 = .ok (.getfield 23, 3) := by decide +kernel
theorem dX11_code_21 : decode cX11_code 21 = .ok (.invokevirtual 117, 3) := by decide +kernel
theorem dX11_code_24 : decode cX11_code 24 = .ok (.aload_n 0, 1) := by decide +kernel
theorem dX11_code_25 : decode cX11_code 25 = .ok (.getfield 10, 3) := by decide +kernel
theorem dX11_code_28 : decode cX11_code 28 = .ok (.iconst 0, 1) := by decide +kernel
theorem dX11_code_29 : decode cX11_code 29 = .ok (.invokevirtual 110, 3) := by decide +kernel
theorem dX11_code_32 : decode cX11_code 32 = .ok (.pop, 1) := by decide +kernel
theorem dX11_code_33 : decode cX11_code 33 = .ok (.aload_n 0, 1) := by decide +kernel
theorem dX11_code_34 : decode cX11_code 34 = .ok (.getfield 19, 3) := by decide +kernel
theorem dX11_code_37 : decode cX11_code 37 = .ok (.invokevirtual 121, 3) := by decide +kernel
theorem dX11_code_40 : decode cX11_code 40 = .ok (.ireturn, 1) := by decide +kernel
theorem dX11_marks_0 : decode cX11_marks 0 = .ok (.aload_n 0, 1) := by decide +kernel
theorem dX11_marks_1 : decode cX11_marks 1 = .ok (.getfield 19, 3) := by decide +kernel
theorem dX11_marks_4 : decode cX11_marks 4 = .ok (.iload_n 1, 1) := by decide +kernel
theorem dX11_marks_5 : decode cX11_marks 5 = .ok (.invokevirtual 124, 3) := by decide +kernel
theorem dX11_marks_8 : decode cX11_marks 8 = .ok (.ireturn, 1) := by decide +kernel
theorem dX11_group_0 : decode cX11_group 0 = .ok (.aload_n 0, 1) := by decide +kernel
theorem dX11_group_1 : decode cX11_group 1 = .ok (.getfield 19, 3) := by decide +kernel
theorem dX11_group_4 : decode cX11_group 4 = .ok (.iload_n 1, 1) := by decide +kernel
theorem dX11_group_5 : decode cX11_group 5 = .ok (.invokevirtual 128, 3) := by decide +kernel
theorem dX11_group_8 : decode cX11_group 8 = .ok (.ireturn, 1) := by decide +kernel
theorem dX11_mended_0 : decode cX11_mended 0 = .ok (.iload_n 1, 1) := by decide +kernel
theorem dX11_mended_1 : decode cX11_mended 1 = .ok (.ifCond .lt 19, 3) := by decide +kernel
theorem dX11_mended_4 : decode cX11_mended 4 = .ok (.iload_n 1, 1) := by decide +kernel
theorem dX11_mended_5 : decode cX11_mended 5 = .ok (.sipush 17576, 3) := by decide +kernel
theorem dX11_mended_8 : decode cX11_mended 8 = .ok (.if_icmp .ge 12, 3) := by decide +kernel
theorem dX11_mended_11 : decode cX11_mended 11 = .ok (.iload_n 2, 1) := by decide +kernel
theorem dX11_mended_12 : decode cX11_mended 12 = .ok (.ifCond .lt 8, 3) := by decide +kernel
theorem dX11_mended_15 : decode cX11_mended 15 = .ok (.iload_n 2, 1) := by decide +kernel
theorem dX11_mended_16 : decode cX11_mended 16 = .ok (.iconst 3, 1) := by decide +kernel
theorem dX11_mended_17 : decode cX11_mended 17 = .ok (.if_icmp .le 5, 3) := by decide +kernel
theorem dX11_mended_20 : decode cX11_mended 20 = .ok (.iconst (-1), 1) := by decide +kernel
theorem dX11_mended_21 : decode cX11_mended 21 = .ok (.ireturn, 1) := by decide +kernel
theorem dX11_mended_22 : decode cX11_mended 22 = .ok (.aload_n 0, 1) := by decide +kernel
theorem dX11_mended_23 : decode cX11_mended 23 = .ok (.getfield 19, 3) := by decide +kernel
theorem dX11_mended_26 : decode cX11_mended 26 = .ok (.iload_n 1, 1) := by decide +kernel
theorem dX11_mended_27 : decode cX11_mended 27 = .ok (.iload_n 2, 1) := by decide +kernel
theorem dX11_mended_28 : decode cX11_mended 28 = .ok (.iload_n 3, 1) := by decide +kernel
theorem dX11_mended_29 : decode cX11_mended 29 = .ok (.invokevirtual 131, 3) := by decide +kernel
theorem dX11_mended_32 : decode cX11_mended 32 = .ok (.ireturn, 1) := by decide +kernel
theorem dX11_hand_0 : decode cX11_hand 0 = .ok (.iload_n 1, 1) := by decide +kernel
theorem dX11_hand_1 : decode cX11_hand 1 = .ok (.invokestatic 135, 3) := by decide +kernel
theorem dX11_hand_4 : decode cX11_hand 4 = .ok (.ifCond .eq 37, 3) := by decide +kernel
theorem dX11_hand_7 : decode cX11_hand 7 = .ok (.iload_n 2, 1) := by decide +kernel
theorem dX11_hand_8 : decode cX11_hand 8 = .ok (.invokestatic 135, 3) := by decide +kernel
theorem dX11_hand_11 : decode cX11_hand 11 = .ok (.ifCond .eq 30, 3) := by decide +kernel
theorem dX11_hand_14 : decode cX11_hand 14 = .ok (.iload_n 3, 1) := by decide +kernel
theorem dX11_hand_15 : decode cX11_hand 15 = .ok (.invokestatic 135, 3) := by decide +kernel
theorem dX11_hand_18 : decode cX11_hand 18 = .ok (.ifCond .eq 23, 3) := by decide +kernel
theorem dX11_hand_21 : decode cX11_hand 21 = .ok (.iload 4, 2) := by decide +kernel
theorem dX11_hand_23 : decode cX11_hand 23 = .ok (.invokestatic 135, 3) := by decide +kernel
theorem dX11_hand_26 : decode cX11_hand 26 = .ok (.ifCond .eq 15, 3) := by decide +kernel
theorem dX11_hand_29 : decode cX11_hand 29 = .ok (.iload 5, 2) := by decide +kernel
theorem dX11_hand_31 : decode cX11_hand 31 = .ok (.invokestatic 135, 3) := by decide +kernel
theorem dX11_hand_34 : decode cX11_hand 34 = .ok (.ifCond .eq 7, 3) := by decide +kernel
theorem dX11_hand_37 : decode cX11_hand 37 = .ok (.iconst 1, 1) := by decide +kernel
theorem dX11_hand_38 : decode cX11_hand 38 = .ok (.goto 4, 3) := by decide +kernel
theorem dX11_hand_41 : decode cX11_hand 41 = .ok (.iconst 0, 1) := by decide +kernel
theorem dX11_hand_42 : decode cX11_hand 42 = .ok (.istore 6, 2) := by decide +kernel
theorem dX11_hand_44 : decode cX11_hand 44 = .ok (.iload 6, 2) := by decide +kernel
theorem dX11_hand_46 : decode cX11_hand 46 = .ok (.ifCond .eq 20, 3) := by decide +kernel
theorem dX11_hand_49 : decode cX11_hand 49 = .ok (.aload_n 0, 1) := by decide +kernel
theorem dX11_hand_50 : decode cX11_hand 50 = .ok (.getfield 38, 3) := by decide +kernel
theorem dX11_hand_53 : decode cX11_hand 53 = .ok (.iload_n 1, 1) := by decide +kernel
theorem dX11_hand_54 : decode cX11_hand 54 = .ok (.iload_n 2, 1) := by decide +kernel
theorem dX11_hand_55 : decode cX11_hand 55 = .ok (.iload_n 3, 1) := by decide +kernel
theorem dX11_hand_56 : decode cX11_hand 56 = .ok (.iload 4, 2) := by decide +kernel
theorem dX11_hand_58 : decode cX11_hand 58 = .ok (.iload 5, 2) := by decide +kernel
theorem dX11_hand_60 : decode cX11_hand 60 = .ok (.invokevirtual 138, 3) := by decide +kernel
theorem dX11_hand_63 : decode cX11_hand 63 = .ok (.goto 4, 3) := by decide +kernel
theorem dX11_hand_66 : decode cX11_hand 66 = .ok (.iconst (-1), 1) := by decide +kernel
theorem dX11_hand_67 : decode cX11_hand 67 = .ok (.ireturn, 1) := by decide +kernel
theorem dX11_line_0 : decode cX11_line 0 = .ok (.iload_n 1, 1) := by decide +kernel
theorem dX11_line_1 : decode cX11_line 1 = .ok (.iload_n 2, 1) := by decide +kernel
theorem dX11_line_2 : decode cX11_line 2 = .ok (.invokestatic 141, 3) := by decide +kernel
theorem dX11_line_5 : decode cX11_line 5 = .ok (.ifCond .eq 29, 3) := by decide +kernel
theorem dX11_line_8 : decode cX11_line 8 = .ok (.iload_n 3, 1) := by decide +kernel
theorem dX11_line_9 : decode cX11_line 9 = .ok (.ifCond .lt 25, 3) := by decide +kernel
theorem dX11_line_12 : decode cX11_line 12 = .ok (.iload_n 3, 1) := by decide +kernel
theorem dX11_line_13 : decode cX11_line 13 = .ok (.bipush 99, 2) := by decide +kernel
theorem dX11_line_15 : decode cX11_line 15 = .ok (.if_icmp .gt 19, 3) := by decide +kernel
theorem dX11_line_18 : decode cX11_line 18 = .ok (.iload 4, 2) := by decide +kernel
theorem dX11_line_20 : decode cX11_line 20 = .ok (.ifCond .lt 14, 3) := by decide +kernel
theorem dX11_line_23 : decode cX11_line 23 = .ok (.iload 4, 2) := by decide +kernel
theorem dX11_line_25 : decode cX11_line 25 = .ok (.bipush 20, 2) := by decide +kernel
theorem dX11_line_27 : decode cX11_line 27 = .ok (.if_icmp .gt 7, 3) := by decide +kernel
theorem dX11_line_30 : decode cX11_line 30 = .ok (.iconst 1, 1) := by decide +kernel
theorem dX11_line_31 : decode cX11_line 31 = .ok (.goto 4, 3) := by decide +kernel
theorem dX11_line_34 : decode cX11_line 34 = .ok (.iconst 0, 1) := by decide +kernel
theorem dX11_line_35 : decode cX11_line 35 = .ok (.istore 5, 2) := by decide +kernel
theorem dX11_line_37 : decode cX11_line 37 = .ok (.iload 5, 2) := by decide +kernel
theorem dX11_line_39 : decode cX11_line 39 = .ok (.ifCond .eq 18, 3) := by decide +kernel
theorem dX11_line_42 : decode cX11_line 42 = .ok (.aload_n 0, 1) := by decide +kernel
theorem dX11_line_43 : decode cX11_line 43 = .ok (.getfield 45, 3) := by decide +kernel
theorem dX11_line_46 : decode cX11_line 46 = .ok (.iload_n 1, 1) := by decide +kernel
theorem dX11_line_47 : decode cX11_line 47 = .ok (.iload_n 2, 1) := by decide +kernel
theorem dX11_line_48 : decode cX11_line 48 = .ok (.iload_n 3, 1) := by decide +kernel
theorem dX11_line_49 : decode cX11_line 49 = .ok (.iload 4, 2) := by decide +kernel
theorem dX11_line_51 : decode cX11_line 51 = .ok (.invokevirtual 145, 3) := by decide +kernel
theorem dX11_line_54 : decode cX11_line 54 = .ok (.goto 4, 3) := by decide +kernel
theorem dX11_line_57 : decode cX11_line 57 = .ok (.iconst (-1), 1) := by decide +kernel
theorem dX11_line_58 : decode cX11_line 58 = .ok (.ireturn, 1) := by decide +kernel
theorem dX11_rain_0 : decode cX11_rain 0 = .ok (.iload_n 1, 1) := by decide +kernel
theorem dX11_rain_1 : decode cX11_rain 1 = .ok (.ifCond .lt 9, 3) := by decide +kernel
theorem dX11_rain_4 : decode cX11_rain 4 = .ok (.iload_n 1, 1) := by decide +kernel
theorem dX11_rain_5 : decode cX11_rain 5 = .ok (.bipush 9, 2) := by decide +kernel
theorem dX11_rain_7 : decode cX11_rain 7 = .ok (.if_icmp .le 5, 3) := by decide +kernel
theorem dX11_rain_10 : decode cX11_rain 10 = .ok (.iconst 0, 1) := by decide +kernel
theorem dX11_rain_11 : decode cX11_rain 11 = .ok (.ireturn, 1) := by decide +kernel
theorem dX11_rain_12 : decode cX11_rain 12 = .ok (.aload_n 0, 1) := by decide +kernel
theorem dX11_rain_13 : decode cX11_rain 13 = .ok (.getfield 45, 3) := by decide +kernel
theorem dX11_rain_16 : decode cX11_rain 16 = .ok (.iload_n 1, 1) := by decide +kernel
theorem dX11_rain_17 : decode cX11_rain 17 = .ok (.invokevirtual 148, 3) := by decide +kernel
theorem dX11_rain_20 : decode cX11_rain 20 = .ok (.iconst 1, 1) := by decide +kernel
theorem dX11_rain_21 : decode cX11_rain 21 = .ok (.ireturn, 1) := by decide +kernel
theorem dX11_bite_0 : decode cX11_bite 0 = .ok (.aload_n 0, 1) := by decide +kernel
theorem dX11_bite_1 : decode cX11_bite 1 = .ok (.getfield 45, 3) := by decide +kernel
theorem dX11_bite_4 : decode cX11_bite 4 = .ok (.iload_n 1, 1) := by decide +kernel
theorem dX11_bite_5 : decode cX11_bite 5 = .ok (.invokevirtual 151, 3) := by decide +kernel
theorem dX11_bite_8 : decode cX11_bite 8 = .ok (.ifCond .eq 14, 3) := by decide +kernel
theorem dX11_bite_11 : decode cX11_bite 11 = .ok (.aload_n 0, 1) := by decide +kernel
theorem dX11_bite_12 : decode cX11_bite 12 = .ok (.getfield 45, 3) := by decide +kernel
theorem dX11_bite_15 : decode cX11_bite 15 = .ok (.iload_n 1, 1) := by decide +kernel
theorem dX11_bite_16 : decode cX11_bite 16 = .ok (.invokevirtual 154, 3) := by decide +kernel
theorem dX11_bite_19 : decode cX11_bite 19 = .ok (.goto 4, 3) := by decide +kernel
theorem dX11_bite_22 : decode cX11_bite 22 = .ok (.iconst (-1), 1) := by decide +kernel
theorem dX11_bite_23 : decode cX11_bite 23 = .ok (.ireturn, 1) := by decide +kernel
theorem dX11_isStation_0 : decode cX11_isStation 0 = .ok (.iload_n 0, 1) := by decide +kernel
theorem dX11_isStation_1 : decode cX11_isStation 1 = .ok (.ifCond .lt 13, 3) := by decide +kernel
theorem dX11_isStation_4 : decode cX11_isStation 4 = .ok (.iload_n 0, 1) := by decide +kernel
theorem dX11_isStation_5 : decode cX11_isStation 5 = .ok (.bipush 6, 2) := by decide +kernel
theorem dX11_isStation_7 : decode cX11_isStation 7 = .ok (.if_icmp .ge 7, 3) := by decide +kernel
theorem dX11_isStation_10 : decode cX11_isStation 10 = .ok (.iconst 1, 1) := by decide +kernel
theorem dX11_isStation_11 : decode cX11_isStation 11 = .ok (.goto 4, 3) := by decide +kernel
theorem dX11_isStation_14 : decode cX11_isStation 14 = .ok (.iconst 0, 1) := by decide +kernel
theorem dX11_isStation_15 : decode cX11_isStation 15 = .ok (.ireturn, 1) := by decide +kernel
theorem dX11_areTwoStations_0 : decode cX11_areTwoStations 0 = .ok (.iload_n 0, 1) := by decide +kernel
theorem dX11_areTwoStations_1 : decode cX11_areTwoStations 1 = .ok (.invokestatic 157, 3) := by decide +kernel
theorem dX11_areTwoStations_4 : decode cX11_areTwoStations 4 = .ok (.ifCond .eq 19, 3) := by decide +kernel
theorem dX11_areTwoStations_7 : decode cX11_areTwoStations 7 = .ok (.iload_n 1, 1) := by decide +kernel
theorem dX11_areTwoStations_8 : decode cX11_areTwoStations 8 = .ok (.invokestatic 157, 3) := by decide +kernel
theorem dX11_areTwoStations_11 : decode cX11_areTwoStations 11 = .ok (.ifCond .eq 12, 3) := by decide +kernel
theorem dX11_areTwoStations_14 : decode cX11_areTwoStations 14 = .ok (.iload_n 0, 1) := by decide +kernel
theorem dX11_areTwoStations_15 : decode cX11_areTwoStations 15 = .ok (.iload_n 1, 1) := by decide +kernel
theorem dX11_areTwoStations_16 : decode cX11_areTwoStations 16 = .ok (.if_icmp .eq 7, 3) := by decide +kernel
theorem dX11_areTwoStations_19 : decode cX11_areTwoStations 19 = .ok (.iconst 1, 1) := by decide +kernel
theorem dX11_areTwoStations_20 : decode cX11_areTwoStations 20 = .ok (.goto 4, 3) := by decide +kernel
theorem dX11_areTwoStations_23 : decode cX11_areTwoStations 23 = .ok (.iconst 0, 1) := by decide +kernel
theorem dX11_areTwoStations_24 : decode cX11_areTwoStations 24 = .ok (.ireturn, 1) := by decide +kernel
theorem dX11_length_0 : decode cX11_length 0 = .ok (.iload_n 1, 1) := by decide +kernel
theorem dX11_length_1 : decode cX11_length 1 = .ok (.iconst 1, 1) := by decide +kernel
theorem dX11_length_2 : decode cX11_length 2 = .ok (.if_icmp .lt 10, 3) := by decide +kernel
theorem dX11_length_5 : decode cX11_length 5 = .ok (.iload_n 1, 1) := by decide +kernel
theorem dX11_length_6 : decode cX11_length 6 = .ok (.sipush 999, 3) := by decide +kernel
theorem dX11_length_9 : decode cX11_length 9 = .ok (.if_icmp .le 7, 3) := by decide +kernel
theorem dX11_length_12 : decode cX11_length 12 = .ok (.iconst (-1), 1) := by decide +kernel
theorem dX11_length_13 : decode cX11_length 13 = .ok (.goto 11, 3) := by decide +kernel
theorem dX11_length_16 : decode cX11_length 16 = .ok (.aload_n 0, 1) := by decide +kernel
theorem dX11_length_17 : decode cX11_length 17 = .ok (.getfield 52, 3) := by decide +kernel
theorem dX11_length_20 : decode cX11_length 20 = .ok (.iload_n 1, 1) := by decide +kernel
theorem dX11_length_21 : decode cX11_length 21 = .ok (.invokevirtual 160, 3) := by decide +kernel
theorem dX11_length_24 : decode cX11_length 24 = .ok (.ireturn, 1) := by decide +kernel
theorem dX11_cut_0 : decode cX11_cut 0 = .ok (.aload_n 0, 1) := by decide +kernel
theorem dX11_cut_1 : decode cX11_cut 1 = .ok (.getfield 52, 3) := by decide +kernel
theorem dX11_cut_4 : decode cX11_cut 4 = .ok (.iload_n 1, 1) := by decide +kernel
theorem dX11_cut_5 : decode cX11_cut 5 = .ok (.invokevirtual 162, 3) := by decide +kernel
theorem dX11_cut_8 : decode cX11_cut 8 = .ok (.ireturn, 1) := by decide +kernel
theorem dX11_tape_0 : decode cX11_tape 0 = .ok (.aload_n 0, 1) := by decide +kernel
theorem dX11_tape_1 : decode cX11_tape 1 = .ok (.getfield 52, 3) := by decide +kernel
theorem dX11_tape_4 : decode cX11_tape 4 = .ok (.iload_n 1, 1) := by decide +kernel
theorem dX11_tape_5 : decode cX11_tape 5 = .ok (.invokevirtual 163, 3) := by decide +kernel
theorem dX11_tape_8 : decode cX11_tape 8 = .ok (.ireturn, 1) := by decide +kernel
theorem dX11_readings_0 : decode cX11_readings 0 = .ok (.aload_n 0, 1) := by decide +kernel
theorem dX11_readings_1 : decode cX11_readings 1 = .ok (.iload_n 1, 1) := by decide +kernel
theorem dX11_readings_2 : decode cX11_readings 2 = .ok (.iload_n 2, 1) := by decide +kernel
theorem dX11_readings_3 : decode cX11_readings 3 = .ok (.invokevirtual 166, 3) := by decide +kernel
theorem dX11_readings_6 : decode cX11_readings 6 = .ok (.ifCond .ne 5, 3) := by decide +kernel
theorem dX11_readings_9 : decode cX11_readings 9 = .ok (.iconst (-1), 1) := by decide +kernel
theorem dX11_readings_10 : decode cX11_readings 10 = .ok (.ireturn, 1) := by decide +kernel
theorem dX11_readings_11 : decode cX11_readings 11 = .ok (.aload_n 0, 1) := by decide +kernel
theorem dX11_readings_12 : decode cX11_readings 12 = .ok (.getfield 61, 3) := by decide +kernel
theorem dX11_readings_15 : decode cX11_readings 15 = .ok (.iload_n 1, 1) := by decide +kernel
theorem dX11_readings_16 : decode cX11_readings 16 = .ok (.iload_n 2, 1) := by decide +kernel
theorem dX11_readings_17 : decode cX11_readings 17 = .ok (.invokevirtual 169, 3) := by decide +kernel
theorem dX11_readings_20 : decode cX11_readings 20 = .ok (.aload_n 0, 1) := by decide +kernel
theorem dX11_readings_21 : decode cX11_readings 21 = .ok (.getfield 61, 3) := by decide +kernel
theorem dX11_readings_24 : decode cX11_readings 24 = .ok (.invokevirtual 173, 3) := by decide +kernel
theorem dX11_readings_27 : decode cX11_readings 27 = .ok (.ireturn, 1) := by decide +kernel
theorem dX11_nearest_0 : decode cX11_nearest 0 = .ok (.aload_n 0, 1) := by decide +kernel
theorem dX11_nearest_1 : decode cX11_nearest 1 = .ok (.iload_n 1, 1) := by decide +kernel
theorem dX11_nearest_2 : decode cX11_nearest 2 = .ok (.iload_n 2, 1) := by decide +kernel
theorem dX11_nearest_3 : decode cX11_nearest 3 = .ok (.invokevirtual 166, 3) := by decide +kernel
theorem dX11_nearest_6 : decode cX11_nearest 6 = .ok (.ifCond .ne 5, 3) := by decide +kernel
theorem dX11_nearest_9 : decode cX11_nearest 9 = .ok (.iconst (-1), 1) := by decide +kernel
theorem dX11_nearest_10 : decode cX11_nearest 10 = .ok (.ireturn, 1) := by decide +kernel
theorem dX11_nearest_11 : decode cX11_nearest 11 = .ok (.aload_n 0, 1) := by decide +kernel
theorem dX11_nearest_12 : decode cX11_nearest 12 = .ok (.getfield 61, 3) := by decide +kernel
theorem dX11_nearest_15 : decode cX11_nearest 15 = .ok (.iload_n 1, 1) := by decide +kernel
theorem dX11_nearest_16 : decode cX11_nearest 16 = .ok (.iload_n 2, 1) := by decide +kernel
theorem dX11_nearest_17 : decode cX11_nearest 17 = .ok (.invokevirtual 169, 3) := by decide +kernel
theorem dX11_nearest_20 : decode cX11_nearest 20 = .ok (.aload_n 0, 1) := by decide +kernel
theorem dX11_nearest_21 : decode cX11_nearest 21 = .ok (.getfield 61, 3) := by decide +kernel
theorem dX11_nearest_24 : decode cX11_nearest 24 = .ok (.invokevirtual 176, 3) := by decide +kernel
theorem dX11_nearest_27 : decode cX11_nearest 27 = .ok (.istore 4, 2) := by decide +kernel
theorem dX11_nearest_29 : decode cX11_nearest 29 = .ok (.iload 4, 2) := by decide +kernel
theorem dX11_nearest_31 : decode cX11_nearest 31 = .ok (.iconst (-1), 1) := by decide +kernel
theorem dX11_nearest_32 : decode cX11_nearest 32 = .ok (.if_icmp .eq 9, 3) := by decide +kernel
theorem dX11_nearest_35 : decode cX11_nearest 35 = .ok (.iload_n 3, 1) := by decide +kernel
theorem dX11_nearest_36 : decode cX11_nearest 36 = .ok (.bipush (-2), 2) := by decide +kernel
theorem dX11_nearest_38 : decode cX11_nearest 38 = .ok (.if_icmp .ne 6, 3) := by decide +kernel
theorem dX11_nearest_41 : decode cX11_nearest 41 = .ok (.iload 4, 2) := by decide +kernel
theorem dX11_nearest_43 : decode cX11_nearest 43 = .ok (.ireturn, 1) := by decide +kernel
theorem dX11_nearest_44 : decode cX11_nearest 44 = .ok (.aload_n 0, 1) := by decide +kernel
theorem dX11_nearest_45 : decode cX11_nearest 45 = .ok (.getfield 61, 3) := by decide +kernel
theorem dX11_nearest_48 : decode cX11_nearest 48 = .ok (.invokevirtual 179, 3) := by decide +kernel
theorem dX11_nearest_51 : decode cX11_nearest 51 = .ok (.iload_n 3, 1) := by decide +kernel
theorem dX11_nearest_52 : decode cX11_nearest 52 = .ok (.iconst (-1), 1) := by decide +kernel
theorem dX11_nearest_53 : decode cX11_nearest 53 = .ok (.if_icmp .ne 13, 3) := by decide +kernel
theorem dX11_nearest_56 : decode cX11_nearest 56 = .ok (.aload_n 0, 1) := by decide +kernel
theorem dX11_nearest_57 : decode cX11_nearest 57 = .ok (.getfield 61, 3) := by decide +kernel
theorem dX11_nearest_60 : decode cX11_nearest 60 = .ok (.invokevirtual 182, 3) := by decide +kernel
theorem dX11_nearest_63 : decode cX11_nearest 63 = .ok (.goto 11, 3) := by decide +kernel
theorem dX11_nearest_66 : decode cX11_nearest 66 = .ok (.aload_n 0, 1) := by decide +kernel
theorem dX11_nearest_67 : decode cX11_nearest 67 = .ok (.getfield 61, 3) := by decide +kernel
theorem dX11_nearest_70 : decode cX11_nearest 70 = .ok (.iload_n 3, 1) := by decide +kernel
theorem dX11_nearest_71 : decode cX11_nearest 71 = .ok (.invokevirtual 185, 3) := by decide +kernel
theorem dX11_nearest_74 : decode cX11_nearest 74 = .ok (.ireturn, 1) := by decide +kernel
theorem dX11_canRead_0 : decode cX11_canRead 0 = .ok (.aload_n 0, 1) := by decide +kernel
theorem dX11_canRead_1 : decode cX11_canRead 1 = .ok (.getfield 38, 3) := by decide +kernel
theorem dX11_canRead_4 : decode cX11_canRead 4 = .ok (.iload_n 1, 1) := by decide +kernel
theorem dX11_canRead_5 : decode cX11_canRead 5 = .ok (.invokevirtual 188, 3) := by decide +kernel
theorem dX11_canRead_8 : decode cX11_canRead 8 = .ok (.ifCond .eq 28, 3) := by decide +kernel
theorem dX11_canRead_11 : decode cX11_canRead 11 = .ok (.aload_n 0, 1) := by decide +kernel
theorem dX11_canRead_12 : decode cX11_canRead 12 = .ok (.getfield 45, 3) := by decide +kernel
theorem dX11_canRead_15 : decode cX11_canRead 15 = .ok (.iload_n 2, 1) := by decide +kernel
theorem dX11_canRead_16 : decode cX11_canRead 16 = .ok (.invokevirtual 151, 3) := by decide +kernel
theorem dX11_canRead_19 : decode cX11_canRead 19 = .ok (.ifCond .eq 17, 3) := by decide +kernel
theorem dX11_canRead_22 : decode cX11_canRead 22 = .ok (.aload_n 0, 1) := by decide +kernel
theorem dX11_canRead_23 : decode cX11_canRead 23 = .ok (.getfield 52, 3) := by decide +kernel
theorem dX11_canRead_26 : decode cX11_canRead 26 = .ok (.invokevirtual 189, 3) := by decide +kernel
theorem dX11_canRead_29 : decode cX11_canRead 29 = .ok (.ifCond .eq 7, 3) := by decide +kernel
theorem dX11_canRead_32 : decode cX11_canRead 32 = .ok (.iconst 1, 1) := by decide +kernel
theorem dX11_canRead_33 : decode cX11_canRead 33 = .ok (.goto 4, 3) := by decide +kernel
theorem dX11_canRead_36 : decode cX11_canRead 36 = .ok (.iconst 0, 1) := by decide +kernel
theorem dX11_canRead_37 : decode cX11_canRead 37 = .ok (.ireturn, 1) := by decide +kernel
theorem dX11_suspects_0 : decode cX11_suspects 0 = .ok (.aload_n 0, 1) := by decide +kernel
theorem dX11_suspects_1 : decode cX11_suspects 1 = .ok (.getfield 52, 3) := by decide +kernel
theorem dX11_suspects_4 : decode cX11_suspects 4 = .ok (.invokevirtual 189, 3) := by decide +kernel
theorem dX11_suspects_7 : decode cX11_suspects 7 = .ok (.ifCond .eq 13, 3) := by decide +kernel
theorem dX11_suspects_10 : decode cX11_suspects 10 = .ok (.aload_n 0, 1) := by decide +kernel
theorem dX11_suspects_11 : decode cX11_suspects 11 = .ok (.getfield 68, 3) := by decide +kernel
theorem dX11_suspects_14 : decode cX11_suspects 14 = .ok (.invokevirtual 192, 3) := by decide +kernel
theorem dX11_suspects_17 : decode cX11_suspects 17 = .ok (.ifCond .ne 5, 3) := by decide +kernel
theorem dX11_suspects_20 : decode cX11_suspects 20 = .ok (.iconst (-1), 1) := by decide +kernel
theorem dX11_suspects_21 : decode cX11_suspects 21 = .ok (.ireturn, 1) := by decide +kernel
theorem dX11_suspects_22 : decode cX11_suspects 22 = .ok (.aload_n 0, 1) := by decide +kernel
theorem dX11_suspects_23 : decode cX11_suspects 23 = .ok (.getfield 68, 3) := by decide +kernel
theorem dX11_suspects_26 : decode cX11_suspects 26 = .ok (.invokevirtual 195, 3) := by decide +kernel
theorem dX11_suspects_29 : decode cX11_suspects 29 = .ok (.pop, 1) := by decide +kernel
theorem dX11_suspects_30 : decode cX11_suspects 30 = .ok (.iconst 0, 1) := by decide +kernel
theorem dX11_suspects_31 : decode cX11_suspects 31 = .ok (.istore_n 2, 1) := by decide +kernel
theorem dX11_suspects_32 : decode cX11_suspects 32 = .ok (.iconst 0, 1) := by decide +kernel
theorem dX11_suspects_33 : decode cX11_suspects 33 = .ok (.istore_n 3, 1) := by decide +kernel
theorem dX11_suspects_34 : decode cX11_suspects 34 = .ok (.iload_n 3, 1) := by decide +kernel
theorem dX11_suspects_35 : decode cX11_suspects 35 = .ok (.aload_n 0, 1) := by decide +kernel
theorem dX11_suspects_36 : decode cX11_suspects 36 = .ok (.getfield 38, 3) := by decide +kernel
theorem dX11_suspects_39 : decode cX11_suspects 39 = .ok (.invokevirtual 198, 3) := by decide +kernel
theorem dX11_suspects_42 : decode cX11_suspects 42 = .ok (.if_icmp .ge 56, 3) := by decide +kernel
theorem dX11_suspects_45 : decode cX11_suspects 45 = .ok (.iconst 0, 1) := by decide +kernel
theorem dX11_suspects_46 : decode cX11_suspects 46 = .ok (.istore 4, 2) := by decide +kernel
theorem dX11_suspects_48 : decode cX11_suspects 48 = .ok (.iload 4, 2) := by decide +kernel
theorem dX11_suspects_50 : decode cX11_suspects 50 = .ok (.aload_n 0, 1) := by decide +kernel
theorem dX11_suspects_51 : decode cX11_suspects 51 = .ok (.getfield 45, 3) := by decide +kernel
theorem dX11_suspects_54 : decode cX11_suspects 54 = .ok (.invokevirtual 199, 3) := by decide +kernel
theorem dX11_suspects_57 : decode cX11_suspects 57 = .ok (.if_icmp .ge 35, 3) := by decide +kernel
theorem dX11_suspects_60 : decode cX11_suspects 60 = .ok (.aload_n 0, 1) := by decide +kernel
theorem dX11_suspects_61 : decode cX11_suspects 61 = .ok (.iload_n 3, 1) := by decide +kernel
theorem dX11_suspects_62 : decode cX11_suspects 62 = .ok (.iload 4, 2) := by decide +kernel
theorem dX11_suspects_64 : decode cX11_suspects 64 = .ok (.invokevirtual 200, 3) := by decide +kernel
theorem dX11_suspects_67 : decode cX11_suspects 67 = .ok (.ifCond .eq 19, 3) := by decide +kernel
theorem dX11_suspects_70 : decode cX11_suspects 70 = .ok (.iload_n 2, 1) := by decide +kernel
theorem dX11_suspects_71 : decode cX11_suspects 71 = .ok (.iload_n 1, 1) := by decide +kernel
theorem dX11_suspects_72 : decode cX11_suspects 72 = .ok (.if_icmp .ne 11, 3) := by decide +kernel
theorem dX11_suspects_75 : decode cX11_suspects 75 = .ok (.iload_n 3, 1) := by decide +kernel
theorem dX11_suspects_76 : decode cX11_suspects 76 = .ok (.bipush 10, 2) := by decide +kernel
theorem dX11_suspects_78 : decode cX11_suspects 78 = .ok (.imul, 1) := by decide +kernel
theorem dX11_suspects_79 : decode cX11_suspects 79 = .ok (.iload 4, 2) := by decide +kernel
theorem dX11_suspects_81 : decode cX11_suspects 81 = .ok (.iadd, 1) := by decide +kernel
theorem dX11_suspects_82 : decode cX11_suspects 82 = .ok (.ireturn, 1) := by decide +kernel
theorem dX11_suspects_83 : decode cX11_suspects 83 = .ok (.iinc 2 1, 3) := by decide +kernel
theorem dX11_suspects_86 : decode cX11_suspects 86 = .ok (.iinc 4 1, 3) := by decide +kernel
theorem dX11_suspects_89 : decode cX11_suspects 89 = .ok (.goto (-41), 3) := by decide +kernel
theorem dX11_suspects_92 : decode cX11_suspects 92 = .ok (.iinc 3 1, 3) := by decide +kernel
theorem dX11_suspects_95 : decode cX11_suspects 95 = .ok (.goto (-61), 3) := by decide +kernel
theorem dX11_suspects_98 : decode cX11_suspects 98 = .ok (.iload_n 1, 1) := by decide +kernel
theorem dX11_suspects_99 : decode cX11_suspects 99 = .ok (.iconst (-1), 1) := by decide +kernel
theorem dX11_suspects_100 : decode cX11_suspects 100 = .ok (.if_icmp .ne 7, 3) := by decide +kernel
theorem dX11_suspects_103 : decode cX11_suspects 103 = .ok (.iload_n 2, 1) := by decide +kernel
theorem dX11_suspects_104 : decode cX11_suspects 104 = .ok (.goto 4, 3) := by decide +kernel
theorem dX11_suspects_107 : decode cX11_suspects 107 = .ok (.iconst (-1), 1) := by decide +kernel
theorem dX11_suspects_108 : decode cX11_suspects 108 = .ok (.ireturn, 1) := by decide +kernel
theorem dX11_likelier_0 : decode cX11_likelier 0 = .ok (.aload_n 0, 1) := by decide +kernel
theorem dX11_likelier_1 : decode cX11_likelier 1 = .ok (.iload_n 1, 1) := by decide +kernel
theorem dX11_likelier_2 : decode cX11_likelier 2 = .ok (.iload_n 3, 1) := by decide +kernel
theorem dX11_likelier_3 : decode cX11_likelier 3 = .ok (.invokevirtual 166, 3) := by decide +kernel
theorem dX11_likelier_6 : decode cX11_likelier 6 = .ok (.ifCond .eq 22, 3) := by decide +kernel
theorem dX11_likelier_9 : decode cX11_likelier 9 = .ok (.aload_n 0, 1) := by decide +kernel
theorem dX11_likelier_10 : decode cX11_likelier 10 = .ok (.iload_n 2, 1) := by decide +kernel
theorem dX11_likelier_11 : decode cX11_likelier 11 = .ok (.iload_n 3, 1) := by decide +kernel
theorem dX11_likelier_12 : decode cX11_likelier 12 = .ok (.invokevirtual 166, 3) := by decide +kernel
theorem dX11_likelier_15 : decode cX11_likelier 15 = .ok (.ifCond .eq 13, 3) := by decide +kernel
theorem dX11_likelier_18 : decode cX11_likelier 18 = .ok (.aload_n 0, 1) := by decide +kernel
theorem dX11_likelier_19 : decode cX11_likelier 19 = .ok (.getfield 68, 3) := by decide +kernel
theorem dX11_likelier_22 : decode cX11_likelier 22 = .ok (.invokevirtual 192, 3) := by decide +kernel
theorem dX11_likelier_25 : decode cX11_likelier 25 = .ok (.ifCond .ne 5, 3) := by decide +kernel
theorem dX11_likelier_28 : decode cX11_likelier 28 = .ok (.iconst (-1), 1) := by decide +kernel
theorem dX11_likelier_29 : decode cX11_likelier 29 = .ok (.ireturn, 1) := by decide +kernel
theorem dX11_likelier_30 : decode cX11_likelier 30 = .ok (.aload_n 0, 1) := by decide +kernel
theorem dX11_likelier_31 : decode cX11_likelier 31 = .ok (.getfield 68, 3) := by decide +kernel
theorem dX11_likelier_34 : decode cX11_likelier 34 = .ok (.invokevirtual 195, 3) := by decide +kernel
theorem dX11_likelier_37 : decode cX11_likelier 37 = .ok (.pop, 1) := by decide +kernel
theorem dX11_likelier_38 : decode cX11_likelier 38 = .ok (.aload_n 0, 1) := by decide +kernel
theorem dX11_likelier_39 : decode cX11_likelier 39 = .ok (.iload_n 1, 1) := by decide +kernel
theorem dX11_likelier_40 : decode cX11_likelier 40 = .ok (.iload_n 3, 1) := by decide +kernel
theorem dX11_likelier_41 : decode cX11_likelier 41 = .ok (.invokevirtual 200, 3) := by decide +kernel
theorem dX11_likelier_44 : decode cX11_likelier 44 = .ok (.ifCond .eq 12, 3) := by decide +kernel
theorem dX11_likelier_47 : decode cX11_likelier 47 = .ok (.aload_n 0, 1) := by decide +kernel
theorem dX11_likelier_48 : decode cX11_likelier 48 = .ok (.iload_n 2, 1) := by decide +kernel
theorem dX11_likelier_49 : decode cX11_likelier 49 = .ok (.iload_n 3, 1) := by decide +kernel
theorem dX11_likelier_50 : decode cX11_likelier 50 = .ok (.invokevirtual 200, 3) := by decide +kernel
theorem dX11_likelier_53 : decode cX11_likelier 53 = .ok (.ifCond .ne 5, 3) := by decide +kernel
theorem dX11_likelier_56 : decode cX11_likelier 56 = .ok (.iconst (-1), 1) := by decide +kernel
theorem dX11_likelier_57 : decode cX11_likelier 57 = .ok (.ireturn, 1) := by decide +kernel
theorem dX11_likelier_58 : decode cX11_likelier 58 = .ok (.aload_n 0, 1) := by decide +kernel
theorem dX11_likelier_59 : decode cX11_likelier 59 = .ok (.aload_n 0, 1) := by decide +kernel
theorem dX11_likelier_60 : decode cX11_likelier 60 = .ok (.getfield 91, 3) := by decide +kernel
theorem dX11_likelier_63 : decode cX11_likelier 63 = .ok (.iload_n 1, 1) := by decide +kernel
theorem dX11_likelier_64 : decode cX11_likelier 64 = .ok (.invokevirtual 203, 3) := by decide +kernel
theorem dX11_likelier_67 : decode cX11_likelier 67 = .ok (.aload_n 0, 1) := by decide +kernel
theorem dX11_likelier_68 : decode cX11_likelier 68 = .ok (.aload_n 0, 1) := by decide +kernel
theorem dX11_likelier_69 : decode cX11_likelier 69 = .ok (.getfield 95, 3) := by decide +kernel
theorem dX11_likelier_72 : decode cX11_likelier 72 = .ok (.iload_n 2, 1) := by decide +kernel
theorem dX11_likelier_73 : decode cX11_likelier 73 = .ok (.invokevirtual 203, 3) := by decide +kernel
theorem dX11_likelier_76 : decode cX11_likelier 76 = .ok (.aload_n 0, 1) := by decide +kernel
theorem dX11_likelier_77 : decode cX11_likelier 77 = .ok (.getfield 91, 3) := by decide +kernel
theorem dX11_likelier_80 : decode cX11_likelier 80 = .ok (.aload_n 0, 1) := by decide +kernel
theorem dX11_likelier_81 : decode cX11_likelier 81 = .ok (.getfield 95, 3) := by decide +kernel
theorem dX11_likelier_84 : decode cX11_likelier 84 = .ok (.invokevirtual 207, 3) := by decide +kernel
theorem dX11_likelier_87 : decode cX11_likelier 87 = .ok (.istore 4, 2) := by decide +kernel
theorem dX11_likelier_89 : decode cX11_likelier 89 = .ok (.iload 4, 2) := by decide +kernel
theorem dX11_likelier_91 : decode cX11_likelier 91 = .ok (.ifCond .ne 5, 3) := by decide +kernel
theorem dX11_likelier_94 : decode cX11_likelier 94 = .ok (.iconst 0, 1) := by decide +kernel
theorem dX11_likelier_95 : decode cX11_likelier 95 = .ok (.ireturn, 1) := by decide +kernel
theorem dX11_likelier_96 : decode cX11_likelier 96 = .ok (.iload 4, 2) := by decide +kernel
theorem dX11_likelier_98 : decode cX11_likelier 98 = .ok (.ifCond .ge 7, 3) := by decide +kernel
theorem dX11_likelier_101 : decode cX11_likelier 101 = .ok (.iconst 1, 1) := by decide +kernel
theorem dX11_likelier_102 : decode cX11_likelier 102 = .ok (.goto 4, 3) := by decide +kernel
theorem dX11_likelier_105 : decode cX11_likelier 105 = .ok (.iconst 2, 1) := by decide +kernel
theorem dX11_likelier_106 : decode cX11_likelier 106 = .ok (.ireturn, 1) := by decide +kernel
theorem dX11_tapeSaysIt_0 : decode cX11_tapeSaysIt 0 = .ok (.aload_n 0, 1) := by decide +kernel
theorem dX11_tapeSaysIt_1 : decode cX11_tapeSaysIt 1 = .ok (.getfield 68, 3) := by decide +kernel
theorem dX11_tapeSaysIt_4 : decode cX11_tapeSaysIt 4 = .ok (.invokevirtual 211, 3) := by decide +kernel
theorem dX11_tapeSaysIt_7 : decode cX11_tapeSaysIt 7 = .ok (.aload_n 0, 1) := by decide +kernel
theorem dX11_tapeSaysIt_8 : decode cX11_tapeSaysIt 8 = .ok (.getfield 52, 3) := by decide +kernel
theorem dX11_tapeSaysIt_11 : decode cX11_tapeSaysIt 11 = .ok (.invokevirtual 212, 3) := by decide +kernel
theorem dX11_tapeSaysIt_14 : decode cX11_tapeSaysIt 14 = .ok (.if_icmp .eq 5, 3) := by decide +kernel
theorem dX11_tapeSaysIt_17 : decode cX11_tapeSaysIt 17 = .ok (.iconst 0, 1) := by decide +kernel
theorem dX11_tapeSaysIt_18 : decode cX11_tapeSaysIt 18 = .ok (.ireturn, 1) := by decide +kernel
theorem dX11_tapeSaysIt_19 : decode cX11_tapeSaysIt 19 = .ok (.aload_n 0, 1) := by decide +kernel
theorem dX11_tapeSaysIt_20 : decode cX11_tapeSaysIt 20 = .ok (.getfield 61, 3) := by decide +kernel
theorem dX11_tapeSaysIt_23 : decode cX11_tapeSaysIt 23 = .ok (.iload_n 1, 1) := by decide +kernel
theorem dX11_tapeSaysIt_24 : decode cX11_tapeSaysIt 24 = .ok (.iload_n 2, 1) := by decide +kernel
theorem dX11_tapeSaysIt_25 : decode cX11_tapeSaysIt 25 = .ok (.invokevirtual 169, 3) := by decide +kernel
theorem dX11_tapeSaysIt_28 : decode cX11_tapeSaysIt 28 = .ok (.iconst 0, 1) := by decide +kernel
theorem dX11_tapeSaysIt_29 : decode cX11_tapeSaysIt 29 = .ok (.istore_n 3, 1) := by decide +kernel
theorem dX11_tapeSaysIt_30 : decode cX11_tapeSaysIt 30 = .ok (.iload_n 3, 1) := by decide +kernel
theorem dX11_tapeSaysIt_31 : decode cX11_tapeSaysIt 31 = .ok (.aload_n 0, 1) := by decide +kernel
theorem dX11_tapeSaysIt_32 : decode cX11_tapeSaysIt 32 = .ok (.getfield 68, 3) := by decide +kernel
theorem dX11_tapeSaysIt_35 : decode cX11_tapeSaysIt 35 = .ok (.invokevirtual 211, 3) := by decide +kernel
theorem dX11_tapeSaysIt_38 : decode cX11_tapeSaysIt 38 = .ok (.if_icmp .ge 31, 3) := by decide +kernel
theorem dX11_tapeSaysIt_41 : decode cX11_tapeSaysIt 41 = .ok (.aload_n 0, 1) := by decide +kernel
theorem dX11_tapeSaysIt_42 : decode cX11_tapeSaysIt 42 = .ok (.getfield 61, 3) := by decide +kernel
theorem dX11_tapeSaysIt_45 : decode cX11_tapeSaysIt 45 = .ok (.iload_n 3, 1) := by decide +kernel
theorem dX11_tapeSaysIt_46 : decode cX11_tapeSaysIt 46 = .ok (.aload_n 0, 1) := by decide +kernel
theorem dX11_tapeSaysIt_47 : decode cX11_tapeSaysIt 47 = .ok (.getfield 68, 3) := by decide +kernel
theorem dX11_tapeSaysIt_50 : decode cX11_tapeSaysIt 50 = .ok (.iload_n 3, 1) := by decide +kernel
theorem dX11_tapeSaysIt_51 : decode cX11_tapeSaysIt 51 = .ok (.invokevirtual 213, 3) := by decide +kernel
theorem dX11_tapeSaysIt_54 : decode cX11_tapeSaysIt 54 = .ok (.invokevirtual 216, 3) := by decide +kernel
theorem dX11_tapeSaysIt_57 : decode cX11_tapeSaysIt 57 = .ok (.iconst (-1), 1) := by decide +kernel
theorem dX11_tapeSaysIt_58 : decode cX11_tapeSaysIt 58 = .ok (.if_icmp .ne 5, 3) := by decide +kernel
theorem dX11_tapeSaysIt_61 : decode cX11_tapeSaysIt 61 = .ok (.iconst 0, 1) := by decide +kernel
theorem dX11_tapeSaysIt_62 : decode cX11_tapeSaysIt 62 = .ok (.ireturn, 1) := by decide +kernel
theorem dX11_tapeSaysIt_63 : decode cX11_tapeSaysIt 63 = .ok (.iinc 3 1, 3) := by decide +kernel
theorem dX11_tapeSaysIt_66 : decode cX11_tapeSaysIt 66 = .ok (.goto (-36), 3) := by decide +kernel
theorem dX11_tapeSaysIt_69 : decode cX11_tapeSaysIt 69 = .ok (.iconst 1, 1) := by decide +kernel
theorem dX11_tapeSaysIt_70 : decode cX11_tapeSaysIt 70 = .ok (.ireturn, 1) := by decide +kernel
theorem dX11_multiplyChoices_0 : decode cX11_multiplyChoices 0 = .ok (.aload_n 1, 1) := by decide +kernel
theorem dX11_multiplyChoices_1 : decode cX11_multiplyChoices 1 = .ok (.invokevirtual 220, 3) := by decide +kernel
theorem dX11_multiplyChoices_4 : decode cX11_multiplyChoices 4 = .ok (.iconst 0, 1) := by decide +kernel
theorem dX11_multiplyChoices_5 : decode cX11_multiplyChoices 5 = .ok (.istore_n 3, 1) := by decide +kernel
theorem dX11_multiplyChoices_6 : decode cX11_multiplyChoices 6 = .ok (.iload_n 3, 1) := by decide +kernel
theorem dX11_multiplyChoices_7 : decode cX11_multiplyChoices 7 = .ok (.aload_n 0, 1) := by decide +kernel
theorem dX11_multiplyChoices_8 : decode cX11_multiplyChoices 8 = .ok (.getfield 68, 3) := by decide +kernel
theorem dX11_multiplyChoices_11 : decode cX11_multiplyChoices 11 = .ok (.invokevirtual 211, 3) := by decide +kernel
theorem dX11_multiplyChoices_14 : decode cX11_multiplyChoices 14 = .ok (.if_icmp .ge 29, 3) := by decide +kernel
theorem dX11_multiplyChoices_17 : decode cX11_multiplyChoices 17 = .ok (.aload_n 1, 1) := by decide +kernel
theorem dX11_multiplyChoices_18 : decode cX11_multiplyChoices 18 = .ok (.aload_n 0, 1) := by decide +kernel
theorem dX11_multiplyChoices_19 : decode cX11_multiplyChoices 19 = .ok (.getfield 38, 3) := by decide +kernel
theorem dX11_multiplyChoices_22 : decode cX11_multiplyChoices 22 = .ok (.iload_n 2, 1) := by decide +kernel
theorem dX11_multiplyChoices_23 : decode cX11_multiplyChoices 23 = .ok (.aload_n 0, 1) := by decide +kernel
theorem dX11_multiplyChoices_24 : decode cX11_multiplyChoices 24 = .ok (.getfield 68, 3) := by decide +kernel
theorem dX11_multiplyChoices_27 : decode cX11_multiplyChoices 27 = .ok (.iload_n 3, 1) := by decide +kernel
theorem dX11_multiplyChoices_28 : decode cX11_multiplyChoices 28 = .ok (.invokevirtual 213, 3) := by decide +kernel
theorem dX11_multiplyChoices_31 : decode cX11_multiplyChoices 31 = .ok (.invokevirtual 223, 3) := by decide +kernel
theorem dX11_multiplyChoices_34 : decode cX11_multiplyChoices 34 = .ok (.invokevirtual 226, 3) := by decide +kernel
theorem dX11_multiplyChoices_37 : decode cX11_multiplyChoices 37 = .ok (.iinc 3 1, 3) := by decide +kernel
theorem dX11_multiplyChoices_40 : decode cX11_multiplyChoices 40 = .ok (.goto (-34), 3) := by decide +kernel
theorem dX11_multiplyChoices_43 : decode cX11_multiplyChoices 43 = .ok (.return_, 1) := by decide +kernel
theorem dX11_key_0 : decode cX11_key 0 = .ok (.aload_n 0, 1) := by decide +kernel
theorem dX11_key_1 : decode cX11_key 1 = .ok (.getfield 38, 3) := by decide +kernel
theorem dX11_key_4 : decode cX11_key 4 = .ok (.iload_n 1, 1) := by decide +kernel
theorem dX11_key_5 : decode cX11_key 5 = .ok (.invokevirtual 188, 3) := by decide +kernel
theorem dX11_key_8 : decode cX11_key 8 = .ok (.ifCond .eq 24, 3) := by decide +kernel
theorem dX11_key_11 : decode cX11_key 11 = .ok (.aload_n 0, 1) := by decide +kernel
theorem dX11_key_12 : decode cX11_key 12 = .ok (.getfield 45, 3) := by decide +kernel
theorem dX11_key_15 : decode cX11_key 15 = .ok (.iload_n 2, 1) := by decide +kernel
theorem dX11_key_16 : decode cX11_key 16 = .ok (.invokevirtual 151, 3) := by decide +kernel
theorem dX11_key_19 : decode cX11_key 19 = .ok (.ifCond .eq 13, 3) := by decide +kernel
theorem dX11_key_22 : decode cX11_key 22 = .ok (.iload_n 3, 1) := by decide +kernel
theorem dX11_key_23 : decode cX11_key 23 = .ok (.ifCond .lt 9, 3) := by decide +kernel
theorem dX11_key_26 : decode cX11_key 26 = .ok (.iload_n 3, 1) := by decide +kernel
theorem dX11_key_27 : decode cX11_key 27 = .ok (.ldc 229, 2) := by decide +kernel
theorem dX11_key_29 : decode cX11_key 29 = .ok (.if_icmp .le 5, 3) := by decide +kernel
theorem dX11_key_32 : decode cX11_key 32 = .ok (.iconst (-1), 1) := by decide +kernel
theorem dX11_key_33 : decode cX11_key 33 = .ok (.ireturn, 1) := by decide +kernel
theorem dX11_key_34 : decode cX11_key 34 = .ok (.aload_n 0, 1) := by decide +kernel
theorem dX11_key_35 : decode cX11_key 35 = .ok (.getfield 68, 3) := by decide +kernel
theorem dX11_key_38 : decode cX11_key 38 = .ok (.invokevirtual 192, 3) := by decide +kernel
theorem dX11_key_41 : decode cX11_key 41 = .ok (.ifCond .eq 14, 3) := by decide +kernel
theorem dX11_key_44 : decode cX11_key 44 = .ok (.aload_n 0, 1) := by decide +kernel
theorem dX11_key_45 : decode cX11_key 45 = .ok (.getfield 68, 3) := by decide +kernel
theorem dX11_key_48 : decode cX11_key 48 = .ok (.invokevirtual 195, 3) := by decide +kernel
theorem dX11_key_51 : decode cX11_key 51 = .ok (.iconst (-1), 1) := by decide +kernel
theorem dX11_key_52 : decode cX11_key 52 = .ok (.if_icmp .ne 5, 3) := by decide +kernel
theorem dX11_key_55 : decode cX11_key 55 = .ok (.iconst (-1), 1) := by decide +kernel
theorem dX11_key_56 : decode cX11_key 56 = .ok (.ireturn, 1) := by decide +kernel
theorem dX11_key_57 : decode cX11_key 57 = .ok (.aload_n 0, 1) := by decide +kernel
theorem dX11_key_58 : decode cX11_key 58 = .ok (.getfield 68, 3) := by decide +kernel
theorem dX11_key_61 : decode cX11_key 61 = .ok (.aload_n 0, 1) := by decide +kernel
theorem dX11_key_62 : decode cX11_key 62 = .ok (.getfield 38, 3) := by decide +kernel
theorem dX11_key_65 : decode cX11_key 65 = .ok (.iload_n 1, 1) := by decide +kernel
theorem dX11_key_66 : decode cX11_key 66 = .ok (.iload_n 3, 1) := by decide +kernel
theorem dX11_key_67 : decode cX11_key 67 = .ok (.invokevirtual 230, 3) := by decide +kernel
theorem dX11_key_70 : decode cX11_key 70 = .ok (.aload_n 0, 1) := by decide +kernel
theorem dX11_key_71 : decode cX11_key 71 = .ok (.getfield 68, 3) := by decide +kernel
theorem dX11_key_74 : decode cX11_key 74 = .ok (.aload_n 0, 1) := by decide +kernel
theorem dX11_key_75 : decode cX11_key 75 = .ok (.getfield 45, 3) := by decide +kernel
theorem dX11_key_78 : decode cX11_key 78 = .ok (.iload_n 2, 1) := by decide +kernel
theorem dX11_key_79 : decode cX11_key 79 = .ok (.invokevirtual 154, 3) := by decide +kernel
theorem dX11_key_82 : decode cX11_key 82 = .ok (.aload_n 0, 1) := by decide +kernel
theorem dX11_key_83 : decode cX11_key 83 = .ok (.getfield 52, 3) := by decide +kernel
theorem dX11_key_86 : decode cX11_key 86 = .ok (.invokevirtual 234, 3) := by decide +kernel
theorem dX11_key_89 : decode cX11_key 89 = .ok (.aload_n 0, 1) := by decide +kernel
theorem dX11_key_90 : decode cX11_key 90 = .ok (.getfield 52, 3) := by decide +kernel
theorem dX11_key_93 : decode cX11_key 93 = .ok (.invokevirtual 212, 3) := by decide +kernel
theorem dX11_key_96 : decode cX11_key 96 = .ok (.ireturn, 1) := by decide +kernel
theorem dX11_message_0 : decode cX11_message 0 = .ok (.iload_n 1, 1) := by decide +kernel
theorem dX11_message_1 : decode cX11_message 1 = .ok (.ifCond .lt 16, 3) := by decide +kernel
theorem dX11_message_4 : decode cX11_message 4 = .ok (.iload_n 2, 1) := by decide +kernel
theorem dX11_message_5 : decode cX11_message 5 = .ok (.ifCond .lt 12, 3) := by decide +kernel
theorem dX11_message_8 : decode cX11_message 8 = .ok (.iload_n 3, 1) := by decide +kernel
theorem dX11_message_9 : decode cX11_message 9 = .ok (.ifCond .lt 8, 3) := by decide +kernel
theorem dX11_message_12 : decode cX11_message 12 = .ok (.iload_n 3, 1) := by decide +kernel
theorem dX11_message_13 : decode cX11_message 13 = .ok (.iconst 3, 1) := by decide +kernel
theorem dX11_message_14 : decode cX11_message 14 = .ok (.if_icmp .le 5, 3) := by decide +kernel
theorem dX11_message_17 : decode cX11_message 17 = .ok (.iconst (-1), 1) := by decide +kernel
theorem dX11_message_18 : decode cX11_message 18 = .ok (.ireturn, 1) := by decide +kernel
theorem dX11_message_19 : decode cX11_message 19 = .ok (.iload_n 1, 1) := by decide +kernel
theorem dX11_message_20 : decode cX11_message 20 = .ok (.bipush 10, 2) := by decide +kernel
theorem dX11_message_22 : decode cX11_message 22 = .ok (.idiv, 1) := by decide +kernel
theorem dX11_message_23 : decode cX11_message 23 = .ok (.istore 4, 2) := by decide +kernel
theorem dX11_message_25 : decode cX11_message 25 = .ok (.iload_n 1, 1) := by decide +kernel
theorem dX11_message_26 : decode cX11_message 26 = .ok (.bipush 10, 2) := by decide +kernel
theorem dX11_message_28 : decode cX11_message 28 = .ok (.irem, 1) := by decide +kernel
theorem dX11_message_29 : decode cX11_message 29 = .ok (.istore 5, 2) := by decide +kernel
theorem dX11_message_31 : decode cX11_message 31 = .ok (.iload_n 2, 1) := by decide +kernel
theorem dX11_message_32 : decode cX11_message 32 = .ok (.bipush 100, 2) := by decide +kernel
theorem dX11_message_34 : decode cX11_message 34 = .ok (.idiv, 1) := by decide +kernel
theorem dX11_message_35 : decode cX11_message 35 = .ok (.istore 6, 2) := by decide +kernel
theorem dX11_message_37 : decode cX11_message 37 = .ok (.iload_n 2, 1) := by decide +kernel
theorem dX11_message_38 : decode cX11_message 38 = .ok (.bipush 100, 2) := by decide +kernel
theorem dX11_message_40 : decode cX11_message 40 = .ok (.irem, 1) := by decide +kernel
theorem dX11_message_41 : decode cX11_message 41 = .ok (.istore 7, 2) := by decide +kernel
theorem dX11_message_43 : decode cX11_message 43 = .ok (.iload 4, 2) := by decide +kernel
theorem dX11_message_45 : decode cX11_message 45 = .ok (.iload 5, 2) := by decide +kernel
theorem dX11_message_47 : decode cX11_message 47 = .ok (.invokestatic 141, 3) := by decide +kernel
theorem dX11_message_50 : decode cX11_message 50 = .ok (.ifCond .eq 24, 3) := by decide +kernel
theorem dX11_message_53 : decode cX11_message 53 = .ok (.iload 6, 2) := by decide +kernel
theorem dX11_message_55 : decode cX11_message 55 = .ok (.sipush 200, 3) := by decide +kernel
theorem dX11_message_58 : decode cX11_message 58 = .ok (.if_icmp .gt 16, 3) := by decide +kernel
theorem dX11_message_61 : decode cX11_message 61 = .ok (.iload 7, 2) := by decide +kernel
theorem dX11_message_63 : decode cX11_message 63 = .ok (.iconst 1, 1) := by decide +kernel
theorem dX11_message_64 : decode cX11_message 64 = .ok (.if_icmp .lt 10, 3) := by decide +kernel
theorem dX11_message_67 : decode cX11_message 67 = .ok (.iload 7, 2) := by decide +kernel
theorem dX11_message_69 : decode cX11_message 69 = .ok (.bipush 60, 2) := by decide +kernel
theorem dX11_message_71 : decode cX11_message 71 = .ok (.if_icmp .le 5, 3) := by decide +kernel
theorem dX11_message_74 : decode cX11_message 74 = .ok (.iconst (-1), 1) := by decide +kernel
theorem dX11_message_75 : decode cX11_message 75 = .ok (.ireturn, 1) := by decide +kernel
theorem dX11_message_76 : decode cX11_message 76 = .ok (.aload_n 0, 1) := by decide +kernel
theorem dX11_message_77 : decode cX11_message 77 = .ok (.getfield 45, 3) := by decide +kernel
theorem dX11_message_80 : decode cX11_message 80 = .ok (.iload 4, 2) := by decide +kernel
theorem dX11_message_82 : decode cX11_message 82 = .ok (.iload 5, 2) := by decide +kernel
theorem dX11_message_84 : decode cX11_message 84 = .ok (.invokevirtual 238, 3) := by decide +kernel
theorem dX11_message_87 : decode cX11_message 87 = .ok (.iconst (-1), 1) := by decide +kernel
theorem dX11_message_88 : decode cX11_message 88 = .ok (.if_icmp .ne 7, 3) := by decide +kernel
theorem dX11_message_91 : decode cX11_message 91 = .ok (.iconst (-1), 1) := by decide +kernel
theorem dX11_message_92 : decode cX11_message 92 = .ok (.goto 19, 3) := by decide +kernel
theorem dX11_message_95 : decode cX11_message 95 = .ok (.aload_n 0, 1) := by decide +kernel
theorem dX11_message_96 : decode cX11_message 96 = .ok (.getfield 77, 3) := by decide +kernel
theorem dX11_message_99 : decode cX11_message 99 = .ok (.iload 4, 2) := by decide +kernel
theorem dX11_message_101 : decode cX11_message 101 = .ok (.iload 5, 2) := by decide +kernel
theorem dX11_message_103 : decode cX11_message 103 = .ok (.iload 6, 2) := by decide +kernel
theorem dX11_message_105 : decode cX11_message 105 = .ok (.iload 7, 2) := by decide +kernel
theorem dX11_message_107 : decode cX11_message 107 = .ok (.iload_n 3, 1) := by decide +kernel
theorem dX11_message_108 : decode cX11_message 108 = .ok (.invokevirtual 241, 3) := by decide +kernel
theorem dX11_message_111 : decode cX11_message 111 = .ok (.ireturn, 1) := by decide +kernel
theorem dX11_route_0 : decode cX11_route 0 = .ok (.iload_n 1, 1) := by decide +kernel
theorem dX11_route_1 : decode cX11_route 1 = .ok (.iload_n 2, 1) := by decide +kernel
theorem dX11_route_2 : decode cX11_route 2 = .ok (.invokestatic 141, 3) := by decide +kernel
theorem dX11_route_5 : decode cX11_route 5 = .ok (.ifCond .ne 5, 3) := by decide +kernel
theorem dX11_route_8 : decode cX11_route 8 = .ok (.iconst (-1), 1) := by decide +kernel
theorem dX11_route_9 : decode cX11_route 9 = .ok (.ireturn, 1) := by decide +kernel
theorem dX11_route_10 : decode cX11_route 10 = .ok (.aload_n 0, 1) := by decide +kernel
theorem dX11_route_11 : decode cX11_route 11 = .ok (.getfield 45, 3) := by decide +kernel
theorem dX11_route_14 : decode cX11_route 14 = .ok (.iload_n 1, 1) := by decide +kernel
theorem dX11_route_15 : decode cX11_route 15 = .ok (.iload_n 2, 1) := by decide +kernel
theorem dX11_route_16 : decode cX11_route 16 = .ok (.invokevirtual 238, 3) := by decide +kernel
theorem dX11_route_19 : decode cX11_route 19 = .ok (.istore 4, 2) := by decide +kernel
theorem dX11_route_21 : decode cX11_route 21 = .ok (.iload_n 3, 1) := by decide +kernel
theorem dX11_route_22 : decode cX11_route 22 = .ok (.iconst (-1), 1) := by decide +kernel
theorem dX11_route_23 : decode cX11_route 23 = .ok (.if_icmp .eq 9, 3) := by decide +kernel
theorem dX11_route_26 : decode cX11_route 26 = .ok (.iload 4, 2) := by decide +kernel
theorem dX11_route_28 : decode cX11_route 28 = .ok (.iconst (-1), 1) := by decide +kernel
theorem dX11_route_29 : decode cX11_route 29 = .ok (.if_icmp .ne 6, 3) := by decide +kernel
theorem dX11_route_32 : decode cX11_route 32 = .ok (.iload 4, 2) := by decide +kernel
theorem dX11_route_34 : decode cX11_route 34 = .ok (.ireturn, 1) := by decide +kernel
theorem dX11_route_35 : decode cX11_route 35 = .ok (.aload_n 0, 1) := by decide +kernel
theorem dX11_route_36 : decode cX11_route 36 = .ok (.getfield 45, 3) := by decide +kernel
theorem dX11_route_39 : decode cX11_route 39 = .ok (.iload_n 3, 1) := by decide +kernel
theorem dX11_route_40 : decode cX11_route 40 = .ok (.invokevirtual 242, 3) := by decide +kernel
theorem dX11_route_43 : decode cX11_route 43 = .ok (.ireturn, 1) := by decide +kernel
theorem dX11_sent_0 : decode cX11_sent 0 = .ok (.aload_n 0, 1) := by decide +kernel
theorem dX11_sent_1 : decode cX11_sent 1 = .ok (.getfield 77, 3) := by decide +kernel
theorem dX11_sent_4 : decode cX11_sent 4 = .ok (.iload_n 1, 1) := by decide +kernel
theorem dX11_sent_5 : decode cX11_sent 5 = .ok (.invokevirtual 245, 3) := by decide +kernel
theorem dX11_sent_8 : decode cX11_sent 8 = .ok (.ifCond .ne 5, 3) := by decide +kernel
theorem dX11_sent_11 : decode cX11_sent 11 = .ok (.iconst (-1), 1) := by decide +kernel
theorem dX11_sent_12 : decode cX11_sent 12 = .ok (.ireturn, 1) := by decide +kernel
theorem dX11_sent_13 : decode cX11_sent 13 = .ok (.aload_n 0, 1) := by decide +kernel
theorem dX11_sent_14 : decode cX11_sent 14 = .ok (.getfield 77, 3) := by decide +kernel
theorem dX11_sent_17 : decode cX11_sent 17 = .ok (.invokevirtual 246, 3) := by decide +kernel
theorem dX11_sent_20 : decode cX11_sent 20 = .ok (.iload_n 2, 1) := by decide +kernel
theorem dX11_sent_21 : decode cX11_sent 21 = .ok (.tableswitch 70 0 2 #[27, 36, 45], 27) := by decide +kernel
theorem dX11_sent_48 : decode cX11_sent 48 = .ok (.aload_n 0, 1) := by decide +kernel
theorem dX11_sent_49 : decode cX11_sent 49 = .ok (.getfield 77, 3) := by decide +kernel
theorem dX11_sent_52 : decode cX11_sent 52 = .ok (.iload_n 1, 1) := by decide +kernel
theorem dX11_sent_53 : decode cX11_sent 53 = .ok (.invokevirtual 249, 3) := by decide +kernel
theorem dX11_sent_56 : decode cX11_sent 56 = .ok (.ireturn, 1) := by decide +kernel
theorem dX11_sent_57 : decode cX11_sent 57 = .ok (.aload_n 0, 1) := by decide +kernel
theorem dX11_sent_58 : decode cX11_sent 58 = .ok (.getfield 77, 3) := by decide +kernel
theorem dX11_sent_61 : decode cX11_sent 61 = .ok (.iload_n 1, 1) := by decide +kernel
theorem dX11_sent_62 : decode cX11_sent 62 = .ok (.invokevirtual 252, 3) := by decide +kernel
theorem dX11_sent_65 : decode cX11_sent 65 = .ok (.ireturn, 1) := by decide +kernel
theorem dX11_sent_66 : decode cX11_sent 66 = .ok (.iload_n 3, 1) := by decide +kernel
theorem dX11_sent_67 : decode cX11_sent 67 = .ok (.ifCond .lt 10, 3) := by decide +kernel
theorem dX11_sent_70 : decode cX11_sent 70 = .ok (.iload_n 3, 1) := by decide +kernel
theorem dX11_sent_71 : decode cX11_sent 71 = .ok (.sipush 5000, 3) := by decide +kernel
theorem dX11_sent_74 : decode cX11_sent 74 = .ok (.if_icmp .le 7, 3) := by decide +kernel
theorem dX11_sent_77 : decode cX11_sent 77 = .ok (.iconst (-1), 1) := by decide +kernel
theorem dX11_sent_78 : decode cX11_sent 78 = .ok (.goto 12, 3) := by decide +kernel
theorem dX11_sent_81 : decode cX11_sent 81 = .ok (.aload_n 0, 1) := by decide +kernel
theorem dX11_sent_82 : decode cX11_sent 82 = .ok (.getfield 77, 3) := by decide +kernel
theorem dX11_sent_85 : decode cX11_sent 85 = .ok (.iload_n 1, 1) := by decide +kernel
theorem dX11_sent_86 : decode cX11_sent 86 = .ok (.iload_n 3, 1) := by decide +kernel
theorem dX11_sent_87 : decode cX11_sent 87 = .ok (.invokevirtual 255, 3) := by decide +kernel
theorem dX11_sent_90 : decode cX11_sent 90 = .ok (.ireturn, 1) := by decide +kernel
theorem dX11_sent_91 : decode cX11_sent 91 = .ok (.iconst (-1), 1) := by decide +kernel
theorem dX11_sent_92 : decode cX11_sent 92 = .ok (.ireturn, 1) := by decide +kernel
theorem dX11_tap_0 : decode cX11_tap 0 = .ok (.aload_n 0, 1) := by decide +kernel
theorem dX11_tap_1 : decode cX11_tap 1 = .ok (.getfield 45, 3) := by decide +kernel
theorem dX11_tap_4 : decode cX11_tap 4 = .ok (.iload_n 1, 1) := by decide +kernel
theorem dX11_tap_5 : decode cX11_tap 5 = .ok (.invokevirtual 151, 3) := by decide +kernel
theorem dX11_tap_8 : decode cX11_tap 8 = .ok (.ifCond .ne 5, 3) := by decide +kernel
theorem dX11_tap_11 : decode cX11_tap 11 = .ok (.iconst (-1), 1) := by decide +kernel
theorem dX11_tap_12 : decode cX11_tap 12 = .ok (.ireturn, 1) := by decide +kernel
theorem dX11_tap_13 : decode cX11_tap 13 = .ok (.aload_n 0, 1) := by decide +kernel
theorem dX11_tap_14 : decode cX11_tap 14 = .ok (.getfield 77, 3) := by decide +kernel
theorem dX11_tap_17 : decode cX11_tap 17 = .ok (.invokevirtual 246, 3) := by decide +kernel
theorem dX11_tap_20 : decode cX11_tap 20 = .ok (.aload_n 0, 1) := by decide +kernel
theorem dX11_tap_21 : decode cX11_tap 21 = .ok (.getfield 77, 3) := by decide +kernel
theorem dX11_tap_24 : decode cX11_tap 24 = .ok (.iload_n 1, 1) := by decide +kernel
theorem dX11_tap_25 : decode cX11_tap 25 = .ok (.iload_n 2, 1) := by decide +kernel
theorem dX11_tap_26 : decode cX11_tap 26 = .ok (.invokevirtual 258, 3) := by decide +kernel
theorem dX11_tap_29 : decode cX11_tap 29 = .ok (.ireturn, 1) := by decide +kernel
theorem dX11_clock_0 : decode cX11_clock 0 = .ok (.iload_n 1, 1) := by decide +kernel
theorem dX11_clock_1 : decode cX11_clock 1 = .ok (.invokestatic 157, 3) := by decide +kernel
theorem dX11_clock_4 : decode cX11_clock 4 = .ok (.ifCond .eq 20, 3) := by decide +kernel
theorem dX11_clock_7 : decode cX11_clock 7 = .ok (.iload_n 2, 1) := by decide +kernel
theorem dX11_clock_8 : decode cX11_clock 8 = .ok (.bipush (-60), 2) := by decide +kernel
theorem dX11_clock_10 : decode cX11_clock 10 = .ok (.if_icmp .lt 14, 3) := by decide +kernel
theorem dX11_clock_13 : decode cX11_clock 13 = .ok (.iload_n 3, 1) := by decide +kernel
theorem dX11_clock_14 : decode cX11_clock 14 = .ok (.bipush 60, 2) := by decide +kernel
theorem dX11_clock_16 : decode cX11_clock 16 = .ok (.if_icmp .gt 8, 3) := by decide +kernel
theorem dX11_clock_19 : decode cX11_clock 19 = .ok (.iload_n 2, 1) := by decide +kernel
theorem dX11_clock_20 : decode cX11_clock 20 = .ok (.iload_n 3, 1) := by decide +kernel
theorem dX11_clock_21 : decode cX11_clock 21 = .ok (.if_icmp .le 5, 3) := by decide +kernel
theorem dX11_clock_24 : decode cX11_clock 24 = .ok (.iconst 0, 1) := by decide +kernel
theorem dX11_clock_25 : decode cX11_clock 25 = .ok (.ireturn, 1) := by decide +kernel
theorem dX11_clock_26 : decode cX11_clock 26 = .ok (.aload_n 0, 1) := by decide +kernel
theorem dX11_clock_27 : decode cX11_clock 27 = .ok (.getfield 84, 3) := by decide +kernel
theorem dX11_clock_30 : decode cX11_clock 30 = .ok (.iload_n 1, 1) := by decide +kernel
theorem dX11_clock_31 : decode cX11_clock 31 = .ok (.iload_n 2, 1) := by decide +kernel
theorem dX11_clock_32 : decode cX11_clock 32 = .ok (.iload_n 3, 1) := by decide +kernel
theorem dX11_clock_33 : decode cX11_clock 33 = .ok (.invokevirtual 261, 3) := by decide +kernel
theorem dX11_clock_36 : decode cX11_clock 36 = .ok (.iconst 1, 1) := by decide +kernel
theorem dX11_clock_37 : decode cX11_clock 37 = .ok (.ireturn, 1) := by decide +kernel
theorem dX11_event_0 : decode cX11_event 0 = .ok (.iload_n 1, 1) := by decide +kernel
theorem dX11_event_1 : decode cX11_event 1 = .ok (.invokestatic 157, 3) := by decide +kernel
theorem dX11_event_4 : decode cX11_event 4 = .ok (.ifCond .eq 26, 3) := by decide +kernel
theorem dX11_event_7 : decode cX11_event 7 = .ok (.iload_n 2, 1) := by decide +kernel
theorem dX11_event_8 : decode cX11_event 8 = .ok (.ifCond .lt 22, 3) := by decide +kernel
theorem dX11_event_11 : decode cX11_event 11 = .ok (.iload_n 2, 1) := by decide +kernel
theorem dX11_event_12 : decode cX11_event 12 = .ok (.sipush 999, 3) := by decide +kernel
theorem dX11_event_15 : decode cX11_event 15 = .ok (.if_icmp .gt 15, 3) := by decide +kernel
theorem dX11_event_18 : decode cX11_event 18 = .ok (.aload_n 0, 1) := by decide +kernel
theorem dX11_event_19 : decode cX11_event 19 = .ok (.getfield 84, 3) := by decide +kernel
theorem dX11_event_22 : decode cX11_event 22 = .ok (.iload_n 1, 1) := by decide +kernel
theorem dX11_event_23 : decode cX11_event 23 = .ok (.iload_n 2, 1) := by decide +kernel
theorem dX11_event_24 : decode cX11_event 24 = .ok (.invokevirtual 265, 3) := by decide +kernel
theorem dX11_event_27 : decode cX11_event 27 = .ok (.goto 4, 3) := by decide +kernel
theorem dX11_event_30 : decode cX11_event 30 = .ok (.iconst (-1), 1) := by decide +kernel
theorem dX11_event_31 : decode cX11_event 31 = .ok (.ireturn, 1) := by decide +kernel
theorem dX11_fact_0 : decode cX11_fact 0 = .ok (.aload_n 0, 1) := by decide +kernel
theorem dX11_fact_1 : decode cX11_fact 1 = .ok (.getfield 84, 3) := by decide +kernel
theorem dX11_fact_4 : decode cX11_fact 4 = .ok (.iload_n 1, 1) := by decide +kernel
theorem dX11_fact_5 : decode cX11_fact 5 = .ok (.invokevirtual 268, 3) := by decide +kernel
theorem dX11_fact_8 : decode cX11_fact 8 = .ok (.ifCond .eq 35, 3) := by decide +kernel
theorem dX11_fact_11 : decode cX11_fact 11 = .ok (.aload_n 0, 1) := by decide +kernel
theorem dX11_fact_12 : decode cX11_fact 12 = .ok (.getfield 84, 3) := by decide +kernel
theorem dX11_fact_15 : decode cX11_fact 15 = .ok (.iload_n 2, 1) := by decide +kernel
theorem dX11_fact_16 : decode cX11_fact 16 = .ok (.invokevirtual 268, 3) := by decide +kernel
theorem dX11_fact_19 : decode cX11_fact 19 = .ok (.ifCond .eq 24, 3) := by decide +kernel
theorem dX11_fact_22 : decode cX11_fact 22 = .ok (.iload_n 1, 1) := by decide +kernel
theorem dX11_fact_23 : decode cX11_fact 23 = .ok (.iload_n 2, 1) := by decide +kernel
theorem dX11_fact_24 : decode cX11_fact 24 = .ok (.if_icmp .eq 19, 3) := by decide +kernel
theorem dX11_fact_27 : decode cX11_fact 27 = .ok (.iload_n 3, 1) := by decide +kernel
theorem dX11_fact_28 : decode cX11_fact 28 = .ok (.bipush (-99), 2) := by decide +kernel
theorem dX11_fact_30 : decode cX11_fact 30 = .ok (.if_icmp .lt 13, 3) := by decide +kernel
theorem dX11_fact_33 : decode cX11_fact 33 = .ok (.iload_n 3, 1) := by decide +kernel
theorem dX11_fact_34 : decode cX11_fact 34 = .ok (.bipush 99, 2) := by decide +kernel
theorem dX11_fact_36 : decode cX11_fact 36 = .ok (.if_icmp .gt 7, 3) := by decide +kernel
theorem dX11_fact_39 : decode cX11_fact 39 = .ok (.iconst 1, 1) := by decide +kernel
theorem dX11_fact_40 : decode cX11_fact 40 = .ok (.goto 4, 3) := by decide +kernel
theorem dX11_fact_43 : decode cX11_fact 43 = .ok (.iconst 0, 1) := by decide +kernel
theorem dX11_fact_44 : decode cX11_fact 44 = .ok (.istore 4, 2) := by decide +kernel
theorem dX11_fact_46 : decode cX11_fact 46 = .ok (.iload 4, 2) := by decide +kernel
theorem dX11_fact_48 : decode cX11_fact 48 = .ok (.ifCond .eq 16, 3) := by decide +kernel
theorem dX11_fact_51 : decode cX11_fact 51 = .ok (.aload_n 0, 1) := by decide +kernel
theorem dX11_fact_52 : decode cX11_fact 52 = .ok (.getfield 84, 3) := by decide +kernel
theorem dX11_fact_55 : decode cX11_fact 55 = .ok (.iload_n 1, 1) := by decide +kernel
theorem dX11_fact_56 : decode cX11_fact 56 = .ok (.iload_n 2, 1) := by decide +kernel
theorem dX11_fact_57 : decode cX11_fact 57 = .ok (.iload_n 3, 1) := by decide +kernel
theorem dX11_fact_58 : decode cX11_fact 58 = .ok (.invokevirtual 271, 3) := by decide +kernel
theorem dX11_fact_61 : decode cX11_fact 61 = .ok (.goto 4, 3) := by decide +kernel
theorem dX11_fact_64 : decode cX11_fact 64 = .ok (.iconst (-1), 1) := by decide +kernel
theorem dX11_fact_65 : decode cX11_fact 65 = .ok (.ireturn, 1) := by decide +kernel
theorem dX11_undo_0 : decode cX11_undo 0 = .ok (.aload_n 0, 1) := by decide +kernel
theorem dX11_undo_1 : decode cX11_undo 1 = .ok (.getfield 84, 3) := by decide +kernel
theorem dX11_undo_4 : decode cX11_undo 4 = .ok (.invokevirtual 274, 3) := by decide +kernel
theorem dX11_undo_7 : decode cX11_undo 7 = .ok (.ireturn, 1) := by decide +kernel
theorem dX11_apart_0 : decode cX11_apart 0 = .ok (.aload_n 0, 1) := by decide +kernel
theorem dX11_apart_1 : decode cX11_apart 1 = .ok (.getfield 84, 3) := by decide +kernel
theorem dX11_apart_4 : decode cX11_apart 4 = .ok (.iload_n 1, 1) := by decide +kernel
theorem dX11_apart_5 : decode cX11_apart 5 = .ok (.invokevirtual 268, 3) := by decide +kernel
theorem dX11_apart_8 : decode cX11_apart 8 = .ok (.ifCond .eq 24, 3) := by decide +kernel
theorem dX11_apart_11 : decode cX11_apart 11 = .ok (.aload_n 0, 1) := by decide +kernel
theorem dX11_apart_12 : decode cX11_apart 12 = .ok (.getfield 84, 3) := by decide +kernel
theorem dX11_apart_15 : decode cX11_apart 15 = .ok (.iload_n 2, 1) := by decide +kernel
theorem dX11_apart_16 : decode cX11_apart 16 = .ok (.invokevirtual 268, 3) := by decide +kernel
theorem dX11_apart_19 : decode cX11_apart 19 = .ok (.ifCond .eq 13, 3) := by decide +kernel
theorem dX11_apart_22 : decode cX11_apart 22 = .ok (.aload_n 0, 1) := by decide +kernel
theorem dX11_apart_23 : decode cX11_apart 23 = .ok (.getfield 84, 3) := by decide +kernel
theorem dX11_apart_26 : decode cX11_apart 26 = .ok (.invokevirtual 277, 3) := by decide +kernel
theorem dX11_apart_29 : decode cX11_apart 29 = .ok (.ifCond .ne 7, 3) := by decide +kernel
theorem dX11_apart_32 : decode cX11_apart 32 = .ok (.ldc_w 280, 3) := by decide +kernel
theorem dX11_apart_35 : decode cX11_apart 35 = .ok (.ireturn, 1) := by decide +kernel
theorem dX11_apart_36 : decode cX11_apart 36 = .ok (.iload_n 3, 1) := by decide +kernel
theorem dX11_apart_37 : decode cX11_apart 37 = .ok (.ifCond .ne 13, 3) := by decide +kernel
theorem dX11_apart_40 : decode cX11_apart 40 = .ok (.aload_n 0, 1) := by decide +kernel
theorem dX11_apart_41 : decode cX11_apart 41 = .ok (.getfield 84, 3) := by decide +kernel
theorem dX11_apart_44 : decode cX11_apart 44 = .ok (.iload_n 1, 1) := by decide +kernel
theorem dX11_apart_45 : decode cX11_apart 45 = .ok (.iload_n 2, 1) := by decide +kernel
theorem dX11_apart_46 : decode cX11_apart 46 = .ok (.invokevirtual 281, 3) := by decide +kernel
theorem dX11_apart_49 : decode cX11_apart 49 = .ok (.ireturn, 1) := by decide +kernel
theorem dX11_apart_50 : decode cX11_apart 50 = .ok (.iload_n 3, 1) := by decide +kernel
theorem dX11_apart_51 : decode cX11_apart 51 = .ok (.iconst 1, 1) := by decide +kernel
theorem dX11_apart_52 : decode cX11_apart 52 = .ok (.if_icmp .ne 15, 3) := by decide +kernel
theorem dX11_apart_55 : decode cX11_apart 55 = .ok (.aload_n 0, 1) := by decide +kernel
theorem dX11_apart_56 : decode cX11_apart 56 = .ok (.getfield 84, 3) := by decide +kernel
theorem dX11_apart_59 : decode cX11_apart 59 = .ok (.iload_n 1, 1) := by decide +kernel
theorem dX11_apart_60 : decode cX11_apart 60 = .ok (.iload_n 2, 1) := by decide +kernel
theorem dX11_apart_61 : decode cX11_apart 61 = .ok (.invokevirtual 284, 3) := by decide +kernel
theorem dX11_apart_64 : decode cX11_apart 64 = .ok (.goto 6, 3) := by decide +kernel
theorem dX11_apart_67 : decode cX11_apart 67 = .ok (.ldc_w 280, 3) := by decide +kernel
theorem dX11_apart_70 : decode cX11_apart 70 = .ok (.ireturn, 1) := by decide +kernel
theorem dX11_first_0 : decode cX11_first 0 = .ok (.aload_n 0, 1) := by decide +kernel
theorem dX11_first_1 : decode cX11_first 1 = .ok (.getfield 84, 3) := by decide +kernel
theorem dX11_first_4 : decode cX11_first 4 = .ok (.iload_n 1, 1) := by decide +kernel
theorem dX11_first_5 : decode cX11_first 5 = .ok (.invokevirtual 268, 3) := by decide +kernel
theorem dX11_first_8 : decode cX11_first 8 = .ok (.ifCond .eq 24, 3) := by decide +kernel
theorem dX11_first_11 : decode cX11_first 11 = .ok (.aload_n 0, 1) := by decide +kernel
theorem dX11_first_12 : decode cX11_first 12 = .ok (.getfield 84, 3) := by decide +kernel
theorem dX11_first_15 : decode cX11_first 15 = .ok (.iload_n 2, 1) := by decide +kernel
theorem dX11_first_16 : decode cX11_first 16 = .ok (.invokevirtual 268, 3) := by decide +kernel
theorem dX11_first_19 : decode cX11_first 19 = .ok (.ifCond .eq 13, 3) := by decide +kernel
theorem dX11_first_22 : decode cX11_first 22 = .ok (.aload_n 0, 1) := by decide +kernel
theorem dX11_first_23 : decode cX11_first 23 = .ok (.getfield 84, 3) := by decide +kernel
theorem dX11_first_26 : decode cX11_first 26 = .ok (.invokevirtual 277, 3) := by decide +kernel
theorem dX11_first_29 : decode cX11_first 29 = .ok (.ifCond .ne 5, 3) := by decide +kernel
theorem dX11_first_32 : decode cX11_first 32 = .ok (.iconst (-1), 1) := by decide +kernel
theorem dX11_first_33 : decode cX11_first 33 = .ok (.ireturn, 1) := by decide +kernel
theorem dX11_first_34 : decode cX11_first 34 = .ok (.aload_n 0, 1) := by decide +kernel
theorem dX11_first_35 : decode cX11_first 35 = .ok (.getfield 84, 3) := by decide +kernel
theorem dX11_first_38 : decode cX11_first 38 = .ok (.iload_n 1, 1) := by decide +kernel
theorem dX11_first_39 : decode cX11_first 39 = .ok (.iload_n 2, 1) := by decide +kernel
theorem dX11_first_40 : decode cX11_first 40 = .ok (.invokevirtual 281, 3) := by decide +kernel
theorem dX11_first_43 : decode cX11_first 43 = .ok (.istore_n 3, 1) := by decide +kernel
theorem dX11_first_44 : decode cX11_first 44 = .ok (.aload_n 0, 1) := by decide +kernel
theorem dX11_first_45 : decode cX11_first 45 = .ok (.getfield 84, 3) := by decide +kernel
theorem dX11_first_48 : decode cX11_first 48 = .ok (.iload_n 1, 1) := by decide +kernel
theorem dX11_first_49 : decode cX11_first 49 = .ok (.iload_n 2, 1) := by decide +kernel
theorem dX11_first_50 : decode cX11_first 50 = .ok (.invokevirtual 284, 3) := by decide +kernel
theorem dX11_first_53 : decode cX11_first 53 = .ok (.istore 4, 2) := by decide +kernel
theorem dX11_first_55 : decode cX11_first 55 = .ok (.iload_n 3, 1) := by decide +kernel
theorem dX11_first_56 : decode cX11_first 56 = .ok (.ifCond .le 5, 3) := by decide +kernel
theorem dX11_first_59 : decode cX11_first 59 = .ok (.iconst 1, 1) := by decide +kernel
theorem dX11_first_60 : decode cX11_first 60 = .ok (.ireturn, 1) := by decide +kernel
theorem dX11_first_61 : decode cX11_first 61 = .ok (.iload 4, 2) := by decide +kernel
theorem dX11_first_63 : decode cX11_first 63 = .ok (.ifCond .ge 5, 3) := by decide +kernel
theorem dX11_first_66 : decode cX11_first 66 = .ok (.iconst 2, 1) := by decide +kernel
theorem dX11_first_67 : decode cX11_first 67 = .ok (.ireturn, 1) := by decide +kernel
theorem dX11_first_68 : decode cX11_first 68 = .ok (.iload_n 3, 1) := by decide +kernel
theorem dX11_first_69 : decode cX11_first 69 = .ok (.ifCond .ne 12, 3) := by decide +kernel
theorem dX11_first_72 : decode cX11_first 72 = .ok (.iload 4, 2) := by decide +kernel
theorem dX11_first_74 : decode cX11_first 74 = .ok (.ifCond .ne 7, 3) := by decide +kernel
theorem dX11_first_77 : decode cX11_first 77 = .ok (.iconst 0, 1) := by decide +kernel
theorem dX11_first_78 : decode cX11_first 78 = .ok (.goto 4, 3) := by decide +kernel
theorem dX11_first_81 : decode cX11_first 81 = .ok (.iconst (-1), 1) := by decide +kernel
theorem dX11_first_82 : decode cX11_first 82 = .ok (.ireturn, 1) := by decide +kernel
theorem dX11_count_0 : decode cX11_count 0 = .ok (.iload_n 1, 1) := by decide +kernel
theorem dX11_count_1 : decode cX11_count 1 = .ok (.tableswitch 135 0 9 #[55, 63, 71, 79, 87, 95, 103, 111, 119, 127], 55) := by decide +kernel
theorem dX11_count_56 : decode cX11_count 56 = .ok (.aload_n 0, 1) := by decide +kernel
theorem dX11_count_57 : decode cX11_count 57 = .ok (.getfield 19, 3) := by decide +kernel
theorem dX11_count_60 : decode cX11_count 60 = .ok (.invokevirtual 287, 3) := by decide +kernel
theorem dX11_count_63 : decode cX11_count 63 = .ok (.ireturn, 1) := by decide +kernel
theorem dX11_count_64 : decode cX11_count 64 = .ok (.aload_n 0, 1) := by decide +kernel
theorem dX11_count_65 : decode cX11_count 65 = .ok (.getfield 19, 3) := by decide +kernel
theorem dX11_count_68 : decode cX11_count 68 = .ok (.invokevirtual 121, 3) := by decide +kernel
theorem dX11_count_71 : decode cX11_count 71 = .ok (.ireturn, 1) := by decide +kernel
theorem dX11_count_72 : decode cX11_count 72 = .ok (.aload_n 0, 1) := by decide +kernel
theorem dX11_count_73 : decode cX11_count 73 = .ok (.getfield 38, 3) := by decide +kernel
theorem dX11_count_76 : decode cX11_count 76 = .ok (.invokevirtual 198, 3) := by decide +kernel
theorem dX11_count_79 : decode cX11_count 79 = .ok (.ireturn, 1) := by decide +kernel
theorem dX11_count_80 : decode cX11_count 80 = .ok (.aload_n 0, 1) := by decide +kernel
theorem dX11_count_81 : decode cX11_count 81 = .ok (.getfield 45, 3) := by decide +kernel
theorem dX11_count_84 : decode cX11_count 84 = .ok (.invokevirtual 199, 3) := by decide +kernel
theorem dX11_count_87 : decode cX11_count 87 = .ok (.ireturn, 1) := by decide +kernel
theorem dX11_count_88 : decode cX11_count 88 = .ok (.aload_n 0, 1) := by decide +kernel
theorem dX11_count_89 : decode cX11_count 89 = .ok (.getfield 52, 3) := by decide +kernel
theorem dX11_count_92 : decode cX11_count 92 = .ok (.invokevirtual 212, 3) := by decide +kernel
theorem dX11_count_95 : decode cX11_count 95 = .ok (.ireturn, 1) := by decide +kernel
theorem dX11_count_96 : decode cX11_count 96 = .ok (.aload_n 0, 1) := by decide +kernel
theorem dX11_count_97 : decode cX11_count 97 = .ok (.getfield 77, 3) := by decide +kernel
theorem dX11_count_100 : decode cX11_count 100 = .ok (.invokevirtual 290, 3) := by decide +kernel
theorem dX11_count_103 : decode cX11_count 103 = .ok (.ireturn, 1) := by decide +kernel
theorem dX11_count_104 : decode cX11_count 104 = .ok (.aload_n 0, 1) := by decide +kernel
theorem dX11_count_105 : decode cX11_count 105 = .ok (.getfield 84, 3) := by decide +kernel
theorem dX11_count_108 : decode cX11_count 108 = .ok (.invokevirtual 291, 3) := by decide +kernel
theorem dX11_count_111 : decode cX11_count 111 = .ok (.ireturn, 1) := by decide +kernel
theorem dX11_count_112 : decode cX11_count 112 = .ok (.aload_n 0, 1) := by decide +kernel
theorem dX11_count_113 : decode cX11_count 113 = .ok (.getfield 84, 3) := by decide +kernel
theorem dX11_count_116 : decode cX11_count 116 = .ok (.invokevirtual 294, 3) := by decide +kernel
theorem dX11_count_119 : decode cX11_count 119 = .ok (.ireturn, 1) := by decide +kernel
theorem dX11_count_120 : decode cX11_count 120 = .ok (.aload_n 0, 1) := by decide +kernel
theorem dX11_count_121 : decode cX11_count 121 = .ok (.getfield 10, 3) := by decide +kernel
theorem dX11_count_124 : decode cX11_count 124 = .ok (.invokevirtual 106, 3) := by decide +kernel
theorem dX11_count_127 : decode cX11_count 127 = .ok (.ireturn, 1) := by decide +kernel
theorem dX11_count_128 : decode cX11_count 128 = .ok (.aload_n 0, 1) := by decide +kernel
theorem dX11_count_129 : decode cX11_count 129 = .ok (.getfield 45, 3) := by decide +kernel
theorem dX11_count_132 : decode cX11_count 132 = .ok (.invokevirtual 297, 3) := by decide +kernel
theorem dX11_count_135 : decode cX11_count 135 = .ok (.ireturn, 1) := by decide +kernel
theorem dX11_count_136 : decode cX11_count 136 = .ok (.iconst (-1), 1) := by decide +kernel
theorem dX11_count_137 : decode cX11_count 137 = .ok (.ireturn, 1) := by decide +kernel
theorem dJ6_compare_7cf53_0 : decode cJ6_compare_7cf53 0 = .ok (.iload_n 0, 1) := by decide +kernel
theorem dJ6_compare_7cf53_1 : decode cJ6_compare_7cf53 1 = .ok (.iload_n 1, 1) := by decide +kernel
theorem dJ6_compare_7cf53_2 : decode cJ6_compare_7cf53 2 = .ok (.if_icmp .ge 7, 3) := by decide +kernel
theorem dJ6_compare_7cf53_5 : decode cJ6_compare_7cf53 5 = .ok (.iconst (-1), 1) := by decide +kernel
theorem dJ6_compare_7cf53_6 : decode cJ6_compare_7cf53 6 = .ok (.goto 13, 3) := by decide +kernel
theorem dJ6_compare_7cf53_9 : decode cJ6_compare_7cf53 9 = .ok (.iload_n 0, 1) := by decide +kernel
theorem dJ6_compare_7cf53_10 : decode cJ6_compare_7cf53 10 = .ok (.iload_n 1, 1) := by decide +kernel
theorem dJ6_compare_7cf53_11 : decode cJ6_compare_7cf53 11 = .ok (.if_icmp .ne 7, 3) := by decide +kernel
theorem dJ6_compare_7cf53_14 : decode cJ6_compare_7cf53 14 = .ok (.iconst 0, 1) := by decide +kernel
theorem dJ6_compare_7cf53_15 : decode cJ6_compare_7cf53 15 = .ok (.goto 4, 3) := by decide +kernel
theorem dJ6_compare_7cf53_18 : decode cJ6_compare_7cf53 18 = .ok (.iconst 1, 1) := by decide +kernel
theorem dJ6_compare_7cf53_19 : decode cJ6_compare_7cf53 19 = .ok (.ireturn, 1) := by decide +kernel
theorem dJ9_abs_0f7a4_0 : decode cJ9_abs_0f7a4 0 = .ok (.iload_n 0, 1) := by decide +kernel
theorem dJ9_abs_0f7a4_1 : decode cJ9_abs_0f7a4 1 = .ok (.ifCond .ge 8, 3) := by decide +kernel
theorem dJ9_abs_0f7a4_4 : decode cJ9_abs_0f7a4 4 = .ok (.iload_n 0, 1) := by decide +kernel
theorem dJ9_abs_0f7a4_5 : decode cJ9_abs_0f7a4 5 = .ok (.ineg, 1) := by decide +kernel
theorem dJ9_abs_0f7a4_6 : decode cJ9_abs_0f7a4 6 = .ok (.goto 4, 3) := by decide +kernel
theorem dJ9_abs_0f7a4_9 : decode cJ9_abs_0f7a4 9 = .ok (.iload_n 0, 1) := by decide +kernel
theorem dJ9_abs_0f7a4_10 : decode cJ9_abs_0f7a4 10 = .ok (.ireturn, 1) := by decide +kernel
theorem dJ9_max_7cf53_0 : decode cJ9_max_7cf53 0 = .ok (.iload_n 0, 1) := by decide +kernel
theorem dJ9_max_7cf53_1 : decode cJ9_max_7cf53 1 = .ok (.iload_n 1, 1) := by decide +kernel
theorem dJ9_max_7cf53_2 : decode cJ9_max_7cf53 2 = .ok (.if_icmp .lt 7, 3) := by decide +kernel
theorem dJ9_max_7cf53_5 : decode cJ9_max_7cf53 5 = .ok (.iload_n 0, 1) := by decide +kernel
theorem dJ9_max_7cf53_6 : decode cJ9_max_7cf53 6 = .ok (.goto 4, 3) := by decide +kernel
theorem dJ9_max_7cf53_9 : decode cJ9_max_7cf53 9 = .ok (.iload_n 1, 1) := by decide +kernel
theorem dJ9_max_7cf53_10 : decode cJ9_max_7cf53 10 = .ok (.ireturn, 1) := by decide +kernel
theorem dJ9_min_7cf53_0 : decode cJ9_min_7cf53 0 = .ok (.iload_n 0, 1) := by decide +kernel
theorem dJ9_min_7cf53_1 : decode cJ9_min_7cf53 1 = .ok (.iload_n 1, 1) := by decide +kernel
theorem dJ9_min_7cf53_2 : decode cJ9_min_7cf53 2 = .ok (.if_icmp .gt 7, 3) := by decide +kernel
theorem dJ9_min_7cf53_5 : decode cJ9_min_7cf53 5 = .ok (.iload_n 0, 1) := by decide +kernel
theorem dJ9_min_7cf53_6 : decode cJ9_min_7cf53 6 = .ok (.goto 4, 3) := by decide +kernel
theorem dJ9_min_7cf53_9 : decode cJ9_min_7cf53 9 = .ok (.iload_n 1, 1) := by decide +kernel
theorem dJ9_min_7cf53_10 : decode cJ9_min_7cf53 10 = .ok (.ireturn, 1) := by decide +kernel
theorem dJ9_min_f86c9_0 : decode cJ9_min_f86c9 0 = .ok (.lload_n 0, 1) := by decide +kernel
theorem dJ9_min_f86c9_1 : decode cJ9_min_f86c9 1 = .ok (.lload_n 2, 1) := by decide +kernel
theorem dJ9_min_f86c9_2 : decode cJ9_min_f86c9 2 = .ok (.lcmp, 1) := by decide +kernel
theorem dJ9_min_f86c9_3 : decode cJ9_min_f86c9 3 = .ok (.ifCond .gt 7, 3) := by decide +kernel
theorem dJ9_min_f86c9_6 : decode cJ9_min_f86c9 6 = .ok (.lload_n 0, 1) := by decide +kernel
theorem dJ9_min_f86c9_7 : decode cJ9_min_f86c9 7 = .ok (.goto 4, 3) := by decide +kernel
theorem dJ9_min_f86c9_10 : decode cJ9_min_f86c9 10 = .ok (.lload_n 2, 1) := by decide +kernel
theorem dJ9_min_f86c9_11 : decode cJ9_min_f86c9 11 = .ok (.lreturn, 1) := by decide +kernel
theorem dJ0_length_8abf5_0 : decode cJ0_length_8abf5 0 = .ok (.aload_n 0, 1) := by decide +kernel
theorem dJ0_length_8abf5_1 : decode cJ0_length_8abf5 1 = .ok (.getfield 9, 3) := by decide +kernel
theorem dJ0_length_8abf5_4 : decode cJ0_length_8abf5 4 = .ok (.arraylength, 1) := by decide +kernel
theorem dJ0_length_8abf5_5 : decode cJ0_length_8abf5 5 = .ok (.aload_n 0, 1) := by decide +kernel
theorem dJ0_length_8abf5_6 : decode cJ0_length_8abf5 6 = .ok (.invokevirtual 335, 3) := by decide +kernel
theorem dJ0_length_8abf5_9 : decode cJ0_length_8abf5 9 = .ok (.ishr, 1) := by decide +kernel
theorem dJ0_length_8abf5_10 : decode cJ0_length_8abf5 10 = .ok (.ireturn, 1) := by decide +kernel
theorem dJ0_charAt_5068e_0 : decode cJ0_charAt_5068e 0 = .ok (.aload_n 0, 1) := by decide +kernel
theorem dJ0_charAt_5068e_1 : decode cJ0_charAt_5068e 1 = .ok (.invokevirtual 492, 3) := by decide +kernel
theorem dJ0_charAt_5068e_4 : decode cJ0_charAt_5068e 4 = .ok (.ifCond .eq 12, 3) := by decide +kernel
theorem dJ0_charAt_5068e_7 : decode cJ0_charAt_5068e 7 = .ok (.aload_n 0, 1) := by decide +kernel
theorem dJ0_charAt_5068e_8 : decode cJ0_charAt_5068e 8 = .ok (.getfield 9, 3) := by decide +kernel
theorem dJ0_charAt_5068e_11 : decode cJ0_charAt_5068e 11 = .ok (.iload_n 1, 1) := by decide +kernel
theorem dJ0_charAt_5068e_12 : decode cJ0_charAt_5068e 12 = .ok (.invokestatic 495, 3) := by decide +kernel
theorem dJ0_charAt_5068e_15 : decode cJ0_charAt_5068e 15 = .ok (.ireturn, 1) := by decide +kernel
theorem dJ0_charAt_5068e_16 : decode cJ0_charAt_5068e 16 = .ok (.aload_n 0, 1) := by decide +kernel
theorem dJ0_charAt_5068e_17 : decode cJ0_charAt_5068e 17 = .ok (.getfield 9, 3) := by decide +kernel
theorem dJ0_charAt_5068e_20 : decode cJ0_charAt_5068e 20 = .ok (.iload_n 1, 1) := by decide +kernel
theorem dJ0_charAt_5068e_21 : decode cJ0_charAt_5068e 21 = .ok (.invokestatic 498, 3) := by decide +kernel
theorem dJ0_charAt_5068e_24 : decode cJ0_charAt_5068e 24 = .ok (.ireturn, 1) := by decide +kernel
theorem dJ0_coder_7d493_0 : decode cJ0_coder_7d493 0 = .ok (.getstatic 38, 3) := by decide +kernel
theorem dJ0_coder_7d493_3 : decode cJ0_coder_7d493 3 = .ok (.ifCond .eq 10, 3) := by decide +kernel
theorem dJ0_coder_7d493_6 : decode cJ0_coder_7d493 6 = .ok (.aload_n 0, 1) := by decide +kernel
theorem dJ0_coder_7d493_7 : decode cJ0_coder_7d493 7 = .ok (.getfield 15, 3) := by decide +kernel
theorem dJ0_coder_7d493_10 : decode cJ0_coder_7d493 10 = .ok (.goto 4, 3) := by decide +kernel
theorem dJ0_coder_7d493_13 : decode cJ0_coder_7d493 13 = .ok (.iconst 1, 1) := by decide +kernel
theorem dJ0_coder_7d493_14 : decode cJ0_coder_7d493 14 = .ok (.ireturn, 1) := by decide +kernel
theorem dJ0_isLatin1_aae02_0 : decode cJ0_isLatin1_aae02 0 = .ok (.getstatic 38, 3) := by decide +kernel
theorem dJ0_isLatin1_aae02_3 : decode cJ0_isLatin1_aae02 3 = .ok (.ifCond .eq 14, 3) := by decide +kernel
theorem dJ0_isLatin1_aae02_6 : decode cJ0_isLatin1_aae02 6 = .ok (.aload_n 0, 1) := by decide +kernel
theorem dJ0_isLatin1_aae02_7 : decode cJ0_isLatin1_aae02 7 = .ok (.getfield 15, 3) := by decide +kernel
theorem dJ0_isLatin1_aae02_10 : decode cJ0_isLatin1_aae02 10 = .ok (.ifCond .ne 7, 3) := by decide +kernel
theorem dJ0_isLatin1_aae02_13 : decode cJ0_isLatin1_aae02 13 = .ok (.iconst 1, 1) := by decide +kernel
theorem dJ0_isLatin1_aae02_14 : decode cJ0_isLatin1_aae02 14 = .ok (.goto 4, 3) := by decide +kernel
theorem dJ0_isLatin1_aae02_17 : decode cJ0_isLatin1_aae02 17 = .ok (.iconst 0, 1) := by decide +kernel
theorem dJ0_isLatin1_aae02_18 : decode cJ0_isLatin1_aae02 18 = .ok (.ireturn, 1) := by decide +kernel
theorem dJ0_checkIndex_df160_0 : decode cJ0_checkIndex_df160 0 = .ok (.iload_n 0, 1) := by decide +kernel
theorem dJ0_checkIndex_df160_1 : decode cJ0_checkIndex_df160 1 = .ok (.iload_n 1, 1) := by decide +kernel
theorem dJ0_checkIndex_df160_2 : decode cJ0_checkIndex_df160 2 = .ok (.getstatic 1053, 3) := by decide +kernel
theorem dJ0_checkIndex_df160_5 : decode cJ0_checkIndex_df160 5 = .ok (.invokestatic 1059, 3) := by decide +kernel
theorem dJ0_checkIndex_df160_8 : decode cJ0_checkIndex_df160 8 = .ok (.pop, 1) := by decide +kernel
theorem dJ0_checkIndex_df160_9 : decode cJ0_checkIndex_df160 9 = .ok (.return_, 1) := by decide +kernel
theorem dJ1_charAt_3b067_0 : decode cJ1_charAt_3b067 0 = .ok (.iload_n 1, 1) := by decide +kernel
theorem dJ1_charAt_3b067_1 : decode cJ1_charAt_3b067 1 = .ok (.aload_n 0, 1) := by decide +kernel
theorem dJ1_charAt_3b067_2 : decode cJ1_charAt_3b067 2 = .ok (.arraylength, 1) := by decide +kernel
theorem dJ1_charAt_3b067_3 : decode cJ1_charAt_3b067 3 = .ok (.invokestatic 9, 3) := by decide +kernel
theorem dJ1_charAt_3b067_6 : decode cJ1_charAt_3b067 6 = .ok (.aload_n 0, 1) := by decide +kernel
theorem dJ1_charAt_3b067_7 : decode cJ1_charAt_3b067 7 = .ok (.iload_n 1, 1) := by decide +kernel
theorem dJ1_charAt_3b067_8 : decode cJ1_charAt_3b067 8 = .ok (.baload, 1) := by decide +kernel
theorem dJ1_charAt_3b067_9 : decode cJ1_charAt_3b067 9 = .ok (.sipush 255, 3) := by decide +kernel
theorem dJ1_charAt_3b067_12 : decode cJ1_charAt_3b067 12 = .ok (.iand, 1) := by decide +kernel
theorem dJ1_charAt_3b067_13 : decode cJ1_charAt_3b067 13 = .ok (.i2c, 1) := by decide +kernel
theorem dJ1_charAt_3b067_14 : decode cJ1_charAt_3b067 14 = .ok (.ireturn, 1) := by decide +kernel
theorem dJ2_getChar_3b067_0 : decode cJ2_getChar_3b067 0 = .ok (.getstatic 44, 3) := by decide +kernel
theorem dJ2_getChar_3b067_3 : decode cJ2_getChar_3b067 3 = .ok (.ifCond .ne 25, 3) := by decide +kernel
theorem dJ2_getChar_3b067_6 : decode cJ2_getChar_3b067 6 = .ok (.iload_n 1, 1) := by decide +kernel
theorem dJ2_getChar_3b067_7 : decode cJ2_getChar_3b067 7 = .ok (.ifCond .lt 11, 3) := by decide +kernel
theorem dJ2_getChar_3b067_10 : decode cJ2_getChar_3b067 10 = .ok (.iload_n 1, 1) := by decide +kernel
theorem dJ2_getChar_3b067_11 : decode cJ2_getChar_3b067 11 = .ok (.aload_n 0, 1) := by decide +kernel
theorem dJ2_getChar_3b067_12 : decode cJ2_getChar_3b067 12 = .ok (.invokestatic 48, 3) := by decide +kernel
theorem dJ2_getChar_3b067_15 : decode cJ2_getChar_3b067 15 = .ok (.if_icmp .lt 13, 3) := by decide +kernel
theorem dJ2_getChar_3b067_18 : decode cJ2_getChar_3b067 18 = .ok (.new 52, 3) := by decide +kernel
theorem dJ2_getChar_3b067_21 : decode cJ2_getChar_3b067 21 = .ok (.dup, 1) := by decide +kernel
theorem dJ2_getChar_3b067_22 : decode cJ2_getChar_3b067 22 = .ok (.ldc 54, 2) := by decide +kernel
theorem dJ2_getChar_3b067_24 : decode cJ2_getChar_3b067 24 = .ok (.invokespecial 56, 3) := by decide +kernel
theorem dJ2_getChar_3b067_27 : decode cJ2_getChar_3b067 27 = .ok (.athrow, 1) := by decide +kernel
theorem dJ2_getChar_3b067_28 : decode cJ2_getChar_3b067 28 = .ok (.iload_n 1, 1) := by decide +kernel
theorem dJ2_getChar_3b067_29 : decode cJ2_getChar_3b067 29 = .ok (.iconst 1, 1) := by decide +kernel
theorem dJ2_getChar_3b067_30 : decode cJ2_getChar_3b067 30 = .ok (.ishl, 1) := by decide +kernel
theorem dJ2_getChar_3b067_31 : decode cJ2_getChar_3b067 31 = .ok (.istore_n 1, 1) := by decide +kernel
theorem dJ2_getChar_3b067_32 : decode cJ2_getChar_3b067 32 = .ok (.aload_n 0, 1) := by decide +kernel
theorem dJ2_getChar_3b067_33 : decode cJ2_getChar_3b067 33 = .ok (.iload_n 1, 1) := by decide +kernel
theorem dJ2_getChar_3b067_34 : decode cJ2_getChar_3b067 34 = .ok (.iinc 1 1, 3) := by decide +kernel
theorem dJ2_getChar_3b067_37 : decode cJ2_getChar_3b067 37 = .ok (.baload, 1) := by decide +kernel
theorem dJ2_getChar_3b067_38 : decode cJ2_getChar_3b067 38 = .ok (.sipush 255, 3) := by decide +kernel
theorem dJ2_getChar_3b067_41 : decode cJ2_getChar_3b067 41 = .ok (.iand, 1) := by decide +kernel
theorem dJ2_getChar_3b067_42 : decode cJ2_getChar_3b067 42 = .ok (.getstatic 59, 3) := by decide +kernel
theorem dJ2_getChar_3b067_45 : decode cJ2_getChar_3b067 45 = .ok (.ishl, 1) := by decide +kernel
theorem dJ2_getChar_3b067_46 : decode cJ2_getChar_3b067 46 = .ok (.aload_n 0, 1) := by decide +kernel
theorem dJ2_getChar_3b067_47 : decode cJ2_getChar_3b067 47 = .ok (.iload_n 1, 1) := by decide +kernel
theorem dJ2_getChar_3b067_48 : decode cJ2_getChar_3b067 48 = .ok (.baload, 1) := by decide +kernel
theorem dJ2_getChar_3b067_49 : decode cJ2_getChar_3b067 49 = .ok (.sipush 255, 3) := by decide +kernel
theorem dJ2_getChar_3b067_52 : decode cJ2_getChar_3b067 52 = .ok (.iand, 1) := by decide +kernel
theorem dJ2_getChar_3b067_53 : decode cJ2_getChar_3b067 53 = .ok (.getstatic 63, 3) := by decide +kernel
theorem dJ2_getChar_3b067_56 : decode cJ2_getChar_3b067 56 = .ok (.ishl, 1) := by decide +kernel
theorem dJ2_getChar_3b067_57 : decode cJ2_getChar_3b067 57 = .ok (.ior, 1) := by decide +kernel
theorem dJ2_getChar_3b067_58 : decode cJ2_getChar_3b067 58 = .ok (.i2c, 1) := by decide +kernel
theorem dJ2_getChar_3b067_59 : decode cJ2_getChar_3b067 59 = .ok (.ireturn, 1) := by decide +kernel
theorem dJ2_length_9d52b_0 : decode cJ2_length_9d52b 0 = .ok (.aload_n 0, 1) := by decide +kernel
theorem dJ2_length_9d52b_1 : decode cJ2_length_9d52b 1 = .ok (.arraylength, 1) := by decide +kernel
theorem dJ2_length_9d52b_2 : decode cJ2_length_9d52b 2 = .ok (.iconst 1, 1) := by decide +kernel
theorem dJ2_length_9d52b_3 : decode cJ2_length_9d52b 3 = .ok (.ishr, 1) := by decide +kernel
theorem dJ2_length_9d52b_4 : decode cJ2_length_9d52b 4 = .ok (.ireturn, 1) := by decide +kernel
theorem dJ2_charAt_3b067_0 : decode cJ2_charAt_3b067 0 = .ok (.iload_n 1, 1) := by decide +kernel
theorem dJ2_charAt_3b067_1 : decode cJ2_charAt_3b067 1 = .ok (.aload_n 0, 1) := by decide +kernel
theorem dJ2_charAt_3b067_2 : decode cJ2_charAt_3b067 2 = .ok (.invokestatic 67, 3) := by decide +kernel
theorem dJ2_charAt_3b067_5 : decode cJ2_charAt_3b067 5 = .ok (.aload_n 0, 1) := by decide +kernel
theorem dJ2_charAt_3b067_6 : decode cJ2_charAt_3b067 6 = .ok (.iload_n 1, 1) := by decide +kernel
theorem dJ2_charAt_3b067_7 : decode cJ2_charAt_3b067 7 = .ok (.invokestatic 71, 3) := by decide +kernel
theorem dJ2_charAt_3b067_10 : decode cJ2_charAt_3b067 10 = .ok (.ireturn, 1) := by decide +kernel
theorem dJ2_checkIndex_2214a_0 : decode cJ2_checkIndex_2214a 0 = .ok (.iload_n 0, 1) := by decide +kernel
theorem dJ2_checkIndex_2214a_1 : decode cJ2_checkIndex_2214a 1 = .ok (.aload_n 1, 1) := by decide +kernel
theorem dJ2_checkIndex_2214a_2 : decode cJ2_checkIndex_2214a 2 = .ok (.invokestatic 48, 3) := by decide +kernel
theorem dJ2_checkIndex_2214a_5 : decode cJ2_checkIndex_2214a 5 = .ok (.invokestatic 414, 3) := by decide +kernel
theorem dJ2_checkIndex_2214a_8 : decode cJ2_checkIndex_2214a 8 = .ok (.return_, 1) := by decide +kernel
theorem dJ3_checkIndex_8e157_0 : decode cJ3_checkIndex_8e157 0 = .ok (.iload_n 0, 1) := by decide +kernel
theorem dJ3_checkIndex_8e157_1 : decode cJ3_checkIndex_8e157 1 = .ok (.ifCond .lt 8, 3) := by decide +kernel
theorem dJ3_checkIndex_8e157_4 : decode cJ3_checkIndex_8e157 4 = .ok (.iload_n 0, 1) := by decide +kernel
theorem dJ3_checkIndex_8e157_5 : decode cJ3_checkIndex_8e157 5 = .ok (.iload_n 1, 1) := by decide +kernel
theorem dJ3_checkIndex_8e157_6 : decode cJ3_checkIndex_8e157 6 = .ok (.if_icmp .lt 10, 3) := by decide +kernel
theorem dJ3_checkIndex_8e157_9 : decode cJ3_checkIndex_8e157 9 = .ok (.aload_n 2, 1) := by decide +kernel
theorem dJ3_checkIndex_8e157_10 : decode cJ3_checkIndex_8e157 10 = .ok (.iload_n 0, 1) := by decide +kernel
theorem dJ3_checkIndex_8e157_11 : decode cJ3_checkIndex_8e157 11 = .ok (.iload_n 1, 1) := by decide +kernel
theorem dJ3_checkIndex_8e157_12 : decode cJ3_checkIndex_8e157 12 = .ok (.invokestatic 95, 3) := by decide +kernel
theorem dJ3_checkIndex_8e157_15 : decode cJ3_checkIndex_8e157 15 = .ok (.athrow, 1) := by decide +kernel
theorem dJ3_checkIndex_8e157_16 : decode cJ3_checkIndex_8e157 16 = .ok (.iload_n 0, 1) := by decide +kernel
theorem dJ3_checkIndex_8e157_17 : decode cJ3_checkIndex_8e157 17 = .ok (.ireturn, 1) := by decide +kernel
end
section
theorem dX12_init_0 : decode cX12_init 0 = .ok (.aload_n 0, 1) := by decide +kernel
theorem dX12_init_1 : decode cX12_init 1 = .ok (.invokespecial 1, 3) := by decide +kernel
theorem dX12_init_4 : decode cX12_init 4 = .ok (.aload_n 0, 1) := by decide +kernel
theorem dX12_init_5 : decode cX12_init 5 = .ok (.sipush 500, 3) := by decide +kernel
theorem dX12_init_8 : decode cX12_init 8 = .ok (.newarray .byte, 2) := by decide +kernel
theorem dX12_init_10 : decode cX12_init 10 = .ok (.putfield 9, 3) := by decide +kernel
theorem dX12_init_13 : decode cX12_init 13 = .ok (.aload_n 0, 1) := by decide +kernel
theorem dX12_init_14 : decode cX12_init 14 = .ok (.iconst 2, 1) := by decide +kernel
theorem dX12_init_15 : decode cX12_init 15 = .ok (.bipush 26, 2) := by decide +kernel
theorem dX12_init_17 : decode cX12_init 17 = .ok (.multianewarray 13 2, 4) := by decide +kernel
theorem dX12_init_21 : decode cX12_init 21 = .ok (.putfield 15, 3) := by decide +kernel
theorem dX12_init_24 : decode cX12_init 24 = .ok (.aload_n 0, 1) := by decide +kernel
theorem dX12_init_25 : decode cX12_init 25 = .ok (.iconst 2, 1) := by decide +kernel
theorem dX12_init_26 : decode cX12_init 26 = .ok (.bipush 20, 2) := by decide +kernel
theorem dX12_init_28 : decode cX12_init 28 = .ok (.multianewarray 13 2, 4) := by decide +kernel
theorem dX12_init_32 : decode cX12_init 32 = .ok (.putfield 18, 3) := by decide +kernel
theorem dX12_init_35 : decode cX12_init 35 = .ok (.aload_n 0, 1) := by decide +kernel
theorem dX12_init_36 : decode cX12_init 36 = .ok (.iconst 2, 1) := by decide +kernel
theorem dX12_init_37 : decode cX12_init 37 = .ok (.bipush 20, 2) := by decide +kernel
theorem dX12_init_39 : decode cX12_init 39 = .ok (.multianewarray 21 2, 4) := by decide +kernel
theorem dX12_init_43 : decode cX12_init 43 = .ok (.putfield 23, 3) := by decide +kernel
theorem dX12_init_46 : decode cX12_init 46 = .ok (.aload_n 0, 1) := by decide +kernel
theorem dX12_init_47 : decode cX12_init 47 = .ok (.iconst 2, 1) := by decide +kernel
theorem dX12_init_48 : decode cX12_init 48 = .ok (.newarray .int, 2) := by decide +kernel
theorem dX12_init_50 : decode cX12_init 50 = .ok (.putfield 26, 3) := by decide +kernel
theorem dX12_init_53 : decode cX12_init 53 = .ok (.aload_n 0, 1) := by decide +kernel
theorem dX12_init_54 : decode cX12_init 54 = .ok (.iconst 2, 1) := by decide +kernel
theorem dX12_init_55 : decode cX12_init 55 = .ok (.newarray .int, 2) := by decide +kernel
theorem dX12_init_57 : decode cX12_init 57 = .ok (.putfield 30, 3) := by decide +kernel
theorem dX12_init_60 : decode cX12_init 60 = .ok (.aload_n 0, 1) := by decide +kernel
theorem dX12_init_61 : decode cX12_init 61 = .ok (.iconst 3, 1) := by decide +kernel
theorem dX12_init_62 : decode cX12_init 62 = .ok (.anewarray 33, 3) := by decide +kernel
theorem dX12_init_65 : decode cX12_init 65 = .ok (.dup, 1) := by decide +kernel
theorem dX12_init_66 : decode cX12_init 66 = .ok (.iconst 0, 1) := by decide +kernel
theorem dX12_init_67 : decode cX12_init 67 = .ok (.ldc 35, 2) := by decide +kernel
theorem dX12_init_69 : decode cX12_init 69 = .ok (.aastore, 1) := by decide +kernel
theorem dX12_init_70 : decode cX12_init 70 = .ok (.dup, 1) := by decide +kernel
theorem dX12_init_71 : decode cX12_init 71 = .ok (.iconst 1, 1) := by decide +kernel
theorem dX12_init_72 : decode cX12_init 72 = .ok (.ldc 37, 2) := by decide +kernel
theorem dX12_init_74 : decode cX12_init 74 = .ok (.aastore, 1) := by decide +kernel
theorem dX12_init_75 : decode cX12_init 75 = .ok (.dup, 1) := by decide +kernel
theorem dX12_init_76 : decode cX12_init 76 = .ok (.iconst 2, 1) := by decide +kernel
theorem dX12_init_77 : decode cX12_init 77 = .ok (.ldc 39, 2) := by decide +kernel
theorem dX12_init_79 : decode cX12_init 79 = .ok (.aastore, 1) := by decide +kernel
theorem dX12_init_80 : decode cX12_init 80 = .ok (.putfield 41, 3) := by decide +kernel
theorem dX12_init_83 : decode cX12_init 83 = .ok (.aload_n 0, 1) := by decide +kernel
theorem dX12_init_84 : decode cX12_init 84 = .ok (.bipush 40, 2) := by decide +kernel
theorem dX12_init_86 : decode cX12_init 86 = .ok (.newarray .int, 2) := by decide +kernel
theorem dX12_init_88 : decode cX12_init 88 = .ok (.putfield 45, 3) := by decide +kernel
theorem dX12_init_91 : decode cX12_init 91 = .ok (.aload_n 0, 1) := by decide +kernel
theorem dX12_init_92 : decode cX12_init 92 = .ok (.bipush 40, 2) := by decide +kernel
theorem dX12_init_94 : decode cX12_init 94 = .ok (.newarray .int, 2) := by decide +kernel
theorem dX12_init_96 : decode cX12_init 96 = .ok (.putfield 48, 3) := by decide +kernel
theorem dX12_init_99 : decode cX12_init 99 = .ok (.aload_n 0, 1) := by decide +kernel
theorem dX12_init_100 : decode cX12_init 100 = .ok (.bipush 8, 2) := by decide +kernel
theorem dX12_init_102 : decode cX12_init 102 = .ok (.newarray .int, 2) := by decide +kernel
theorem dX12_init_104 : decode cX12_init 104 = .ok (.putfield 51, 3) := by decide +kernel
theorem dX12_init_107 : decode cX12_init 107 = .ok (.aload_n 0, 1) := by decide +kernel
theorem dX12_init_108 : decode cX12_init 108 = .ok (.bipush 8, 2) := by decide +kernel
theorem dX12_init_110 : decode cX12_init 110 = .ok (.newarray .int, 2) := by decide +kernel
theorem dX12_init_112 : decode cX12_init 112 = .ok (.putfield 54, 3) := by decide +kernel
theorem dX12_init_115 : decode cX12_init 115 = .ok (.aload_n 0, 1) := by decide +kernel
theorem dX12_init_116 : decode cX12_init 116 = .ok (.bipush 8, 2) := by decide +kernel
theorem dX12_init_118 : decode cX12_init 118 = .ok (.newarray .int, 2) := by decide +kernel
theorem dX12_init_120 : decode cX12_init 120 = .ok (.putfield 57, 3) := by decide +kernel
theorem dX12_init_123 : decode cX12_init 123 = .ok (.aload_n 0, 1) := by decide +kernel
theorem dX12_init_124 : decode cX12_init 124 = .ok (.bipush 8, 2) := by decide +kernel
theorem dX12_init_126 : decode cX12_init 126 = .ok (.newarray .int, 2) := by decide +kernel
theorem dX12_init_128 : decode cX12_init 128 = .ok (.putfield 60, 3) := by decide +kernel
theorem dX12_init_131 : decode cX12_init 131 = .ok (.aload_n 0, 1) := by decide +kernel
theorem dX12_init_132 : decode cX12_init 132 = .ok (.bipush 120, 2) := by decide +kernel
theorem dX12_init_134 : decode cX12_init 134 = .ok (.newarray .int, 2) := by decide +kernel
theorem dX12_init_136 : decode cX12_init 136 = .ok (.putfield 63, 3) := by decide +kernel
theorem dX12_init_139 : decode cX12_init 139 = .ok (.aload_n 0, 1) := by decide +kernel
theorem dX12_init_140 : decode cX12_init 140 = .ok (.bipush 122, 2) := by decide +kernel
theorem dX12_init_142 : decode cX12_init 142 = .ok (.newarray .int, 2) := by decide +kernel
theorem dX12_init_144 : decode cX12_init 144 = .ok (.putfield 66, 3) := by decide +kernel
theorem dX12_init_147 : decode cX12_init 147 = .ok (.aload_n 0, 1) := by decide +kernel
theorem dX12_init_148 : decode cX12_init 148 = .ok (.bipush 122, 2) := by decide +kernel
theorem dX12_init_150 : decode cX12_init 150 = .ok (.newarray .int, 2) := by decide +kernel
theorem dX12_init_152 : decode cX12_init 152 = .ok (.putfield 69, 3) := by decide +kernel
theorem dX12_init_155 : decode cX12_init 155 = .ok (.aload_n 0, 1) := by decide +kernel
theorem dX12_init_156 : decode cX12_init 156 = .ok (.bipush 120, 2) := by decide +kernel
theorem dX12_init_158 : decode cX12_init 158 = .ok (.newarray .byte, 2) := by decide +kernel
theorem dX12_init_160 : decode cX12_init 160 = .ok (.putfield 72, 3) := by decide +kernel
theorem dX12_init_163 : decode cX12_init 163 = .ok (.aload_n 0, 1) := by decide +kernel
theorem dX12_init_164 : decode cX12_init 164 = .ok (.sipush 720, 3) := by decide +kernel
theorem dX12_init_167 : decode cX12_init 167 = .ok (.newarray .int, 2) := by decide +kernel
theorem dX12_init_169 : decode cX12_init 169 = .ok (.putfield 75, 3) := by decide +kernel
theorem dX12_init_172 : decode cX12_init 172 = .ok (.aload_n 0, 1) := by decide +kernel
theorem dX12_init_173 : decode cX12_init 173 = .ok (.sipush 160, 3) := by decide +kernel
theorem dX12_init_176 : decode cX12_init 176 = .ok (.newarray .int, 2) := by decide +kernel
theorem dX12_init_178 : decode cX12_init 178 = .ok (.putfield 78, 3) := by decide +kernel
theorem dX12_init_181 : decode cX12_init 181 = .ok (.aload_n 0, 1) := by decide +kernel
theorem dX12_init_182 : decode cX12_init 182 = .ok (.bipush 20, 2) := by decide +kernel
theorem dX12_init_184 : decode cX12_init 184 = .ok (.newarray .int, 2) := by decide +kernel
theorem dX12_init_186 : decode cX12_init 186 = .ok (.putfield 81, 3) := by decide +kernel
theorem dX12_init_189 : decode cX12_init 189 = .ok (.aload_n 0, 1) := by decide +kernel
theorem dX12_init_190 : decode cX12_init 190 = .ok (.bipush 20, 2) := by decide +kernel
theorem dX12_init_192 : decode cX12_init 192 = .ok (.newarray .int, 2) := by decide +kernel
theorem dX12_init_194 : decode cX12_init 194 = .ok (.putfield 84, 3) := by decide +kernel
theorem dX12_init_197 : decode cX12_init 197 = .ok (.aload_n 0, 1) := by decide +kernel
theorem dX12_init_198 : decode cX12_init 198 = .ok (.bipush 20, 2) := by decide +kernel
theorem dX12_init_200 : decode cX12_init 200 = .ok (.newarray .int, 2) := by decide +kernel
theorem dX12_init_202 : decode cX12_init 202 = .ok (.putfield 87, 3) := by decide +kernel
theorem dX12_init_205 : decode cX12_init 205 = .ok (.aload_n 0, 1) := by decide +kernel
theorem dX12_init_206 : decode cX12_init 206 = .ok (.bipush 20, 2) := by decide +kernel
theorem dX12_init_208 : decode cX12_init 208 = .ok (.newarray .int, 2) := by decide +kernel
theorem dX12_init_210 : decode cX12_init 210 = .ok (.putfield 90, 3) := by decide +kernel
theorem dX12_init_213 : decode cX12_init 213 = .ok (.aload_n 0, 1) := by decide +kernel
theorem dX12_init_214 : decode cX12_init 214 = .ok (.bipush 20, 2) := by decide +kernel
theorem dX12_init_216 : decode cX12_init 216 = .ok (.newarray .int, 2) := by decide +kernel
theorem dX12_init_218 : decode cX12_init 218 = .ok (.putfield 93, 3) := by decide +kernel
theorem dX12_init_221 : decode cX12_init 221 = .ok (.aload_n 0, 1) := by decide +kernel
theorem dX12_init_222 : decode cX12_init 222 = .ok (.bipush 6, 2) := by decide +kernel
theorem dX12_init_224 : decode cX12_init 224 = .ok (.newarray .int, 2) := by decide +kernel
theorem dX12_init_226 : decode cX12_init 226 = .ok (.putfield 96, 3) := by decide +kernel
theorem dX12_init_229 : decode cX12_init 229 = .ok (.aload_n 0, 1) := by decide +kernel
theorem dX12_init_230 : decode cX12_init 230 = .ok (.bipush 20, 2) := by decide +kernel
theorem dX12_init_232 : decode cX12_init 232 = .ok (.newarray .int, 2) := by decide +kernel
theorem dX12_init_234 : decode cX12_init 234 = .ok (.putfield 99, 3) := by decide +kernel
theorem dX12_init_237 : decode cX12_init 237 = .ok (.aload_n 0, 1) := by decide +kernel
theorem dX12_init_238 : decode cX12_init 238 = .ok (.bipush 20, 2) := by decide +kernel
theorem dX12_init_240 : decode cX12_init 240 = .ok (.newarray .int, 2) := by decide +kernel
theorem dX12_init_242 : decode cX12_init 242 = .ok (.putfield 102, 3) := by decide +kernel
theorem dX12_init_245 : decode cX12_init 245 = .ok (.aload_n 0, 1) := by decide +kernel
theorem dX12_init_246 : decode cX12_init 246 = .ok (.bipush 20, 2) := by decide +kernel
theorem dX12_init_248 : decode cX12_init 248 = .ok (.newarray .int, 2) := by decide +kernel
theorem dX12_init_250 : decode cX12_init 250 = .ok (.putfield 105, 3) := by decide +kernel
theorem dX12_init_253 : decode cX12_init 253 = .ok (.aload_n 0, 1) := by decide +kernel
theorem dX12_init_254 : decode cX12_init 254 = .ok (.bipush 20, 2) := by decide +kernel
theorem dX12_init_256 : decode cX12_init 256 = .ok (.newarray .int, 2) := by decide +kernel
theorem dX12_init_258 : decode cX12_init 258 = .ok (.putfield 108, 3) := by decide +kernel
theorem dX12_init_261 : decode cX12_init 261 = .ok (.aload_n 0, 1) := by decide +kernel
theorem dX12_init_262 : decode cX12_init 262 = .ok (.bipush 20, 2) := by decide +kernel
theorem dX12_init_264 : decode cX12_init 264 = .ok (.newarray .int, 2) := by decide +kernel
theorem dX12_init_266 : decode cX12_init 266 = .ok (.putfield 111, 3) := by decide +kernel
theorem dX12_init_269 : decode cX12_init 269 = .ok (.aload_n 0, 1) := by decide +kernel
theorem dX12_init_270 : decode cX12_init 270 = .ok (.bipush 8, 2) := by decide +kernel
theorem dX12_init_272 : decode cX12_init 272 = .ok (.newarray .int, 2) := by decide +kernel
theorem dX12_init_274 : decode cX12_init 274 = .ok (.putfield 114, 3) := by decide +kernel
theorem dX12_init_277 : decode cX12_init 277 = .ok (.aload_n 0, 1) := by decide +kernel
theorem dX12_init_278 : decode cX12_init 278 = .ok (.bipush 20, 2) := by decide +kernel
theorem dX12_init_280 : decode cX12_init 280 = .ok (.newarray .int, 2) := by decide +kernel
theorem dX12_init_282 : decode cX12_init 282 = .ok (.putfield 117, 3) := by decide +kernel
theorem dX12_init_285 : decode cX12_init 285 = .ok (.aload_n 0, 1) := by decide +kernel
theorem dX12_init_286 : decode cX12_init 286 = .ok (.bipush 20, 2) := by decide +kernel
theorem dX12_init_288 : decode cX12_init 288 = .ok (.newarray .int, 2) := by decide +kernel
theorem dX12_init_290 : decode cX12_init 290 = .ok (.putfield 120, 3) := by decide +kernel
theorem dX12_init_293 : decode cX12_init 293 = .ok (.aload_n 0, 1) := by decide +kernel
theorem dX12_init_294 : decode cX12_init 294 = .ok (.bipush 6, 2) := by decide +kernel
theorem dX12_init_296 : decode cX12_init 296 = .ok (.newarray .int, 2) := by decide +kernel
theorem dX12_init_298 : decode cX12_init 298 = .ok (.putfield 123, 3) := by decide +kernel
theorem dX12_init_301 : decode cX12_init 301 = .ok (.aload_n 0, 1) := by decide +kernel
theorem dX12_init_302 : decode cX12_init 302 = .ok (.bipush 6, 2) := by decide +kernel
theorem dX12_init_304 : decode cX12_init 304 = .ok (.newarray .int, 2) := by decide +kernel
theorem dX12_init_306 : decode cX12_init 306 = .ok (.putfield 126, 3) := by decide +kernel
theorem dX12_init_309 : decode cX12_init 309 = .ok (.aload_n 0, 1) := by decide +kernel
theorem dX12_init_310 : decode cX12_init 310 = .ok (.bipush 12, 2) := by decide +kernel
theorem dX12_init_312 : decode cX12_init 312 = .ok (.newarray .int, 2) := by decide +kernel
theorem dX12_init_314 : decode cX12_init 314 = .ok (.putfield 129, 3) := by decide +kernel
theorem dX12_init_317 : decode cX12_init 317 = .ok (.aload_n 0, 1) := by decide +kernel
theorem dX12_init_318 : decode cX12_init 318 = .ok (.bipush 12, 2) := by decide +kernel
theorem dX12_init_320 : decode cX12_init 320 = .ok (.newarray .int, 2) := by decide +kernel
theorem dX12_init_322 : decode cX12_init 322 = .ok (.putfield 132, 3) := by decide +kernel
theorem dX12_init_325 : decode cX12_init 325 = .ok (.aload_n 0, 1) := by decide +kernel
theorem dX12_init_326 : decode cX12_init 326 = .ok (.bipush 12, 2) := by decide +kernel
theorem dX12_init_328 : decode cX12_init 328 = .ok (.newarray .int, 2) := by decide +kernel
theorem dX12_init_330 : decode cX12_init 330 = .ok (.putfield 135, 3) := by decide +kernel
theorem dX12_init_333 : decode cX12_init 333 = .ok (.aload_n 0, 1) := by decide +kernel
theorem dX12_init_334 : decode cX12_init 334 = .ok (.bipush 12, 2) := by decide +kernel
theorem dX12_init_336 : decode cX12_init 336 = .ok (.newarray .int, 2) := by decide +kernel
theorem dX12_init_338 : decode cX12_init 338 = .ok (.putfield 138, 3) := by decide +kernel
theorem dX12_init_341 : decode cX12_init 341 = .ok (.aload_n 0, 1) := by decide +kernel
theorem dX12_init_342 : decode cX12_init 342 = .ok (.bipush 12, 2) := by decide +kernel
theorem dX12_init_344 : decode cX12_init 344 = .ok (.newarray .int, 2) := by decide +kernel
theorem dX12_init_346 : decode cX12_init 346 = .ok (.putfield 141, 3) := by decide +kernel
theorem dX12_init_349 : decode cX12_init 349 = .ok (.aload_n 0, 1) := by decide +kernel
theorem dX12_init_350 : decode cX12_init 350 = .ok (.bipush 49, 2) := by decide +kernel
theorem dX12_init_352 : decode cX12_init 352 = .ok (.newarray .int, 2) := by decide +kernel
theorem dX12_init_354 : decode cX12_init 354 = .ok (.putfield 144, 3) := by decide +kernel
theorem dX12_init_357 : decode cX12_init 357 = .ok (.return_, 1) := by decide +kernel
theorem dX12_in_0 : decode cX12_in 0 = .ok (.lload_n 0, 1) := by decide +kernel
theorem dX12_in_1 : decode cX12_in 1 = .ok (.lload_n 2, 1) := by decide +kernel
theorem dX12_in_2 : decode cX12_in 2 = .ok (.lcmp, 1) := by decide +kernel
theorem dX12_in_3 : decode cX12_in 3 = .ok (.ifCond .lt 14, 3) := by decide +kernel
theorem dX12_in_6 : decode cX12_in 6 = .ok (.lload_n 0, 1) := by decide +kernel
theorem dX12_in_7 : decode cX12_in 7 = .ok (.lload 4, 2) := by decide +kernel
theorem dX12_in_9 : decode cX12_in 9 = .ok (.lcmp, 1) := by decide +kernel
theorem dX12_in_10 : decode cX12_in 10 = .ok (.ifCond .gt 7, 3) := by decide +kernel
theorem dX12_in_13 : decode cX12_in 13 = .ok (.iconst 1, 1) := by decide +kernel
theorem dX12_in_14 : decode cX12_in 14 = .ok (.goto 4, 3) := by decide +kernel
theorem dX12_in_17 : decode cX12_in 17 = .ok (.iconst 0, 1) := by decide +kernel
theorem dX12_in_18 : decode cX12_in 18 = .ok (.ireturn, 1) := by decide +kernel
theorem dX12_feeds_0 : decode cX12_feeds 0 = .ok (.iconst 3, 1) := by decide +kernel
theorem dX12_feeds_1 : decode cX12_feeds 1 = .ok (.istore_n 2, 1) := by decide +kernel
theorem dX12_feeds_2 : decode cX12_feeds 2 = .ok (.iload_n 2, 1) := by decide +kernel
theorem dX12_feeds_3 : decode cX12_feeds 3 = .ok (.ifCond .lt 35, 3) := by decide +kernel
theorem dX12_feeds_6 : decode cX12_feeds 6 = .ok (.aload_n 0, 1) := by decide +kernel
theorem dX12_feeds_7 : decode cX12_feeds 7 = .ok (.getfield 9, 3) := by decide +kernel
theorem dX12_feeds_10 : decode cX12_feeds 10 = .ok (.aload_n 0, 1) := by decide +kernel
theorem dX12_feeds_11 : decode cX12_feeds 11 = .ok (.getfield 147, 3) := by decide +kernel
theorem dX12_feeds_14 : decode cX12_feeds 14 = .ok (.iload_n 1, 1) := by decide +kernel
theorem dX12_feeds_15 : decode cX12_feeds 15 = .ok (.bipush 8, 2) := by decide +kernel
theorem dX12_feeds_17 : decode cX12_feeds 17 = .ok (.iload_n 2, 1) := by decide +kernel
theorem dX12_feeds_18 : decode cX12_feeds 18 = .ok (.imul, 1) := by decide +kernel
theorem dX12_feeds_19 : decode cX12_feeds 19 = .ok (.iushr, 1) := by decide +kernel
theorem dX12_feeds_20 : decode cX12_feeds 20 = .ok (.i2b, 1) := by decide +kernel
theorem dX12_feeds_21 : decode cX12_feeds 21 = .ok (.bastore, 1) := by decide +kernel
theorem dX12_feeds_22 : decode cX12_feeds 22 = .ok (.aload_n 0, 1) := by decide +kernel
theorem dX12_feeds_23 : decode cX12_feeds 23 = .ok (.dup, 1) := by decide +kernel
theorem dX12_feeds_24 : decode cX12_feeds 24 = .ok (.getfield 147, 3) := by decide +kernel
theorem dX12_feeds_27 : decode cX12_feeds 27 = .ok (.iconst 1, 1) := by decide +kernel
theorem dX12_feeds_28 : decode cX12_feeds 28 = .ok (.iadd, 1) := by decide +kernel
theorem dX12_feeds_29 : decode cX12_feeds 29 = .ok (.putfield 147, 3) := by decide +kernel
theorem dX12_feeds_32 : decode cX12_feeds 32 = .ok (.iinc 2 (-1), 3) := by decide +kernel
theorem dX12_feeds_35 : decode cX12_feeds 35 = .ok (.goto (-33), 3) := by decide +kernel
theorem dX12_feeds_38 : decode cX12_feeds 38 = .ok (.return_, 1) := by decide +kernel
theorem dX12_feed_0 : decode cX12_feed 0 = .ok (.aload_n 0, 1) := by decide +kernel
theorem dX12_feed_1 : decode cX12_feed 1 = .ok (.getfield 147, 3) := by decide +kernel
theorem dX12_feed_4 : decode cX12_feed 4 = .ok (.bipush 20, 2) := by decide +kernel
theorem dX12_feed_6 : decode cX12_feed 6 = .ok (.iadd, 1) := by decide +kernel
theorem dX12_feed_7 : decode cX12_feed 7 = .ok (.sipush 500, 3) := by decide +kernel
theorem dX12_feed_10 : decode cX12_feed 10 = .ok (.if_icmp .le 5, 3) := by decide +kernel
theorem dX12_feed_13 : decode cX12_feed 13 = .ok (.iconst (-1), 1) := by decide +kernel
theorem dX12_feed_14 : decode cX12_feed 14 = .ok (.ireturn, 1) := by decide +kernel
theorem dX12_feed_15 : decode cX12_feed 15 = .ok (.aload_n 0, 1) := by decide +kernel
theorem dX12_feed_16 : decode cX12_feed 16 = .ok (.iload_n 1, 1) := by decide +kernel
theorem dX12_feed_17 : decode cX12_feed 17 = .ok (.invokevirtual 151, 3) := by decide +kernel
theorem dX12_feed_20 : decode cX12_feed 20 = .ok (.aload_n 0, 1) := by decide +kernel
theorem dX12_feed_21 : decode cX12_feed 21 = .ok (.iload_n 2, 1) := by decide +kernel
theorem dX12_feed_22 : decode cX12_feed 22 = .ok (.invokevirtual 151, 3) := by decide +kernel
theorem dX12_feed_25 : decode cX12_feed 25 = .ok (.aload_n 0, 1) := by decide +kernel
theorem dX12_feed_26 : decode cX12_feed 26 = .ok (.iload_n 3, 1) := by decide +kernel
theorem dX12_feed_27 : decode cX12_feed 27 = .ok (.invokevirtual 151, 3) := by decide +kernel
theorem dX12_feed_30 : decode cX12_feed 30 = .ok (.aload_n 0, 1) := by decide +kernel
theorem dX12_feed_31 : decode cX12_feed 31 = .ok (.iload 4, 2) := by decide +kernel
theorem dX12_feed_33 : decode cX12_feed 33 = .ok (.invokevirtual 151, 3) := by decide +kernel
theorem dX12_feed_36 : decode cX12_feed 36 = .ok (.aload_n 0, 1) := by decide +kernel
theorem dX12_feed_37 : decode cX12_feed 37 = .ok (.iload 5, 2) := by decide +kernel
theorem dX12_feed_39 : decode cX12_feed 39 = .ok (.invokevirtual 151, 3) := by decide +kernel
theorem dX12_feed_42 : decode cX12_feed 42 = .ok (.aload_n 0, 1) := by decide +kernel
theorem dX12_feed_43 : decode cX12_feed 43 = .ok (.getfield 147, 3) := by decide +kernel
theorem dX12_feed_46 : decode cX12_feed 46 = .ok (.ireturn, 1) := by decide +kernel
theorem dX12_end_0 : decode cX12_end 0 = .ok (.iload_n 1, 1) := by decide +kernel
theorem dX12_end_1 : decode cX12_end 1 = .ok (.i2l, 1) := by decide +kernel
theorem dX12_end_2 : decode cX12_end 2 = .ok (.lconst 0, 1) := by decide +kernel
theorem dX12_end_3 : decode cX12_end 3 = .ok (.aload_n 0, 1) := by decide +kernel
theorem dX12_end_4 : decode cX12_end 4 = .ok (.getfield 147, 3) := by decide +kernel
theorem dX12_end_7 : decode cX12_end 7 = .ok (.i2l, 1) := by decide +kernel
theorem dX12_end_8 : decode cX12_end 8 = .ok (.invokestatic 155, 3) := by decide +kernel
theorem dX12_end_11 : decode cX12_end 11 = .ok (.ifCond .ne 5, 3) := by decide +kernel
theorem dX12_end_14 : decode cX12_end 14 = .ok (.iconst 0, 1) := by decide +kernel
theorem dX12_end_15 : decode cX12_end 15 = .ok (.ireturn, 1) := by decide +kernel
theorem dX12_end_16 : decode cX12_end 16 = .ok (.aload_n 0, 1) := by decide +kernel
theorem dX12_end_17 : decode cX12_end 17 = .ok (.iload_n 1, 1) := by decide +kernel
theorem dX12_end_18 : decode cX12_end 18 = .ok (.putfield 147, 3) := by decide +kernel
theorem dX12_end_21 : decode cX12_end 21 = .ok (.iconst 1, 1) := by decide +kernel
theorem dX12_end_22 : decode cX12_end 22 = .ok (.ireturn, 1) := by decide +kernel
theorem dX12_between_0 : decode cX12_between 0 = .ok (.iload_n 1, 1) := by decide +kernel
theorem dX12_between_1 : decode cX12_between 1 = .ok (.aload_n 0, 1) := by decide +kernel
theorem dX12_between_2 : decode cX12_between 2 = .ok (.getfield 147, 3) := by decide +kernel
theorem dX12_between_5 : decode cX12_between 5 = .ok (.if_icmp .ge 27, 3) := by decide +kernel
theorem dX12_between_8 : decode cX12_between 8 = .ok (.aload_n 0, 1) := by decide +kernel
theorem dX12_between_9 : decode cX12_between 9 = .ok (.getfield 9, 3) := by decide +kernel
theorem dX12_between_12 : decode cX12_between 12 = .ok (.iload_n 1, 1) := by decide +kernel
theorem dX12_between_13 : decode cX12_between 13 = .ok (.baload, 1) := by decide +kernel
theorem dX12_between_14 : decode cX12_between 14 = .ok (.iload_n 2, 1) := by decide +kernel
theorem dX12_between_15 : decode cX12_between 15 = .ok (.if_icmp .lt 17, 3) := by decide +kernel
theorem dX12_between_18 : decode cX12_between 18 = .ok (.aload_n 0, 1) := by decide +kernel
theorem dX12_between_19 : decode cX12_between 19 = .ok (.getfield 9, 3) := by decide +kernel
theorem dX12_between_22 : decode cX12_between 22 = .ok (.iload_n 1, 1) := by decide +kernel
theorem dX12_between_23 : decode cX12_between 23 = .ok (.baload, 1) := by decide +kernel
theorem dX12_between_24 : decode cX12_between 24 = .ok (.iload_n 3, 1) := by decide +kernel
theorem dX12_between_25 : decode cX12_between 25 = .ok (.if_icmp .gt 7, 3) := by decide +kernel
theorem dX12_between_28 : decode cX12_between 28 = .ok (.iconst 1, 1) := by decide +kernel
theorem dX12_between_29 : decode cX12_between 29 = .ok (.goto 4, 3) := by decide +kernel
theorem dX12_between_32 : decode cX12_between 32 = .ok (.iconst 0, 1) := by decide +kernel
theorem dX12_between_33 : decode cX12_between 33 = .ok (.ireturn, 1) := by decide +kernel
theorem dX12_next_0 : decode cX12_next 0 = .ok (.aload_n 0, 1) := by decide +kernel
theorem dX12_next_1 : decode cX12_next 1 = .ok (.aload_n 0, 1) := by decide +kernel
theorem dX12_next_2 : decode cX12_next 2 = .ok (.getfield 159, 3) := by decide +kernel
theorem dX12_next_5 : decode cX12_next 5 = .ok (.putfield 162, 3) := by decide +kernel
theorem dX12_next_8 : decode cX12_next 8 = .ok (.aload_n 0, 1) := by decide +kernel
theorem dX12_next_9 : decode cX12_next 9 = .ok (.getfield 162, 3) := by decide +kernel
theorem dX12_next_12 : decode cX12_next 12 = .ok (.aload_n 0, 1) := by decide +kernel
theorem dX12_next_13 : decode cX12_next 13 = .ok (.getfield 147, 3) := by decide +kernel
theorem dX12_next_16 : decode cX12_next 16 = .ok (.if_icmp .ge 44, 3) := by decide +kernel
theorem dX12_next_19 : decode cX12_next 19 = .ok (.aload_n 0, 1) := by decide +kernel
theorem dX12_next_20 : decode cX12_next 20 = .ok (.getfield 9, 3) := by decide +kernel
theorem dX12_next_23 : decode cX12_next 23 = .ok (.aload_n 0, 1) := by decide +kernel
theorem dX12_next_24 : decode cX12_next 24 = .ok (.getfield 162, 3) := by decide +kernel
theorem dX12_next_27 : decode cX12_next 27 = .ok (.baload, 1) := by decide +kernel
theorem dX12_next_28 : decode cX12_next 28 = .ok (.bipush 32, 2) := by decide +kernel
theorem dX12_next_30 : decode cX12_next 30 = .ok (.if_icmp .eq 17, 3) := by decide +kernel
theorem dX12_next_33 : decode cX12_next 33 = .ok (.aload_n 0, 1) := by decide +kernel
theorem dX12_next_34 : decode cX12_next 34 = .ok (.getfield 9, 3) := by decide +kernel
theorem dX12_next_37 : decode cX12_next 37 = .ok (.aload_n 0, 1) := by decide +kernel
theorem dX12_next_38 : decode cX12_next 38 = .ok (.getfield 162, 3) := by decide +kernel
theorem dX12_next_41 : decode cX12_next 41 = .ok (.baload, 1) := by decide +kernel
theorem dX12_next_42 : decode cX12_next 42 = .ok (.bipush 10, 2) := by decide +kernel
theorem dX12_next_44 : decode cX12_next 44 = .ok (.if_icmp .ne 16, 3) := by decide +kernel
theorem dX12_next_47 : decode cX12_next 47 = .ok (.aload_n 0, 1) := by decide +kernel
theorem dX12_next_48 : decode cX12_next 48 = .ok (.dup, 1) := by decide +kernel
theorem dX12_next_49 : decode cX12_next 49 = .ok (.getfield 162, 3) := by decide +kernel
theorem dX12_next_52 : decode cX12_next 52 = .ok (.iconst 1, 1) := by decide +kernel
theorem dX12_next_53 : decode cX12_next 53 = .ok (.iadd, 1) := by decide +kernel
theorem dX12_next_54 : decode cX12_next 54 = .ok (.putfield 162, 3) := by decide +kernel
theorem dX12_next_57 : decode cX12_next 57 = .ok (.goto (-49), 3) := by decide +kernel
theorem dX12_next_60 : decode cX12_next 60 = .ok (.aload_n 0, 1) := by decide +kernel
theorem dX12_next_61 : decode cX12_next 61 = .ok (.aload_n 0, 1) := by decide +kernel
theorem dX12_next_62 : decode cX12_next 62 = .ok (.getfield 162, 3) := by decide +kernel
theorem dX12_next_65 : decode cX12_next 65 = .ok (.putfield 159, 3) := by decide +kernel
theorem dX12_next_68 : decode cX12_next 68 = .ok (.aload_n 0, 1) := by decide +kernel
theorem dX12_next_69 : decode cX12_next 69 = .ok (.aload_n 0, 1) := by decide +kernel
theorem dX12_next_70 : decode cX12_next 70 = .ok (.getfield 162, 3) := by decide +kernel
theorem dX12_next_73 : decode cX12_next 73 = .ok (.bipush 97, 2) := by decide +kernel
theorem dX12_next_75 : decode cX12_next 75 = .ok (.bipush 122, 2) := by decide +kernel
theorem dX12_next_77 : decode cX12_next 77 = .ok (.invokevirtual 165, 3) := by decide +kernel
theorem dX12_next_80 : decode cX12_next 80 = .ok (.ifCond .eq 31, 3) := by decide +kernel
theorem dX12_next_83 : decode cX12_next 83 = .ok (.aload_n 0, 1) := by decide +kernel
theorem dX12_next_84 : decode cX12_next 84 = .ok (.aload_n 0, 1) := by decide +kernel
theorem dX12_next_85 : decode cX12_next 85 = .ok (.getfield 159, 3) := by decide +kernel
theorem dX12_next_88 : decode cX12_next 88 = .ok (.bipush 97, 2) := by decide +kernel
theorem dX12_next_90 : decode cX12_next 90 = .ok (.bipush 122, 2) := by decide +kernel
theorem dX12_next_92 : decode cX12_next 92 = .ok (.invokevirtual 165, 3) := by decide +kernel
theorem dX12_next_95 : decode cX12_next 95 = .ok (.ifCond .eq 80, 3) := by decide +kernel
theorem dX12_next_98 : decode cX12_next 98 = .ok (.aload_n 0, 1) := by decide +kernel
theorem dX12_next_99 : decode cX12_next 99 = .ok (.dup, 1) := by decide +kernel
theorem dX12_next_100 : decode cX12_next 100 = .ok (.getfield 159, 3) := by decide +kernel
theorem dX12_next_103 : decode cX12_next 103 = .ok (.iconst 1, 1) := by decide +kernel
theorem dX12_next_104 : decode cX12_next 104 = .ok (.iadd, 1) := by decide +kernel
theorem dX12_next_105 : decode cX12_next 105 = .ok (.putfield 159, 3) := by decide +kernel
theorem dX12_next_108 : decode cX12_next 108 = .ok (.goto (-25), 3) := by decide +kernel
theorem dX12_next_111 : decode cX12_next 111 = .ok (.aload_n 0, 1) := by decide +kernel
theorem dX12_next_112 : decode cX12_next 112 = .ok (.aload_n 0, 1) := by decide +kernel
theorem dX12_next_113 : decode cX12_next 113 = .ok (.getfield 162, 3) := by decide +kernel
theorem dX12_next_116 : decode cX12_next 116 = .ok (.bipush 48, 2) := by decide +kernel
theorem dX12_next_118 : decode cX12_next 118 = .ok (.bipush 57, 2) := by decide +kernel
theorem dX12_next_120 : decode cX12_next 120 = .ok (.invokevirtual 165, 3) := by decide +kernel
theorem dX12_next_123 : decode cX12_next 123 = .ok (.ifCond .eq 31, 3) := by decide +kernel
theorem dX12_next_126 : decode cX12_next 126 = .ok (.aload_n 0, 1) := by decide +kernel
theorem dX12_next_127 : decode cX12_next 127 = .ok (.aload_n 0, 1) := by decide +kernel
theorem dX12_next_128 : decode cX12_next 128 = .ok (.getfield 159, 3) := by decide +kernel
theorem dX12_next_131 : decode cX12_next 131 = .ok (.bipush 48, 2) := by decide +kernel
theorem dX12_next_133 : decode cX12_next 133 = .ok (.bipush 57, 2) := by decide +kernel
theorem dX12_next_135 : decode cX12_next 135 = .ok (.invokevirtual 165, 3) := by decide +kernel
theorem dX12_next_138 : decode cX12_next 138 = .ok (.ifCond .eq 37, 3) := by decide +kernel
theorem dX12_next_141 : decode cX12_next 141 = .ok (.aload_n 0, 1) := by decide +kernel
theorem dX12_next_142 : decode cX12_next 142 = .ok (.dup, 1) := by decide +kernel
theorem dX12_next_143 : decode cX12_next 143 = .ok (.getfield 159, 3) := by decide +kernel
theorem dX12_next_146 : decode cX12_next 146 = .ok (.iconst 1, 1) := by decide +kernel
theorem dX12_next_147 : decode cX12_next 147 = .ok (.iadd, 1) := by decide +kernel
theorem dX12_next_148 : decode cX12_next 148 = .ok (.putfield 159, 3) := by decide +kernel
theorem dX12_next_151 : decode cX12_next 151 = .ok (.goto (-25), 3) := by decide +kernel
theorem dX12_next_154 : decode cX12_next 154 = .ok (.aload_n 0, 1) := by decide +kernel
theorem dX12_next_155 : decode cX12_next 155 = .ok (.getfield 162, 3) := by decide +kernel
theorem dX12_next_158 : decode cX12_next 158 = .ok (.aload_n 0, 1) := by decide +kernel
theorem dX12_next_159 : decode cX12_next 159 = .ok (.getfield 147, 3) := by decide +kernel
theorem dX12_next_162 : decode cX12_next 162 = .ok (.if_icmp .ge 13, 3) := by decide +kernel
theorem dX12_next_165 : decode cX12_next 165 = .ok (.aload_n 0, 1) := by decide +kernel
theorem dX12_next_166 : decode cX12_next 166 = .ok (.dup, 1) := by decide +kernel
theorem dX12_next_167 : decode cX12_next 167 = .ok (.getfield 159, 3) := by decide +kernel
theorem dX12_next_170 : decode cX12_next 170 = .ok (.iconst 1, 1) := by decide +kernel
theorem dX12_next_171 : decode cX12_next 171 = .ok (.iadd, 1) := by decide +kernel
theorem dX12_next_172 : decode cX12_next 172 = .ok (.putfield 159, 3) := by decide +kernel
theorem dX12_next_175 : decode cX12_next 175 = .ok (.return_, 1) := by decide +kernel
theorem dX12_passes_0 : decode cX12_passes 0 = .ok (.iload_n 1, 1) := by decide +kernel
theorem dX12_passes_1 : decode cX12_passes 1 = .ok (.ifCond .ne 21, 3) := by decide +kernel
theorem dX12_passes_4 : decode cX12_passes 4 = .ok (.aload_n 0, 1) := by decide +kernel
theorem dX12_passes_5 : decode cX12_passes 5 = .ok (.getfield 169, 3) := by decide +kernel
theorem dX12_passes_8 : decode cX12_passes 8 = .ok (.iconst (-1), 1) := by decide +kernel
theorem dX12_passes_9 : decode cX12_passes 9 = .ok (.if_icmp .ne 11, 3) := by decide +kernel
theorem dX12_passes_12 : decode cX12_passes 12 = .ok (.aload_n 0, 1) := by decide +kernel
theorem dX12_passes_13 : decode cX12_passes 13 = .ok (.aload_n 0, 1) := by decide +kernel
theorem dX12_passes_14 : decode cX12_passes 14 = .ok (.getfield 162, 3) := by decide +kernel
theorem dX12_passes_17 : decode cX12_passes 17 = .ok (.putfield 169, 3) := by decide +kernel
theorem dX12_passes_20 : decode cX12_passes 20 = .ok (.iconst 0, 1) := by decide +kernel
theorem dX12_passes_21 : decode cX12_passes 21 = .ok (.ireturn, 1) := by decide +kernel
theorem dX12_passes_22 : decode cX12_passes 22 = .ok (.aload_n 0, 1) := by decide +kernel
theorem dX12_passes_23 : decode cX12_passes 23 = .ok (.invokevirtual 172, 3) := by decide +kernel
theorem dX12_passes_26 : decode cX12_passes 26 = .ok (.iconst 1, 1) := by decide +kernel
theorem dX12_passes_27 : decode cX12_passes 27 = .ok (.ireturn, 1) := by decide +kernel
theorem dX12_isWord_0 : decode cX12_isWord 0 = .ok (.aload_n 0, 1) := by decide +kernel
theorem dX12_isWord_1 : decode cX12_isWord 1 = .ok (.getfield 162, 3) := by decide +kernel
theorem dX12_isWord_4 : decode cX12_isWord 4 = .ok (.aload_n 0, 1) := by decide +kernel
theorem dX12_isWord_5 : decode cX12_isWord 5 = .ok (.getfield 147, 3) := by decide +kernel
theorem dX12_isWord_8 : decode cX12_isWord 8 = .ok (.if_icmp .eq 24, 3) := by decide +kernel
theorem dX12_isWord_11 : decode cX12_isWord 11 = .ok (.aload_n 0, 1) := by decide +kernel
theorem dX12_isWord_12 : decode cX12_isWord 12 = .ok (.getfield 159, 3) := by decide +kernel
theorem dX12_isWord_15 : decode cX12_isWord 15 = .ok (.aload_n 0, 1) := by decide +kernel
theorem dX12_isWord_16 : decode cX12_isWord 16 = .ok (.getfield 162, 3) := by decide +kernel
theorem dX12_isWord_19 : decode cX12_isWord 19 = .ok (.isub, 1) := by decide +kernel
theorem dX12_isWord_20 : decode cX12_isWord 20 = .ok (.aload_n 0, 1) := by decide +kernel
theorem dX12_isWord_21 : decode cX12_isWord 21 = .ok (.getfield 41, 3) := by decide +kernel
theorem dX12_isWord_24 : decode cX12_isWord 24 = .ok (.iload_n 1, 1) := by decide +kernel
theorem dX12_isWord_25 : decode cX12_isWord 25 = .ok (.aaload, 1) := by decide +kernel
theorem dX12_isWord_26 : decode cX12_isWord 26 = .ok (.invokevirtual 175, 3) := by decide +kernel
theorem dX12_isWord_29 : decode cX12_isWord 29 = .ok (.if_icmp .eq 5, 3) := by decide +kernel
theorem dX12_isWord_32 : decode cX12_isWord 32 = .ok (.iconst 0, 1) := by decide +kernel
theorem dX12_isWord_33 : decode cX12_isWord 33 = .ok (.ireturn, 1) := by decide +kernel
theorem dX12_isWord_34 : decode cX12_isWord 34 = .ok (.aload_n 0, 1) := by decide +kernel
theorem dX12_isWord_35 : decode cX12_isWord 35 = .ok (.getfield 162, 3) := by decide +kernel
theorem dX12_isWord_38 : decode cX12_isWord 38 = .ok (.istore_n 2, 1) := by decide +kernel
theorem dX12_isWord_39 : decode cX12_isWord 39 = .ok (.iload_n 2, 1) := by decide +kernel
theorem dX12_isWord_40 : decode cX12_isWord 40 = .ok (.aload_n 0, 1) := by decide +kernel
theorem dX12_isWord_41 : decode cX12_isWord 41 = .ok (.getfield 159, 3) := by decide +kernel
theorem dX12_isWord_44 : decode cX12_isWord 44 = .ok (.if_icmp .ge 35, 3) := by decide +kernel
theorem dX12_isWord_47 : decode cX12_isWord 47 = .ok (.aload_n 0, 1) := by decide +kernel
theorem dX12_isWord_48 : decode cX12_isWord 48 = .ok (.getfield 9, 3) := by decide +kernel
theorem dX12_isWord_51 : decode cX12_isWord 51 = .ok (.iload_n 2, 1) := by decide +kernel
theorem dX12_isWord_52 : decode cX12_isWord 52 = .ok (.baload, 1) := by decide +kernel
theorem dX12_isWord_53 : decode cX12_isWord 53 = .ok (.aload_n 0, 1) := by decide +kernel
theorem dX12_isWord_54 : decode cX12_isWord 54 = .ok (.getfield 41, 3) := by decide +kernel
theorem dX12_isWord_57 : decode cX12_isWord 57 = .ok (.iload_n 1, 1) := by decide +kernel
theorem dX12_isWord_58 : decode cX12_isWord 58 = .ok (.aaload, 1) := by decide +kernel
theorem dX12_isWord_59 : decode cX12_isWord 59 = .ok (.iload_n 2, 1) := by decide +kernel
theorem dX12_isWord_60 : decode cX12_isWord 60 = .ok (.aload_n 0, 1) := by decide +kernel
theorem dX12_isWord_61 : decode cX12_isWord 61 = .ok (.getfield 162, 3) := by decide +kernel
theorem dX12_isWord_64 : decode cX12_isWord 64 = .ok (.isub, 1) := by decide +kernel
theorem dX12_isWord_65 : decode cX12_isWord 65 = .ok (.invokevirtual 179, 3) := by decide +kernel
theorem dX12_isWord_68 : decode cX12_isWord 68 = .ok (.if_icmp .eq 5, 3) := by decide +kernel
theorem dX12_isWord_71 : decode cX12_isWord 71 = .ok (.iconst 0, 1) := by decide +kernel
theorem dX12_isWord_72 : decode cX12_isWord 72 = .ok (.ireturn, 1) := by decide +kernel
theorem dX12_isWord_73 : decode cX12_isWord 73 = .ok (.iinc 2 1, 3) := by decide +kernel
theorem dX12_isWord_76 : decode cX12_isWord 76 = .ok (.goto (-37), 3) := by decide +kernel
theorem dX12_isWord_79 : decode cX12_isWord 79 = .ok (.iconst 1, 1) := by decide +kernel
theorem dX12_isWord_80 : decode cX12_isWord 80 = .ok (.ireturn, 1) := by decide +kernel
theorem dX12_closes_0 : decode cX12_closes 0 = .ok (.aload_n 0, 1) := by decide +kernel
theorem dX12_closes_1 : decode cX12_closes 1 = .ok (.aload_n 0, 1) := by decide +kernel
theorem dX12_closes_2 : decode cX12_closes 2 = .ok (.getfield 162, 3) := by decide +kernel
theorem dX12_closes_5 : decode cX12_closes 5 = .ok (.aload_n 0, 1) := by decide +kernel
theorem dX12_closes_6 : decode cX12_closes 6 = .ok (.getfield 147, 3) := by decide +kernel
theorem dX12_closes_9 : decode cX12_closes 9 = .ok (.if_icmp .ge 21, 3) := by decide +kernel
theorem dX12_closes_12 : decode cX12_closes 12 = .ok (.aload_n 0, 1) := by decide +kernel
theorem dX12_closes_13 : decode cX12_closes 13 = .ok (.getfield 9, 3) := by decide +kernel
theorem dX12_closes_16 : decode cX12_closes 16 = .ok (.aload_n 0, 1) := by decide +kernel
theorem dX12_closes_17 : decode cX12_closes 17 = .ok (.getfield 162, 3) := by decide +kernel
theorem dX12_closes_20 : decode cX12_closes 20 = .ok (.baload, 1) := by decide +kernel
theorem dX12_closes_21 : decode cX12_closes 21 = .ok (.bipush 59, 2) := by decide +kernel
theorem dX12_closes_23 : decode cX12_closes 23 = .ok (.if_icmp .ne 7, 3) := by decide +kernel
theorem dX12_closes_26 : decode cX12_closes 26 = .ok (.iconst 1, 1) := by decide +kernel
theorem dX12_closes_27 : decode cX12_closes 27 = .ok (.goto 4, 3) := by decide +kernel
theorem dX12_closes_30 : decode cX12_closes 30 = .ok (.iconst 0, 1) := by decide +kernel
theorem dX12_closes_31 : decode cX12_closes 31 = .ok (.invokevirtual 183, 3) := by decide +kernel
theorem dX12_closes_34 : decode cX12_closes 34 = .ok (.ireturn, 1) := by decide +kernel
theorem dX12_marksHere_0 : decode cX12_marksHere 0 = .ok (.aload_n 0, 1) := by decide +kernel
theorem dX12_marksHere_1 : decode cX12_marksHere 1 = .ok (.aload_n 0, 1) := by decide +kernel
theorem dX12_marksHere_2 : decode cX12_marksHere 2 = .ok (.getfield 162, 3) := by decide +kernel
theorem dX12_marksHere_5 : decode cX12_marksHere 5 = .ok (.bipush 48, 2) := by decide +kernel
theorem dX12_marksHere_7 : decode cX12_marksHere 7 = .ok (.bipush 57, 2) := by decide +kernel
theorem dX12_marksHere_9 : decode cX12_marksHere 9 = .ok (.invokevirtual 165, 3) := by decide +kernel
theorem dX12_marksHere_12 : decode cX12_marksHere 12 = .ok (.ifCond .eq 16, 3) := by decide +kernel
theorem dX12_marksHere_15 : decode cX12_marksHere 15 = .ok (.aload_n 0, 1) := by decide +kernel
theorem dX12_marksHere_16 : decode cX12_marksHere 16 = .ok (.getfield 159, 3) := by decide +kernel
theorem dX12_marksHere_19 : decode cX12_marksHere 19 = .ok (.aload_n 0, 1) := by decide +kernel
theorem dX12_marksHere_20 : decode cX12_marksHere 20 = .ok (.getfield 162, 3) := by decide +kernel
theorem dX12_marksHere_23 : decode cX12_marksHere 23 = .ok (.isub, 1) := by decide +kernel
theorem dX12_marksHere_24 : decode cX12_marksHere 24 = .ok (.iconst 5, 1) := by decide +kernel
theorem dX12_marksHere_25 : decode cX12_marksHere 25 = .ok (.if_icmp .le 5, 3) := by decide +kernel
theorem dX12_marksHere_28 : decode cX12_marksHere 28 = .ok (.iconst (-1), 1) := by decide +kernel
theorem dX12_marksHere_29 : decode cX12_marksHere 29 = .ok (.ireturn, 1) := by decide +kernel
theorem dX12_marksHere_30 : decode cX12_marksHere 30 = .ok (.iconst 0, 1) := by decide +kernel
theorem dX12_marksHere_31 : decode cX12_marksHere 31 = .ok (.istore_n 1, 1) := by decide +kernel
theorem dX12_marksHere_32 : decode cX12_marksHere 32 = .ok (.aload_n 0, 1) := by decide +kernel
theorem dX12_marksHere_33 : decode cX12_marksHere 33 = .ok (.getfield 162, 3) := by decide +kernel
theorem dX12_marksHere_36 : decode cX12_marksHere 36 = .ok (.istore_n 2, 1) := by decide +kernel
theorem dX12_marksHere_37 : decode cX12_marksHere 37 = .ok (.iload_n 2, 1) := by decide +kernel
theorem dX12_marksHere_38 : decode cX12_marksHere 38 = .ok (.aload_n 0, 1) := by decide +kernel
theorem dX12_marksHere_39 : decode cX12_marksHere 39 = .ok (.getfield 159, 3) := by decide +kernel
theorem dX12_marksHere_42 : decode cX12_marksHere 42 = .ok (.if_icmp .ge 38, 3) := by decide +kernel
theorem dX12_marksHere_45 : decode cX12_marksHere 45 = .ok (.aload_n 0, 1) := by decide +kernel
theorem dX12_marksHere_46 : decode cX12_marksHere 46 = .ok (.iload_n 2, 1) := by decide +kernel
theorem dX12_marksHere_47 : decode cX12_marksHere 47 = .ok (.bipush 49, 2) := by decide +kernel
theorem dX12_marksHere_49 : decode cX12_marksHere 49 = .ok (.bipush 50, 2) := by decide +kernel
theorem dX12_marksHere_51 : decode cX12_marksHere 51 = .ok (.invokevirtual 165, 3) := by decide +kernel
theorem dX12_marksHere_54 : decode cX12_marksHere 54 = .ok (.ifCond .ne 5, 3) := by decide +kernel
theorem dX12_marksHere_57 : decode cX12_marksHere 57 = .ok (.iconst (-1), 1) := by decide +kernel
theorem dX12_marksHere_58 : decode cX12_marksHere 58 = .ok (.ireturn, 1) := by decide +kernel
theorem dX12_marksHere_59 : decode cX12_marksHere 59 = .ok (.bipush 10, 2) := by decide +kernel
theorem dX12_marksHere_61 : decode cX12_marksHere 61 = .ok (.iload_n 1, 1) := by decide +kernel
theorem dX12_marksHere_62 : decode cX12_marksHere 62 = .ok (.imul, 1) := by decide +kernel
theorem dX12_marksHere_63 : decode cX12_marksHere 63 = .ok (.aload_n 0, 1) := by decide +kernel
theorem dX12_marksHere_64 : decode cX12_marksHere 64 = .ok (.getfield 9, 3) := by decide +kernel
theorem dX12_marksHere_67 : decode cX12_marksHere 67 = .ok (.iload_n 2, 1) := by decide +kernel
theorem dX12_marksHere_68 : decode cX12_marksHere 68 = .ok (.baload, 1) := by decide +kernel
theorem dX12_marksHere_69 : decode cX12_marksHere 69 = .ok (.iadd, 1) := by decide +kernel
theorem dX12_marksHere_70 : decode cX12_marksHere 70 = .ok (.bipush 48, 2) := by decide +kernel
theorem dX12_marksHere_72 : decode cX12_marksHere 72 = .ok (.isub, 1) := by decide +kernel
theorem dX12_marksHere_73 : decode cX12_marksHere 73 = .ok (.istore_n 1, 1) := by decide +kernel
theorem dX12_marksHere_74 : decode cX12_marksHere 74 = .ok (.iinc 2 1, 3) := by decide +kernel
theorem dX12_marksHere_77 : decode cX12_marksHere 77 = .ok (.goto (-40), 3) := by decide +kernel
theorem dX12_marksHere_80 : decode cX12_marksHere 80 = .ok (.iconst 0, 1) := by decide +kernel
theorem dX12_marksHere_81 : decode cX12_marksHere 81 = .ok (.istore_n 2, 1) := by decide +kernel
theorem dX12_marksHere_82 : decode cX12_marksHere 82 = .ok (.iload_n 2, 1) := by decide +kernel
theorem dX12_marksHere_83 : decode cX12_marksHere 83 = .ok (.bipush 26, 2) := by decide +kernel
theorem dX12_marksHere_85 : decode cX12_marksHere 85 = .ok (.if_icmp .ge 23, 3) := by decide +kernel
theorem dX12_marksHere_88 : decode cX12_marksHere 88 = .ok (.aload_n 0, 1) := by decide +kernel
theorem dX12_marksHere_89 : decode cX12_marksHere 89 = .ok (.getfield 15, 3) := by decide +kernel
theorem dX12_marksHere_92 : decode cX12_marksHere 92 = .ok (.iconst 1, 1) := by decide +kernel
theorem dX12_marksHere_93 : decode cX12_marksHere 93 = .ok (.aaload, 1) := by decide +kernel
theorem dX12_marksHere_94 : decode cX12_marksHere 94 = .ok (.iload_n 2, 1) := by decide +kernel
theorem dX12_marksHere_95 : decode cX12_marksHere 95 = .ok (.iaload, 1) := by decide +kernel
theorem dX12_marksHere_96 : decode cX12_marksHere 96 = .ok (.iload_n 1, 1) := by decide +kernel
theorem dX12_marksHere_97 : decode cX12_marksHere 97 = .ok (.if_icmp .ne 5, 3) := by decide +kernel
theorem dX12_marksHere_100 : decode cX12_marksHere 100 = .ok (.iconst (-1), 1) := by decide +kernel
theorem dX12_marksHere_101 : decode cX12_marksHere 101 = .ok (.ireturn, 1) := by decide +kernel
theorem dX12_marksHere_102 : decode cX12_marksHere 102 = .ok (.iinc 2 1, 3) := by decide +kernel
theorem dX12_marksHere_105 : decode cX12_marksHere 105 = .ok (.goto (-23), 3) := by decide +kernel
theorem dX12_marksHere_108 : decode cX12_marksHere 108 = .ok (.iload_n 1, 1) := by decide +kernel
theorem dX12_marksHere_109 : decode cX12_marksHere 109 = .ok (.ireturn, 1) := by decide +kernel
theorem dX12_letterRead_0 : decode cX12_letterRead 0 = .ok (.aload_n 0, 1) := by decide +kernel
theorem dX12_letterRead_1 : decode cX12_letterRead 1 = .ok (.aload_n 0, 1) := by decide +kernel
theorem dX12_letterRead_2 : decode cX12_letterRead 2 = .ok (.getfield 162, 3) := by decide +kernel
theorem dX12_letterRead_5 : decode cX12_letterRead 5 = .ok (.bipush 97, 2) := by decide +kernel
theorem dX12_letterRead_7 : decode cX12_letterRead 7 = .ok (.bipush 122, 2) := by decide +kernel
theorem dX12_letterRead_9 : decode cX12_letterRead 9 = .ok (.invokevirtual 165, 3) := by decide +kernel
theorem dX12_letterRead_12 : decode cX12_letterRead 12 = .ok (.ifCond .eq 20, 3) := by decide +kernel
theorem dX12_letterRead_15 : decode cX12_letterRead 15 = .ok (.aload_n 0, 1) := by decide +kernel
theorem dX12_letterRead_16 : decode cX12_letterRead 16 = .ok (.getfield 159, 3) := by decide +kernel
theorem dX12_letterRead_19 : decode cX12_letterRead 19 = .ok (.aload_n 0, 1) := by decide +kernel
theorem dX12_letterRead_20 : decode cX12_letterRead 20 = .ok (.getfield 162, 3) := by decide +kernel
theorem dX12_letterRead_23 : decode cX12_letterRead 23 = .ok (.isub, 1) := by decide +kernel
theorem dX12_letterRead_24 : decode cX12_letterRead 24 = .ok (.iconst 1, 1) := by decide +kernel
theorem dX12_letterRead_25 : decode cX12_letterRead 25 = .ok (.if_icmp .ne 7, 3) := by decide +kernel
theorem dX12_letterRead_28 : decode cX12_letterRead 28 = .ok (.iconst 1, 1) := by decide +kernel
theorem dX12_letterRead_29 : decode cX12_letterRead 29 = .ok (.goto 4, 3) := by decide +kernel
theorem dX12_letterRead_32 : decode cX12_letterRead 32 = .ok (.iconst 0, 1) := by decide +kernel
theorem dX12_letterRead_33 : decode cX12_letterRead 33 = .ok (.istore_n 1, 1) := by decide +kernel
theorem dX12_letterRead_34 : decode cX12_letterRead 34 = .ok (.iload_n 1, 1) := by decide +kernel
theorem dX12_letterRead_35 : decode cX12_letterRead 35 = .ok (.ifCond .eq 18, 3) := by decide +kernel
theorem dX12_letterRead_38 : decode cX12_letterRead 38 = .ok (.aload_n 0, 1) := by decide +kernel
theorem dX12_letterRead_39 : decode cX12_letterRead 39 = .ok (.getfield 9, 3) := by decide +kernel
theorem dX12_letterRead_42 : decode cX12_letterRead 42 = .ok (.aload_n 0, 1) := by decide +kernel
theorem dX12_letterRead_43 : decode cX12_letterRead 43 = .ok (.getfield 162, 3) := by decide +kernel
theorem dX12_letterRead_46 : decode cX12_letterRead 46 = .ok (.baload, 1) := by decide +kernel
theorem dX12_letterRead_47 : decode cX12_letterRead 47 = .ok (.bipush 97, 2) := by decide +kernel
theorem dX12_letterRead_49 : decode cX12_letterRead 49 = .ok (.isub, 1) := by decide +kernel
theorem dX12_letterRead_50 : decode cX12_letterRead 50 = .ok (.goto 4, 3) := by decide +kernel
theorem dX12_letterRead_53 : decode cX12_letterRead 53 = .ok (.iconst 0, 1) := by decide +kernel
theorem dX12_letterRead_54 : decode cX12_letterRead 54 = .ok (.istore_n 2, 1) := by decide +kernel
theorem dX12_letterRead_55 : decode cX12_letterRead 55 = .ok (.aload_n 0, 1) := by decide +kernel
theorem dX12_letterRead_56 : decode cX12_letterRead 56 = .ok (.iload_n 1, 1) := by decide +kernel
theorem dX12_letterRead_57 : decode cX12_letterRead 57 = .ok (.ifCond .eq 18, 3) := by decide +kernel
theorem dX12_letterRead_60 : decode cX12_letterRead 60 = .ok (.aload_n 0, 1) := by decide +kernel
theorem dX12_letterRead_61 : decode cX12_letterRead 61 = .ok (.getfield 15, 3) := by decide +kernel
theorem dX12_letterRead_64 : decode cX12_letterRead 64 = .ok (.iconst 1, 1) := by decide +kernel
theorem dX12_letterRead_65 : decode cX12_letterRead 65 = .ok (.aaload, 1) := by decide +kernel
theorem dX12_letterRead_66 : decode cX12_letterRead 66 = .ok (.iload_n 2, 1) := by decide +kernel
theorem dX12_letterRead_67 : decode cX12_letterRead 67 = .ok (.iaload, 1) := by decide +kernel
theorem dX12_letterRead_68 : decode cX12_letterRead 68 = .ok (.ifCond .ne 7, 3) := by decide +kernel
theorem dX12_letterRead_71 : decode cX12_letterRead 71 = .ok (.iconst 1, 1) := by decide +kernel
theorem dX12_letterRead_72 : decode cX12_letterRead 72 = .ok (.goto 4, 3) := by decide +kernel
theorem dX12_letterRead_75 : decode cX12_letterRead 75 = .ok (.iconst 0, 1) := by decide +kernel
theorem dX12_letterRead_76 : decode cX12_letterRead 76 = .ok (.invokevirtual 183, 3) := by decide +kernel
theorem dX12_letterRead_79 : decode cX12_letterRead 79 = .ok (.ifCond .ne 5, 3) := by decide +kernel
theorem dX12_letterRead_82 : decode cX12_letterRead 82 = .ok (.iconst 0, 1) := by decide +kernel
theorem dX12_letterRead_83 : decode cX12_letterRead 83 = .ok (.ireturn, 1) := by decide +kernel
theorem dX12_letterRead_84 : decode cX12_letterRead 84 = .ok (.aload_n 0, 1) := by decide +kernel
theorem dX12_letterRead_85 : decode cX12_letterRead 85 = .ok (.invokevirtual 187, 3) := by decide +kernel
theorem dX12_letterRead_88 : decode cX12_letterRead 88 = .ok (.istore_n 3, 1) := by decide +kernel
theorem dX12_letterRead_89 : decode cX12_letterRead 89 = .ok (.aload_n 0, 1) := by decide +kernel
theorem dX12_letterRead_90 : decode cX12_letterRead 90 = .ok (.iload_n 3, 1) := by decide +kernel
theorem dX12_letterRead_91 : decode cX12_letterRead 91 = .ok (.iconst (-1), 1) := by decide +kernel
theorem dX12_letterRead_92 : decode cX12_letterRead 92 = .ok (.if_icmp .eq 7, 3) := by decide +kernel
theorem dX12_letterRead_95 : decode cX12_letterRead 95 = .ok (.iconst 1, 1) := by decide +kernel
theorem dX12_letterRead_96 : decode cX12_letterRead 96 = .ok (.goto 4, 3) := by decide +kernel
theorem dX12_letterRead_99 : decode cX12_letterRead 99 = .ok (.iconst 0, 1) := by decide +kernel
theorem dX12_letterRead_100 : decode cX12_letterRead 100 = .ok (.invokevirtual 183, 3) := by decide +kernel
theorem dX12_letterRead_103 : decode cX12_letterRead 103 = .ok (.ifCond .ne 5, 3) := by decide +kernel
theorem dX12_letterRead_106 : decode cX12_letterRead 106 = .ok (.iconst 0, 1) := by decide +kernel
theorem dX12_letterRead_107 : decode cX12_letterRead 107 = .ok (.ireturn, 1) := by decide +kernel
theorem dX12_letterRead_108 : decode cX12_letterRead 108 = .ok (.aload_n 0, 1) := by decide +kernel
theorem dX12_letterRead_109 : decode cX12_letterRead 109 = .ok (.getfield 15, 3) := by decide +kernel
theorem dX12_letterRead_112 : decode cX12_letterRead 112 = .ok (.iconst 1, 1) := by decide +kernel
theorem dX12_letterRead_113 : decode cX12_letterRead 113 = .ok (.aaload, 1) := by decide +kernel
theorem dX12_letterRead_114 : decode cX12_letterRead 114 = .ok (.iload_n 2, 1) := by decide +kernel
theorem dX12_letterRead_115 : decode cX12_letterRead 115 = .ok (.iload_n 3, 1) := by decide +kernel
theorem dX12_letterRead_116 : decode cX12_letterRead 116 = .ok (.iastore, 1) := by decide +kernel
theorem dX12_letterRead_117 : decode cX12_letterRead 117 = .ok (.aload_n 0, 1) := by decide +kernel
theorem dX12_letterRead_118 : decode cX12_letterRead 118 = .ok (.getfield 26, 3) := by decide +kernel
theorem dX12_letterRead_121 : decode cX12_letterRead 121 = .ok (.iconst 1, 1) := by decide +kernel
theorem dX12_letterRead_122 : decode cX12_letterRead 122 = .ok (.dup2, 1) := by decide +kernel
theorem dX12_letterRead_123 : decode cX12_letterRead 123 = .ok (.iaload, 1) := by decide +kernel
theorem dX12_letterRead_124 : decode cX12_letterRead 124 = .ok (.iconst 1, 1) := by decide +kernel
theorem dX12_letterRead_125 : decode cX12_letterRead 125 = .ok (.iadd, 1) := by decide +kernel
theorem dX12_letterRead_126 : decode cX12_letterRead 126 = .ok (.iastore, 1) := by decide +kernel
theorem dX12_letterRead_127 : decode cX12_letterRead 127 = .ok (.aload_n 0, 1) := by decide +kernel
theorem dX12_letterRead_128 : decode cX12_letterRead 128 = .ok (.invokevirtual 190, 3) := by decide +kernel
theorem dX12_letterRead_131 : decode cX12_letterRead 131 = .ok (.ireturn, 1) := by decide +kernel
theorem dX12_nameHere_0 : decode cX12_nameHere 0 = .ok (.aload_n 0, 1) := by decide +kernel
theorem dX12_nameHere_1 : decode cX12_nameHere 1 = .ok (.aload_n 0, 1) := by decide +kernel
theorem dX12_nameHere_2 : decode cX12_nameHere 2 = .ok (.getfield 162, 3) := by decide +kernel
theorem dX12_nameHere_5 : decode cX12_nameHere 5 = .ok (.bipush 97, 2) := by decide +kernel
theorem dX12_nameHere_7 : decode cX12_nameHere 7 = .ok (.bipush 122, 2) := by decide +kernel
theorem dX12_nameHere_9 : decode cX12_nameHere 9 = .ok (.invokevirtual 165, 3) := by decide +kernel
theorem dX12_nameHere_12 : decode cX12_nameHere 12 = .ok (.ifCond .eq 17, 3) := by decide +kernel
theorem dX12_nameHere_15 : decode cX12_nameHere 15 = .ok (.aload_n 0, 1) := by decide +kernel
theorem dX12_nameHere_16 : decode cX12_nameHere 16 = .ok (.getfield 159, 3) := by decide +kernel
theorem dX12_nameHere_19 : decode cX12_nameHere 19 = .ok (.aload_n 0, 1) := by decide +kernel
theorem dX12_nameHere_20 : decode cX12_nameHere 20 = .ok (.getfield 162, 3) := by decide +kernel
theorem dX12_nameHere_23 : decode cX12_nameHere 23 = .ok (.isub, 1) := by decide +kernel
theorem dX12_nameHere_24 : decode cX12_nameHere 24 = .ok (.bipush 8, 2) := by decide +kernel
theorem dX12_nameHere_26 : decode cX12_nameHere 26 = .ok (.if_icmp .le 7, 3) := by decide +kernel
theorem dX12_nameHere_29 : decode cX12_nameHere 29 = .ok (.ldc2_w 194, 3) := by decide +kernel
theorem dX12_nameHere_32 : decode cX12_nameHere 32 = .ok (.lreturn, 1) := by decide +kernel
theorem dX12_nameHere_33 : decode cX12_nameHere 33 = .ok (.iconst 0, 1) := by decide +kernel
theorem dX12_nameHere_34 : decode cX12_nameHere 34 = .ok (.istore_n 1, 1) := by decide +kernel
theorem dX12_nameHere_35 : decode cX12_nameHere 35 = .ok (.iload_n 1, 1) := by decide +kernel
theorem dX12_nameHere_36 : decode cX12_nameHere 36 = .ok (.iconst 3, 1) := by decide +kernel
theorem dX12_nameHere_37 : decode cX12_nameHere 37 = .ok (.if_icmp .ge 21, 3) := by decide +kernel
theorem dX12_nameHere_40 : decode cX12_nameHere 40 = .ok (.aload_n 0, 1) := by decide +kernel
theorem dX12_nameHere_41 : decode cX12_nameHere 41 = .ok (.iload_n 1, 1) := by decide +kernel
theorem dX12_nameHere_42 : decode cX12_nameHere 42 = .ok (.invokevirtual 196, 3) := by decide +kernel
theorem dX12_nameHere_45 : decode cX12_nameHere 45 = .ok (.ifCond .eq 7, 3) := by decide +kernel
theorem dX12_nameHere_48 : decode cX12_nameHere 48 = .ok (.ldc2_w 194, 3) := by decide +kernel
theorem dX12_nameHere_51 : decode cX12_nameHere 51 = .ok (.lreturn, 1) := by decide +kernel
theorem dX12_nameHere_52 : decode cX12_nameHere 52 = .ok (.iinc 1 1, 3) := by decide +kernel
theorem dX12_nameHere_55 : decode cX12_nameHere 55 = .ok (.goto (-20), 3) := by decide +kernel
theorem dX12_nameHere_58 : decode cX12_nameHere 58 = .ok (.lconst 0, 1) := by decide +kernel
theorem dX12_nameHere_59 : decode cX12_nameHere 59 = .ok (.lstore_n 1, 1) := by decide +kernel
theorem dX12_nameHere_60 : decode cX12_nameHere 60 = .ok (.aload_n 0, 1) := by decide +kernel
theorem dX12_nameHere_61 : decode cX12_nameHere 61 = .ok (.getfield 162, 3) := by decide +kernel
theorem dX12_nameHere_64 : decode cX12_nameHere 64 = .ok (.istore_n 3, 1) := by decide +kernel
theorem dX12_nameHere_65 : decode cX12_nameHere 65 = .ok (.iload_n 3, 1) := by decide +kernel
theorem dX12_nameHere_66 : decode cX12_nameHere 66 = .ok (.aload_n 0, 1) := by decide +kernel
theorem dX12_nameHere_67 : decode cX12_nameHere 67 = .ok (.getfield 159, 3) := by decide +kernel
theorem dX12_nameHere_70 : decode cX12_nameHere 70 = .ok (.if_icmp .ge 29, 3) := by decide +kernel
theorem dX12_nameHere_73 : decode cX12_nameHere 73 = .ok (.ldc2_w 200, 3) := by decide +kernel
theorem dX12_nameHere_76 : decode cX12_nameHere 76 = .ok (.lload_n 1, 1) := by decide +kernel
theorem dX12_nameHere_77 : decode cX12_nameHere 77 = .ok (.lmul, 1) := by decide +kernel
theorem dX12_nameHere_78 : decode cX12_nameHere 78 = .ok (.aload_n 0, 1) := by decide +kernel
theorem dX12_nameHere_79 : decode cX12_nameHere 79 = .ok (.getfield 9, 3) := by decide +kernel
theorem dX12_nameHere_82 : decode cX12_nameHere 82 = .ok (.iload_n 3, 1) := by decide +kernel
theorem dX12_nameHere_83 : decode cX12_nameHere 83 = .ok (.baload, 1) := by decide +kernel
theorem dX12_nameHere_84 : decode cX12_nameHere 84 = .ok (.i2l, 1) := by decide +kernel
theorem dX12_nameHere_85 : decode cX12_nameHere 85 = .ok (.ladd, 1) := by decide +kernel
theorem dX12_nameHere_86 : decode cX12_nameHere 86 = .ok (.ldc2_w 202, 3) := by decide +kernel
theorem dX12_nameHere_89 : decode cX12_nameHere 89 = .ok (.lsub, 1) := by decide +kernel
theorem dX12_nameHere_90 : decode cX12_nameHere 90 = .ok (.lconst 1, 1) := by decide +kernel
theorem dX12_nameHere_91 : decode cX12_nameHere 91 = .ok (.ladd, 1) := by decide +kernel
theorem dX12_nameHere_92 : decode cX12_nameHere 92 = .ok (.lstore_n 1, 1) := by decide +kernel
theorem dX12_nameHere_93 : decode cX12_nameHere 93 = .ok (.iinc 3 1, 3) := by decide +kernel
theorem dX12_nameHere_96 : decode cX12_nameHere 96 = .ok (.goto (-31), 3) := by decide +kernel
theorem dX12_nameHere_99 : decode cX12_nameHere 99 = .ok (.iconst 0, 1) := by decide +kernel
theorem dX12_nameHere_100 : decode cX12_nameHere 100 = .ok (.istore_n 3, 1) := by decide +kernel
theorem dX12_nameHere_101 : decode cX12_nameHere 101 = .ok (.iload_n 3, 1) := by decide +kernel
theorem dX12_nameHere_102 : decode cX12_nameHere 102 = .ok (.aload_n 0, 1) := by decide +kernel
theorem dX12_nameHere_103 : decode cX12_nameHere 103 = .ok (.getfield 30, 3) := by decide +kernel
theorem dX12_nameHere_106 : decode cX12_nameHere 106 = .ok (.iconst 1, 1) := by decide +kernel
theorem dX12_nameHere_107 : decode cX12_nameHere 107 = .ok (.iaload, 1) := by decide +kernel
theorem dX12_nameHere_108 : decode cX12_nameHere 108 = .ok (.if_icmp .ge 26, 3) := by decide +kernel
theorem dX12_nameHere_111 : decode cX12_nameHere 111 = .ok (.aload_n 0, 1) := by decide +kernel
theorem dX12_nameHere_112 : decode cX12_nameHere 112 = .ok (.getfield 23, 3) := by decide +kernel
theorem dX12_nameHere_115 : decode cX12_nameHere 115 = .ok (.iconst 1, 1) := by decide +kernel
theorem dX12_nameHere_116 : decode cX12_nameHere 116 = .ok (.aaload, 1) := by decide +kernel
theorem dX12_nameHere_117 : decode cX12_nameHere 117 = .ok (.iload_n 3, 1) := by decide +kernel
theorem dX12_nameHere_118 : decode cX12_nameHere 118 = .ok (.laload, 1) := by decide +kernel
theorem dX12_nameHere_119 : decode cX12_nameHere 119 = .ok (.lload_n 1, 1) := by decide +kernel
theorem dX12_nameHere_120 : decode cX12_nameHere 120 = .ok (.lcmp, 1) := by decide +kernel
theorem dX12_nameHere_121 : decode cX12_nameHere 121 = .ok (.ifCond .ne 7, 3) := by decide +kernel
theorem dX12_nameHere_124 : decode cX12_nameHere 124 = .ok (.ldc2_w 194, 3) := by decide +kernel
theorem dX12_nameHere_127 : decode cX12_nameHere 127 = .ok (.lreturn, 1) := by decide +kernel
theorem dX12_nameHere_128 : decode cX12_nameHere 128 = .ok (.iinc 3 1, 3) := by decide +kernel
theorem dX12_nameHere_131 : decode cX12_nameHere 131 = .ok (.goto (-30), 3) := by decide +kernel
theorem dX12_nameHere_134 : decode cX12_nameHere 134 = .ok (.lload_n 1, 1) := by decide +kernel
theorem dX12_nameHere_135 : decode cX12_nameHere 135 = .ok (.lreturn, 1) := by decide +kernel
theorem dX12_groupHere_0 : decode cX12_groupHere 0 = .ok (.aload_n 0, 1) := by decide +kernel
theorem dX12_groupHere_1 : decode cX12_groupHere 1 = .ok (.aload_n 0, 1) := by decide +kernel
theorem dX12_groupHere_2 : decode cX12_groupHere 2 = .ok (.getfield 162, 3) := by decide +kernel
theorem dX12_groupHere_5 : decode cX12_groupHere 5 = .ok (.bipush 97, 2) := by decide +kernel
theorem dX12_groupHere_7 : decode cX12_groupHere 7 = .ok (.bipush 122, 2) := by decide +kernel
theorem dX12_groupHere_9 : decode cX12_groupHere 9 = .ok (.invokevirtual 165, 3) := by decide +kernel
theorem dX12_groupHere_12 : decode cX12_groupHere 12 = .ok (.ifCond .eq 16, 3) := by decide +kernel
theorem dX12_groupHere_15 : decode cX12_groupHere 15 = .ok (.aload_n 0, 1) := by decide +kernel
theorem dX12_groupHere_16 : decode cX12_groupHere 16 = .ok (.getfield 159, 3) := by decide +kernel
theorem dX12_groupHere_19 : decode cX12_groupHere 19 = .ok (.aload_n 0, 1) := by decide +kernel
theorem dX12_groupHere_20 : decode cX12_groupHere 20 = .ok (.getfield 162, 3) := by decide +kernel
theorem dX12_groupHere_23 : decode cX12_groupHere 23 = .ok (.isub, 1) := by decide +kernel
theorem dX12_groupHere_24 : decode cX12_groupHere 24 = .ok (.iconst 3, 1) := by decide +kernel
theorem dX12_groupHere_25 : decode cX12_groupHere 25 = .ok (.if_icmp .eq 5, 3) := by decide +kernel
theorem dX12_groupHere_28 : decode cX12_groupHere 28 = .ok (.iconst (-1), 1) := by decide +kernel
theorem dX12_groupHere_29 : decode cX12_groupHere 29 = .ok (.ireturn, 1) := by decide +kernel
theorem dX12_groupHere_30 : decode cX12_groupHere 30 = .ok (.iconst 0, 1) := by decide +kernel
theorem dX12_groupHere_31 : decode cX12_groupHere 31 = .ok (.istore_n 1, 1) := by decide +kernel
theorem dX12_groupHere_32 : decode cX12_groupHere 32 = .ok (.aload_n 0, 1) := by decide +kernel
theorem dX12_groupHere_33 : decode cX12_groupHere 33 = .ok (.getfield 162, 3) := by decide +kernel
theorem dX12_groupHere_36 : decode cX12_groupHere 36 = .ok (.istore_n 2, 1) := by decide +kernel
theorem dX12_groupHere_37 : decode cX12_groupHere 37 = .ok (.iload_n 2, 1) := by decide +kernel
theorem dX12_groupHere_38 : decode cX12_groupHere 38 = .ok (.aload_n 0, 1) := by decide +kernel
theorem dX12_groupHere_39 : decode cX12_groupHere 39 = .ok (.getfield 159, 3) := by decide +kernel
theorem dX12_groupHere_42 : decode cX12_groupHere 42 = .ok (.if_icmp .ge 45, 3) := by decide +kernel
theorem dX12_groupHere_45 : decode cX12_groupHere 45 = .ok (.aload_n 0, 1) := by decide +kernel
theorem dX12_groupHere_46 : decode cX12_groupHere 46 = .ok (.getfield 15, 3) := by decide +kernel
theorem dX12_groupHere_49 : decode cX12_groupHere 49 = .ok (.iconst 1, 1) := by decide +kernel
theorem dX12_groupHere_50 : decode cX12_groupHere 50 = .ok (.aaload, 1) := by decide +kernel
theorem dX12_groupHere_51 : decode cX12_groupHere 51 = .ok (.aload_n 0, 1) := by decide +kernel
theorem dX12_groupHere_52 : decode cX12_groupHere 52 = .ok (.getfield 9, 3) := by decide +kernel
theorem dX12_groupHere_55 : decode cX12_groupHere 55 = .ok (.iload_n 2, 1) := by decide +kernel
theorem dX12_groupHere_56 : decode cX12_groupHere 56 = .ok (.baload, 1) := by decide +kernel
theorem dX12_groupHere_57 : decode cX12_groupHere 57 = .ok (.bipush 97, 2) := by decide +kernel
theorem dX12_groupHere_59 : decode cX12_groupHere 59 = .ok (.isub, 1) := by decide +kernel
theorem dX12_groupHere_60 : decode cX12_groupHere 60 = .ok (.iaload, 1) := by decide +kernel
theorem dX12_groupHere_61 : decode cX12_groupHere 61 = .ok (.ifCond .ne 5, 3) := by decide +kernel
theorem dX12_groupHere_64 : decode cX12_groupHere 64 = .ok (.iconst (-1), 1) := by decide +kernel
theorem dX12_groupHere_65 : decode cX12_groupHere 65 = .ok (.ireturn, 1) := by decide +kernel
theorem dX12_groupHere_66 : decode cX12_groupHere 66 = .ok (.bipush 26, 2) := by decide +kernel
theorem dX12_groupHere_68 : decode cX12_groupHere 68 = .ok (.iload_n 1, 1) := by decide +kernel
theorem dX12_groupHere_69 : decode cX12_groupHere 69 = .ok (.imul, 1) := by decide +kernel
theorem dX12_groupHere_70 : decode cX12_groupHere 70 = .ok (.aload_n 0, 1) := by decide +kernel
theorem dX12_groupHere_71 : decode cX12_groupHere 71 = .ok (.getfield 9, 3) := by decide +kernel
theorem dX12_groupHere_74 : decode cX12_groupHere 74 = .ok (.iload_n 2, 1) := by decide +kernel
theorem dX12_groupHere_75 : decode cX12_groupHere 75 = .ok (.baload, 1) := by decide +kernel
theorem dX12_groupHere_76 : decode cX12_groupHere 76 = .ok (.iadd, 1) := by decide +kernel
theorem dX12_groupHere_77 : decode cX12_groupHere 77 = .ok (.bipush 97, 2) := by decide +kernel
theorem dX12_groupHere_79 : decode cX12_groupHere 79 = .ok (.isub, 1) := by decide +kernel
theorem dX12_groupHere_80 : decode cX12_groupHere 80 = .ok (.istore_n 1, 1) := by decide +kernel
theorem dX12_groupHere_81 : decode cX12_groupHere 81 = .ok (.iinc 2 1, 3) := by decide +kernel
theorem dX12_groupHere_84 : decode cX12_groupHere 84 = .ok (.goto (-47), 3) := by decide +kernel
theorem dX12_groupHere_87 : decode cX12_groupHere 87 = .ok (.iconst 0, 1) := by decide +kernel
theorem dX12_groupHere_88 : decode cX12_groupHere 88 = .ok (.istore_n 2, 1) := by decide +kernel
theorem dX12_groupHere_89 : decode cX12_groupHere 89 = .ok (.iload_n 2, 1) := by decide +kernel
theorem dX12_groupHere_90 : decode cX12_groupHere 90 = .ok (.aload_n 0, 1) := by decide +kernel
theorem dX12_groupHere_91 : decode cX12_groupHere 91 = .ok (.getfield 30, 3) := by decide +kernel
theorem dX12_groupHere_94 : decode cX12_groupHere 94 = .ok (.iconst 1, 1) := by decide +kernel
theorem dX12_groupHere_95 : decode cX12_groupHere 95 = .ok (.iaload, 1) := by decide +kernel
theorem dX12_groupHere_96 : decode cX12_groupHere 96 = .ok (.if_icmp .ge 23, 3) := by decide +kernel
theorem dX12_groupHere_99 : decode cX12_groupHere 99 = .ok (.aload_n 0, 1) := by decide +kernel
theorem dX12_groupHere_100 : decode cX12_groupHere 100 = .ok (.getfield 18, 3) := by decide +kernel
theorem dX12_groupHere_103 : decode cX12_groupHere 103 = .ok (.iconst 1, 1) := by decide +kernel
theorem dX12_groupHere_104 : decode cX12_groupHere 104 = .ok (.aaload, 1) := by decide +kernel
theorem dX12_groupHere_105 : decode cX12_groupHere 105 = .ok (.iload_n 2, 1) := by decide +kernel
theorem dX12_groupHere_106 : decode cX12_groupHere 106 = .ok (.iaload, 1) := by decide +kernel
theorem dX12_groupHere_107 : decode cX12_groupHere 107 = .ok (.iload_n 1, 1) := by decide +kernel
theorem dX12_groupHere_108 : decode cX12_groupHere 108 = .ok (.if_icmp .ne 5, 3) := by decide +kernel
theorem dX12_groupHere_111 : decode cX12_groupHere 111 = .ok (.iconst (-1), 1) := by decide +kernel
theorem dX12_groupHere_112 : decode cX12_groupHere 112 = .ok (.ireturn, 1) := by decide +kernel
theorem dX12_groupHere_113 : decode cX12_groupHere 113 = .ok (.iinc 2 1, 3) := by decide +kernel
theorem dX12_groupHere_116 : decode cX12_groupHere 116 = .ok (.goto (-27), 3) := by decide +kernel
theorem dX12_groupHere_119 : decode cX12_groupHere 119 = .ok (.iload_n 1, 1) := by decide +kernel
theorem dX12_groupHere_120 : decode cX12_groupHere 120 = .ok (.ireturn, 1) := by decide +kernel
theorem dX12_wordRead_0 : decode cX12_wordRead 0 = .ok (.aload_n 0, 1) := by decide +kernel
theorem dX12_wordRead_1 : decode cX12_wordRead 1 = .ok (.getfield 30, 3) := by decide +kernel
theorem dX12_wordRead_4 : decode cX12_wordRead 4 = .ok (.iconst 1, 1) := by decide +kernel
theorem dX12_wordRead_5 : decode cX12_wordRead 5 = .ok (.iaload, 1) := by decide +kernel
theorem dX12_wordRead_6 : decode cX12_wordRead 6 = .ok (.istore_n 1, 1) := by decide +kernel
theorem dX12_wordRead_7 : decode cX12_wordRead 7 = .ok (.aload_n 0, 1) := by decide +kernel
theorem dX12_wordRead_8 : decode cX12_wordRead 8 = .ok (.invokevirtual 204, 3) := by decide +kernel
theorem dX12_wordRead_11 : decode cX12_wordRead 11 = .ok (.lstore_n 2, 1) := by decide +kernel
theorem dX12_wordRead_12 : decode cX12_wordRead 12 = .ok (.aload_n 0, 1) := by decide +kernel
theorem dX12_wordRead_13 : decode cX12_wordRead 13 = .ok (.lload_n 2, 1) := by decide +kernel
theorem dX12_wordRead_14 : decode cX12_wordRead 14 = .ok (.ldc2_w 194, 3) := by decide +kernel
theorem dX12_wordRead_17 : decode cX12_wordRead 17 = .ok (.lcmp, 1) := by decide +kernel
theorem dX12_wordRead_18 : decode cX12_wordRead 18 = .ok (.ifCond .eq 7, 3) := by decide +kernel
theorem dX12_wordRead_21 : decode cX12_wordRead 21 = .ok (.iconst 1, 1) := by decide +kernel
theorem dX12_wordRead_22 : decode cX12_wordRead 22 = .ok (.goto 4, 3) := by decide +kernel
theorem dX12_wordRead_25 : decode cX12_wordRead 25 = .ok (.iconst 0, 1) := by decide +kernel
theorem dX12_wordRead_26 : decode cX12_wordRead 26 = .ok (.invokevirtual 183, 3) := by decide +kernel
theorem dX12_wordRead_29 : decode cX12_wordRead 29 = .ok (.ifCond .eq 15, 3) := by decide +kernel
theorem dX12_wordRead_32 : decode cX12_wordRead 32 = .ok (.aload_n 0, 1) := by decide +kernel
theorem dX12_wordRead_33 : decode cX12_wordRead 33 = .ok (.aload_n 0, 1) := by decide +kernel
theorem dX12_wordRead_34 : decode cX12_wordRead 34 = .ok (.iconst 2, 1) := by decide +kernel
theorem dX12_wordRead_35 : decode cX12_wordRead 35 = .ok (.invokevirtual 196, 3) := by decide +kernel
theorem dX12_wordRead_38 : decode cX12_wordRead 38 = .ok (.invokevirtual 183, 3) := by decide +kernel
theorem dX12_wordRead_41 : decode cX12_wordRead 41 = .ok (.ifCond .ne 5, 3) := by decide +kernel
theorem dX12_wordRead_44 : decode cX12_wordRead 44 = .ok (.iconst 0, 1) := by decide +kernel
theorem dX12_wordRead_45 : decode cX12_wordRead 45 = .ok (.ireturn, 1) := by decide +kernel
theorem dX12_wordRead_46 : decode cX12_wordRead 46 = .ok (.aload_n 0, 1) := by decide +kernel
theorem dX12_wordRead_47 : decode cX12_wordRead 47 = .ok (.invokevirtual 208, 3) := by decide +kernel
theorem dX12_wordRead_50 : decode cX12_wordRead 50 = .ok (.istore 4, 2) := by decide +kernel
theorem dX12_wordRead_52 : decode cX12_wordRead 52 = .ok (.aload_n 0, 1) := by decide +kernel
theorem dX12_wordRead_53 : decode cX12_wordRead 53 = .ok (.iload 4, 2) := by decide +kernel
theorem dX12_wordRead_55 : decode cX12_wordRead 55 = .ok (.iconst (-1), 1) := by decide +kernel
theorem dX12_wordRead_56 : decode cX12_wordRead 56 = .ok (.if_icmp .eq 7, 3) := by decide +kernel
theorem dX12_wordRead_59 : decode cX12_wordRead 59 = .ok (.iconst 1, 1) := by decide +kernel
theorem dX12_wordRead_60 : decode cX12_wordRead 60 = .ok (.goto 4, 3) := by decide +kernel
theorem dX12_wordRead_63 : decode cX12_wordRead 63 = .ok (.iconst 0, 1) := by decide +kernel
theorem dX12_wordRead_64 : decode cX12_wordRead 64 = .ok (.invokevirtual 183, 3) := by decide +kernel
theorem dX12_wordRead_67 : decode cX12_wordRead 67 = .ok (.ifCond .ne 5, 3) := by decide +kernel
theorem dX12_wordRead_70 : decode cX12_wordRead 70 = .ok (.iconst 0, 1) := by decide +kernel
theorem dX12_wordRead_71 : decode cX12_wordRead 71 = .ok (.ireturn, 1) := by decide +kernel
theorem dX12_wordRead_72 : decode cX12_wordRead 72 = .ok (.aload_n 0, 1) := by decide +kernel
theorem dX12_wordRead_73 : decode cX12_wordRead 73 = .ok (.getfield 23, 3) := by decide +kernel
theorem dX12_wordRead_76 : decode cX12_wordRead 76 = .ok (.iconst 1, 1) := by decide +kernel
theorem dX12_wordRead_77 : decode cX12_wordRead 77 = .ok (.aaload, 1) := by decide +kernel
theorem dX12_wordRead_78 : decode cX12_wordRead 78 = .ok (.iload_n 1, 1) := by decide +kernel
theorem dX12_wordRead_79 : decode cX12_wordRead 79 = .ok (.lload_n 2, 1) := by decide +kernel
theorem dX12_wordRead_80 : decode cX12_wordRead 80 = .ok (.lastore, 1) := by decide +kernel
theorem dX12_wordRead_81 : decode cX12_wordRead 81 = .ok (.aload_n 0, 1) := by decide +kernel
theorem dX12_wordRead_82 : decode cX12_wordRead 82 = .ok (.getfield 18, 3) := by decide +kernel
theorem dX12_wordRead_85 : decode cX12_wordRead 85 = .ok (.iconst 1, 1) := by decide +kernel
theorem dX12_wordRead_86 : decode cX12_wordRead 86 = .ok (.aaload, 1) := by decide +kernel
theorem dX12_wordRead_87 : decode cX12_wordRead 87 = .ok (.iload_n 1, 1) := by decide +kernel
theorem dX12_wordRead_88 : decode cX12_wordRead 88 = .ok (.iload 4, 2) := by decide +kernel
theorem dX12_wordRead_90 : decode cX12_wordRead 90 = .ok (.iastore, 1) := by decide +kernel
theorem dX12_wordRead_91 : decode cX12_wordRead 91 = .ok (.aload_n 0, 1) := by decide +kernel
theorem dX12_wordRead_92 : decode cX12_wordRead 92 = .ok (.getfield 30, 3) := by decide +kernel
theorem dX12_wordRead_95 : decode cX12_wordRead 95 = .ok (.iconst 1, 1) := by decide +kernel
theorem dX12_wordRead_96 : decode cX12_wordRead 96 = .ok (.dup2, 1) := by decide +kernel
theorem dX12_wordRead_97 : decode cX12_wordRead 97 = .ok (.iaload, 1) := by decide +kernel
theorem dX12_wordRead_98 : decode cX12_wordRead 98 = .ok (.iconst 1, 1) := by decide +kernel
theorem dX12_wordRead_99 : decode cX12_wordRead 99 = .ok (.iadd, 1) := by decide +kernel
theorem dX12_wordRead_100 : decode cX12_wordRead 100 = .ok (.iastore, 1) := by decide +kernel
theorem dX12_wordRead_101 : decode cX12_wordRead 101 = .ok (.aload_n 0, 1) := by decide +kernel
theorem dX12_wordRead_102 : decode cX12_wordRead 102 = .ok (.invokevirtual 190, 3) := by decide +kernel
theorem dX12_wordRead_105 : decode cX12_wordRead 105 = .ok (.ireturn, 1) := by decide +kernel
theorem dX12_reads_0 : decode cX12_reads 0 = .ok (.aload_n 0, 1) := by decide +kernel
theorem dX12_reads_1 : decode cX12_reads 1 = .ok (.iconst (-1), 1) := by decide +kernel
theorem dX12_reads_2 : decode cX12_reads 2 = .ok (.putfield 169, 3) := by decide +kernel
theorem dX12_reads_5 : decode cX12_reads 5 = .ok (.aload_n 0, 1) := by decide +kernel
theorem dX12_reads_6 : decode cX12_reads 6 = .ok (.getfield 26, 3) := by decide +kernel
theorem dX12_reads_9 : decode cX12_reads 9 = .ok (.iconst 1, 1) := by decide +kernel
theorem dX12_reads_10 : decode cX12_reads 10 = .ok (.iconst 0, 1) := by decide +kernel
theorem dX12_reads_11 : decode cX12_reads 11 = .ok (.iastore, 1) := by decide +kernel
theorem dX12_reads_12 : decode cX12_reads 12 = .ok (.aload_n 0, 1) := by decide +kernel
theorem dX12_reads_13 : decode cX12_reads 13 = .ok (.getfield 30, 3) := by decide +kernel
theorem dX12_reads_16 : decode cX12_reads 16 = .ok (.iconst 1, 1) := by decide +kernel
theorem dX12_reads_17 : decode cX12_reads 17 = .ok (.iconst 0, 1) := by decide +kernel
theorem dX12_reads_18 : decode cX12_reads 18 = .ok (.iastore, 1) := by decide +kernel
theorem dX12_reads_19 : decode cX12_reads 19 = .ok (.iconst 0, 1) := by decide +kernel
theorem dX12_reads_20 : decode cX12_reads 20 = .ok (.istore_n 1, 1) := by decide +kernel
theorem dX12_reads_21 : decode cX12_reads 21 = .ok (.iload_n 1, 1) := by decide +kernel
theorem dX12_reads_22 : decode cX12_reads 22 = .ok (.bipush 26, 2) := by decide +kernel
theorem dX12_reads_24 : decode cX12_reads 24 = .ok (.if_icmp .ge 18, 3) := by decide +kernel
theorem dX12_reads_27 : decode cX12_reads 27 = .ok (.aload_n 0, 1) := by decide +kernel
theorem dX12_reads_28 : decode cX12_reads 28 = .ok (.getfield 15, 3) := by decide +kernel
theorem dX12_reads_31 : decode cX12_reads 31 = .ok (.iconst 1, 1) := by decide +kernel
theorem dX12_reads_32 : decode cX12_reads 32 = .ok (.aaload, 1) := by decide +kernel
theorem dX12_reads_33 : decode cX12_reads 33 = .ok (.iload_n 1, 1) := by decide +kernel
theorem dX12_reads_34 : decode cX12_reads 34 = .ok (.iconst 0, 1) := by decide +kernel
theorem dX12_reads_35 : decode cX12_reads 35 = .ok (.iastore, 1) := by decide +kernel
theorem dX12_reads_36 : decode cX12_reads 36 = .ok (.iinc 1 1, 3) := by decide +kernel
theorem dX12_reads_39 : decode cX12_reads 39 = .ok (.goto (-18), 3) := by decide +kernel
theorem dX12_reads_42 : decode cX12_reads 42 = .ok (.aload_n 0, 1) := by decide +kernel
theorem dX12_reads_43 : decode cX12_reads 43 = .ok (.iconst 0, 1) := by decide +kernel
theorem dX12_reads_44 : decode cX12_reads 44 = .ok (.putfield 159, 3) := by decide +kernel
theorem dX12_reads_47 : decode cX12_reads 47 = .ok (.aload_n 0, 1) := by decide +kernel
theorem dX12_reads_48 : decode cX12_reads 48 = .ok (.invokevirtual 172, 3) := by decide +kernel
theorem dX12_reads_51 : decode cX12_reads 51 = .ok (.aload_n 0, 1) := by decide +kernel
theorem dX12_reads_52 : decode cX12_reads 52 = .ok (.getfield 162, 3) := by decide +kernel
theorem dX12_reads_55 : decode cX12_reads 55 = .ok (.aload_n 0, 1) := by decide +kernel
theorem dX12_reads_56 : decode cX12_reads 56 = .ok (.getfield 147, 3) := by decide +kernel
theorem dX12_reads_59 : decode cX12_reads 59 = .ok (.if_icmp .ne 12, 3) := by decide +kernel
theorem dX12_reads_62 : decode cX12_reads 62 = .ok (.aload_n 0, 1) := by decide +kernel
theorem dX12_reads_63 : decode cX12_reads 63 = .ok (.aload_n 0, 1) := by decide +kernel
theorem dX12_reads_64 : decode cX12_reads 64 = .ok (.getfield 147, 3) := by decide +kernel
theorem dX12_reads_67 : decode cX12_reads 67 = .ok (.putfield 169, 3) := by decide +kernel
theorem dX12_reads_70 : decode cX12_reads 70 = .ok (.return_, 1) := by decide +kernel
theorem dX12_reads_71 : decode cX12_reads 71 = .ok (.iconst 1, 1) := by decide +kernel
theorem dX12_reads_72 : decode cX12_reads 72 = .ok (.istore_n 1, 1) := by decide +kernel
theorem dX12_reads_73 : decode cX12_reads 73 = .ok (.iload_n 1, 1) := by decide +kernel
theorem dX12_reads_74 : decode cX12_reads 74 = .ok (.ifCond .eq 93, 3) := by decide +kernel
theorem dX12_reads_77 : decode cX12_reads 77 = .ok (.aload_n 0, 1) := by decide +kernel
theorem dX12_reads_78 : decode cX12_reads 78 = .ok (.getfield 162, 3) := by decide +kernel
theorem dX12_reads_81 : decode cX12_reads 81 = .ok (.aload_n 0, 1) := by decide +kernel
theorem dX12_reads_82 : decode cX12_reads 82 = .ok (.getfield 147, 3) := by decide +kernel
theorem dX12_reads_85 : decode cX12_reads 85 = .ok (.if_icmp .ge 82, 3) := by decide +kernel
theorem dX12_reads_88 : decode cX12_reads 88 = .ok (.aload_n 0, 1) := by decide +kernel
theorem dX12_reads_89 : decode cX12_reads 89 = .ok (.iconst 0, 1) := by decide +kernel
theorem dX12_reads_90 : decode cX12_reads 90 = .ok (.invokevirtual 196, 3) := by decide +kernel
theorem dX12_reads_93 : decode cX12_reads 93 = .ok (.ifCond .eq 27, 3) := by decide +kernel
theorem dX12_reads_96 : decode cX12_reads 96 = .ok (.aload_n 0, 1) := by decide +kernel
theorem dX12_reads_97 : decode cX12_reads 97 = .ok (.iconst 1, 1) := by decide +kernel
theorem dX12_reads_98 : decode cX12_reads 98 = .ok (.invokevirtual 183, 3) := by decide +kernel
theorem dX12_reads_101 : decode cX12_reads 101 = .ok (.ifCond .eq 14, 3) := by decide +kernel
theorem dX12_reads_104 : decode cX12_reads 104 = .ok (.aload_n 0, 1) := by decide +kernel
theorem dX12_reads_105 : decode cX12_reads 105 = .ok (.invokevirtual 211, 3) := by decide +kernel
theorem dX12_reads_108 : decode cX12_reads 108 = .ok (.ifCond .eq 7, 3) := by decide +kernel
theorem dX12_reads_111 : decode cX12_reads 111 = .ok (.iconst 1, 1) := by decide +kernel
theorem dX12_reads_112 : decode cX12_reads 112 = .ok (.goto 4, 3) := by decide +kernel
theorem dX12_reads_115 : decode cX12_reads 115 = .ok (.iconst 0, 1) := by decide +kernel
theorem dX12_reads_116 : decode cX12_reads 116 = .ok (.istore_n 1, 1) := by decide +kernel
theorem dX12_reads_117 : decode cX12_reads 117 = .ok (.goto (-44), 3) := by decide +kernel
theorem dX12_reads_120 : decode cX12_reads 120 = .ok (.aload_n 0, 1) := by decide +kernel
theorem dX12_reads_121 : decode cX12_reads 121 = .ok (.aload_n 0, 1) := by decide +kernel
theorem dX12_reads_122 : decode cX12_reads 122 = .ok (.iconst 1, 1) := by decide +kernel
theorem dX12_reads_123 : decode cX12_reads 123 = .ok (.invokevirtual 196, 3) := by decide +kernel
theorem dX12_reads_126 : decode cX12_reads 126 = .ok (.ifCond .eq 18, 3) := by decide +kernel
theorem dX12_reads_129 : decode cX12_reads 129 = .ok (.aload_n 0, 1) := by decide +kernel
theorem dX12_reads_130 : decode cX12_reads 130 = .ok (.getfield 30, 3) := by decide +kernel
theorem dX12_reads_133 : decode cX12_reads 133 = .ok (.iconst 1, 1) := by decide +kernel
theorem dX12_reads_134 : decode cX12_reads 134 = .ok (.iaload, 1) := by decide +kernel
theorem dX12_reads_135 : decode cX12_reads 135 = .ok (.bipush 20, 2) := by decide +kernel
theorem dX12_reads_137 : decode cX12_reads 137 = .ok (.if_icmp .ge 7, 3) := by decide +kernel
theorem dX12_reads_140 : decode cX12_reads 140 = .ok (.iconst 1, 1) := by decide +kernel
theorem dX12_reads_141 : decode cX12_reads 141 = .ok (.goto 4, 3) := by decide +kernel
theorem dX12_reads_144 : decode cX12_reads 144 = .ok (.iconst 0, 1) := by decide +kernel
theorem dX12_reads_145 : decode cX12_reads 145 = .ok (.invokevirtual 183, 3) := by decide +kernel
theorem dX12_reads_148 : decode cX12_reads 148 = .ok (.ifCond .eq 14, 3) := by decide +kernel
theorem dX12_reads_151 : decode cX12_reads 151 = .ok (.aload_n 0, 1) := by decide +kernel
theorem dX12_reads_152 : decode cX12_reads 152 = .ok (.invokevirtual 214, 3) := by decide +kernel
theorem dX12_reads_155 : decode cX12_reads 155 = .ok (.ifCond .eq 7, 3) := by decide +kernel
theorem dX12_reads_158 : decode cX12_reads 158 = .ok (.iconst 1, 1) := by decide +kernel
theorem dX12_reads_159 : decode cX12_reads 159 = .ok (.goto 4, 3) := by decide +kernel
theorem dX12_reads_162 : decode cX12_reads 162 = .ok (.iconst 0, 1) := by decide +kernel
theorem dX12_reads_163 : decode cX12_reads 163 = .ok (.istore_n 1, 1) := by decide +kernel
theorem dX12_reads_164 : decode cX12_reads 164 = .ok (.goto (-91), 3) := by decide +kernel
theorem dX12_reads_167 : decode cX12_reads 167 = .ok (.return_, 1) := by decide +kernel
theorem dX12_fault_0 : decode cX12_fault 0 = .ok (.aload_n 0, 1) := by decide +kernel
theorem dX12_fault_1 : decode cX12_fault 1 = .ok (.invokevirtual 217, 3) := by decide +kernel
theorem dX12_fault_4 : decode cX12_fault 4 = .ok (.aload_n 0, 1) := by decide +kernel
theorem dX12_fault_5 : decode cX12_fault 5 = .ok (.getfield 169, 3) := by decide +kernel
theorem dX12_fault_8 : decode cX12_fault 8 = .ok (.ireturn, 1) := by decide +kernel
theorem dX12_code_0 : decode cX12_code 0 = .ok (.aload_n 0, 1) := by decide +kernel
theorem dX12_code_1 : decode cX12_code 1 = .ok (.invokevirtual 217, 3) := by decide +kernel
theorem dX12_code_4 : decode cX12_code 4 = .ok (.aload_n 0, 1) := by decide +kernel
theorem dX12_code_5 : decode cX12_code 5 = .ok (.getfield 169, 3) := by decide +kernel
theorem dX12_code_8 : decode cX12_code 8 = .ok (.iconst (-1), 1) := by decide +kernel
theorem dX12_code_9 : decode cX12_code 9 = .ok (.if_icmp .eq 5, 3) := by decide +kernel
theorem dX12_code_12 : decode cX12_code 12 = .ok (.iconst (-1), 1) := by decide +kernel
theorem dX12_code_13 : decode cX12_code 13 = .ok (.ireturn, 1) := by decide +kernel
theorem dX12_code_14 : decode cX12_code 14 = .ok (.iconst 0, 1) := by decide +kernel
theorem dX12_code_15 : decode cX12_code 15 = .ok (.istore_n 1, 1) := by decide +kernel
theorem dX12_code_16 : decode cX12_code 16 = .ok (.iload_n 1, 1) := by decide +kernel
theorem dX12_code_17 : decode cX12_code 17 = .ok (.bipush 26, 2) := by decide +kernel
theorem dX12_code_19 : decode cX12_code 19 = .ok (.if_icmp .ge 25, 3) := by decide +kernel
theorem dX12_code_22 : decode cX12_code 22 = .ok (.aload_n 0, 1) := by decide +kernel
theorem dX12_code_23 : decode cX12_code 23 = .ok (.getfield 15, 3) := by decide +kernel
theorem dX12_code_26 : decode cX12_code 26 = .ok (.iconst 0, 1) := by decide +kernel
theorem dX12_code_27 : decode cX12_code 27 = .ok (.aaload, 1) := by decide +kernel
theorem dX12_code_28 : decode cX12_code 28 = .ok (.iload_n 1, 1) := by decide +kernel
theorem dX12_code_29 : decode cX12_code 29 = .ok (.aload_n 0, 1) := by decide +kernel
theorem dX12_code_30 : decode cX12_code 30 = .ok (.getfield 15, 3) := by decide +kernel
theorem dX12_code_33 : decode cX12_code 33 = .ok (.iconst 1, 1) := by decide +kernel
theorem dX12_code_34 : decode cX12_code 34 = .ok (.aaload, 1) := by decide +kernel
theorem dX12_code_35 : decode cX12_code 35 = .ok (.iload_n 1, 1) := by decide +kernel
theorem dX12_code_36 : decode cX12_code 36 = .ok (.iaload, 1) := by decide +kernel
theorem dX12_code_37 : decode cX12_code 37 = .ok (.iastore, 1) := by decide +kernel
theorem dX12_code_38 : decode cX12_code 38 = .ok (.iinc 1 1, 3) := by decide +kernel
theorem dX12_code_41 : decode cX12_code 41 = .ok (.goto (-25), 3) := by decide +kernel
theorem dX12_code_44 : decode cX12_code 44 = .ok (.iconst 0, 1) := by decide +kernel
theorem dX12_code_45 : decode cX12_code 45 = .ok (.istore_n 1, 1) := by decide +kernel
theorem dX12_code_46 : decode cX12_code 46 = .ok (.iload_n 1, 1) := by decide +kernel
theorem dX12_code_47 : decode cX12_code 47 = .ok (.bipush 20, 2) := by decide +kernel
theorem dX12_code_49 : decode cX12_code 49 = .ok (.if_icmp .ge 25, 3) := by decide +kernel
theorem dX12_code_52 : decode cX12_code 52 = .ok (.aload_n 0, 1) := by decide +kernel
theorem dX12_code_53 : decode cX12_code 53 = .ok (.getfield 18, 3) := by decide +kernel
theorem dX12_code_56 : decode cX12_code 56 = .ok (.iconst 0, 1) := by decide +kernel
theorem dX12_code_57 : decode cX12_code 57 = .ok (.aaload, 1) := by decide +kernel
theorem dX12_code_58 : decode cX12_code 58 = .ok (.iload_n 1, 1) := by decide +kernel
theorem dX12_code_59 : decode cX12_code 59 = .ok (.aload_n 0, 1) := by decide +kernel
theorem dX12_code_60 : decode cX12_code 60 = .ok (.getfield 18, 3) := by decide +kernel
theorem dX12_code_63 : decode cX12_code 63 = .ok (.iconst 1, 1) := by decide +kernel
theorem dX12_code_64 : decode cX12_code 64 = .ok (.aaload, 1) := by decide +kernel
theorem dX12_code_65 : decode cX12_code 65 = .ok (.iload_n 1, 1) := by decide +kernel
theorem dX12_code_66 : decode cX12_code 66 = .ok (.iaload, 1) := by decide +kernel
theorem dX12_code_67 : decode cX12_code 67 = .ok (.iastore, 1) := by decide +kernel
theorem dX12_code_68 : decode cX12_code 68 = .ok (.iinc 1 1, 3) := by decide +kernel
theorem dX12_code_71 : decode cX12_code 71 = .ok (.goto (-25), 3) := by decide +kernel
theorem dX12_code_74 : decode cX12_code 74 = .ok (.aload_n 0, 1) := by decide +kernel
theorem dX12_code_75 : decode cX12_code 75 = .ok (.getfield 26, 3) := by decide +kernel
theorem dX12_code_78 : decode cX12_code 78 = .ok (.iconst 0, 1) := by decide +kernel
theorem dX12_code_79 : decode cX12_code 79 = .ok (.aload_n 0, 1) := by decide +kernel
theorem dX12_code_80 : decode cX12_code 80 = .ok (.getfield 26, 3) := by decide +kernel
theorem dX12_code_83 : decode cX12_code 83 = .ok (.iconst 1, 1) := by decide +kernel
theorem dX12_code_84 : decode cX12_code 84 = .ok (.iaload, 1) := by decide +kernel
theorem dX12_code_85 : decode cX12_code 85 = .ok (.iastore, 1) := by decide +kernel
theorem dX12_code_86 : decode cX12_code 86 = .ok (.aload_n 0, 1) := by decide +kernel
theorem dX12_code_87 : decode cX12_code 87 = .ok (.getfield 30, 3) := by decide +kernel
theorem dX12_code_90 : decode cX12_code 90 = .ok (.iconst 0, 1) := by decide +kernel
theorem dX12_code_91 : decode cX12_code 91 = .ok (.aload_n 0, 1) := by decide +kernel
theorem dX12_code_92 : decode cX12_code 92 = .ok (.getfield 30, 3) := by decide +kernel
theorem dX12_code_95 : decode cX12_code 95 = .ok (.iconst 1, 1) := by decide +kernel
theorem dX12_code_96 : decode cX12_code 96 = .ok (.iaload, 1) := by decide +kernel
theorem dX12_code_97 : decode cX12_code 97 = .ok (.iastore, 1) := by decide +kernel
theorem dX12_code_98 : decode cX12_code 98 = .ok (.aload_n 0, 1) := by decide +kernel
theorem dX12_code_99 : decode cX12_code 99 = .ok (.iconst 0, 1) := by decide +kernel
theorem dX12_code_100 : decode cX12_code 100 = .ok (.putfield 147, 3) := by decide +kernel
theorem dX12_code_103 : decode cX12_code 103 = .ok (.aload_n 0, 1) := by decide +kernel
theorem dX12_code_104 : decode cX12_code 104 = .ok (.getfield 30, 3) := by decide +kernel
theorem dX12_code_107 : decode cX12_code 107 = .ok (.iconst 0, 1) := by decide +kernel
theorem dX12_code_108 : decode cX12_code 108 = .ok (.iaload, 1) := by decide +kernel
theorem dX12_code_109 : decode cX12_code 109 = .ok (.ireturn, 1) := by decide +kernel
theorem dX12_marks_0 : decode cX12_marks 0 = .ok (.iload_n 1, 1) := by decide +kernel
theorem dX12_marks_1 : decode cX12_marks 1 = .ok (.i2l, 1) := by decide +kernel
theorem dX12_marks_2 : decode cX12_marks 2 = .ok (.lconst 0, 1) := by decide +kernel
theorem dX12_marks_3 : decode cX12_marks 3 = .ok (.ldc2_w 220, 3) := by decide +kernel
theorem dX12_marks_6 : decode cX12_marks 6 = .ok (.invokestatic 155, 3) := by decide +kernel
theorem dX12_marks_9 : decode cX12_marks 9 = .ok (.ifCond .eq 25, 3) := by decide +kernel
theorem dX12_marks_12 : decode cX12_marks 12 = .ok (.aload_n 0, 1) := by decide +kernel
theorem dX12_marks_13 : decode cX12_marks 13 = .ok (.getfield 15, 3) := by decide +kernel
theorem dX12_marks_16 : decode cX12_marks 16 = .ok (.iconst 0, 1) := by decide +kernel
theorem dX12_marks_17 : decode cX12_marks 17 = .ok (.aaload, 1) := by decide +kernel
theorem dX12_marks_18 : decode cX12_marks 18 = .ok (.iload_n 1, 1) := by decide +kernel
theorem dX12_marks_19 : decode cX12_marks 19 = .ok (.iaload, 1) := by decide +kernel
theorem dX12_marks_20 : decode cX12_marks 20 = .ok (.ifCond .le 14, 3) := by decide +kernel
theorem dX12_marks_23 : decode cX12_marks 23 = .ok (.aload_n 0, 1) := by decide +kernel
theorem dX12_marks_24 : decode cX12_marks 24 = .ok (.getfield 15, 3) := by decide +kernel
theorem dX12_marks_27 : decode cX12_marks 27 = .ok (.iconst 0, 1) := by decide +kernel
theorem dX12_marks_28 : decode cX12_marks 28 = .ok (.aaload, 1) := by decide +kernel
theorem dX12_marks_29 : decode cX12_marks 29 = .ok (.iload_n 1, 1) := by decide +kernel
theorem dX12_marks_30 : decode cX12_marks 30 = .ok (.iaload, 1) := by decide +kernel
theorem dX12_marks_31 : decode cX12_marks 31 = .ok (.goto 4, 3) := by decide +kernel
theorem dX12_marks_34 : decode cX12_marks 34 = .ok (.iconst (-1), 1) := by decide +kernel
theorem dX12_marks_35 : decode cX12_marks 35 = .ok (.ireturn, 1) := by decide +kernel
theorem dX12_group_0 : decode cX12_group 0 = .ok (.iload_n 1, 1) := by decide +kernel
theorem dX12_group_1 : decode cX12_group 1 = .ok (.i2l, 1) := by decide +kernel
theorem dX12_group_2 : decode cX12_group 2 = .ok (.lconst 0, 1) := by decide +kernel
theorem dX12_group_3 : decode cX12_group 3 = .ok (.aload_n 0, 1) := by decide +kernel
theorem dX12_group_4 : decode cX12_group 4 = .ok (.getfield 30, 3) := by decide +kernel
theorem dX12_group_7 : decode cX12_group 7 = .ok (.iconst 0, 1) := by decide +kernel
theorem dX12_group_8 : decode cX12_group 8 = .ok (.iaload, 1) := by decide +kernel
theorem dX12_group_9 : decode cX12_group 9 = .ok (.iconst 1, 1) := by decide +kernel
theorem dX12_group_10 : decode cX12_group 10 = .ok (.isub, 1) := by decide +kernel
theorem dX12_group_11 : decode cX12_group 11 = .ok (.i2l, 1) := by decide +kernel
theorem dX12_group_12 : decode cX12_group 12 = .ok (.invokestatic 155, 3) := by decide +kernel
theorem dX12_group_15 : decode cX12_group 15 = .ok (.ifCond .eq 14, 3) := by decide +kernel
theorem dX12_group_18 : decode cX12_group 18 = .ok (.aload_n 0, 1) := by decide +kernel
theorem dX12_group_19 : decode cX12_group 19 = .ok (.getfield 18, 3) := by decide +kernel
theorem dX12_group_22 : decode cX12_group 22 = .ok (.iconst 0, 1) := by decide +kernel
theorem dX12_group_23 : decode cX12_group 23 = .ok (.aaload, 1) := by decide +kernel
theorem dX12_group_24 : decode cX12_group 24 = .ok (.iload_n 1, 1) := by decide +kernel
theorem dX12_group_25 : decode cX12_group 25 = .ok (.iaload, 1) := by decide +kernel
theorem dX12_group_26 : decode cX12_group 26 = .ok (.goto 4, 3) := by decide +kernel
theorem dX12_group_29 : decode cX12_group 29 = .ok (.iconst (-1), 1) := by decide +kernel
theorem dX12_group_30 : decode cX12_group 30 = .ok (.ireturn, 1) := by decide +kernel
theorem dX12_isSpan_0 : decode cX12_isSpan 0 = .ok (.iload_n 0, 1) := by decide +kernel
theorem dX12_isSpan_1 : decode cX12_isSpan 1 = .ok (.i2l, 1) := by decide +kernel
theorem dX12_isSpan_2 : decode cX12_isSpan 2 = .ok (.lconst 0, 1) := by decide +kernel
theorem dX12_isSpan_3 : decode cX12_isSpan 3 = .ok (.ldc2_w 222, 3) := by decide +kernel
theorem dX12_isSpan_6 : decode cX12_isSpan 6 = .ok (.invokestatic 155, 3) := by decide +kernel
theorem dX12_isSpan_9 : decode cX12_isSpan 9 = .ok (.ifCond .eq 40, 3) := by decide +kernel
theorem dX12_isSpan_12 : decode cX12_isSpan 12 = .ok (.iload_n 0, 1) := by decide +kernel
theorem dX12_isSpan_13 : decode cX12_isSpan 13 = .ok (.sipush 1000, 3) := by decide +kernel
theorem dX12_isSpan_16 : decode cX12_isSpan 16 = .ok (.idiv, 1) := by decide +kernel
theorem dX12_isSpan_17 : decode cX12_isSpan 17 = .ok (.iconst 1, 1) := by decide +kernel
theorem dX12_isSpan_18 : decode cX12_isSpan 18 = .ok (.if_icmp .lt 31, 3) := by decide +kernel
theorem dX12_isSpan_21 : decode cX12_isSpan 21 = .ok (.iload_n 0, 1) := by decide +kernel
theorem dX12_isSpan_22 : decode cX12_isSpan 22 = .ok (.sipush 1000, 3) := by decide +kernel
theorem dX12_isSpan_25 : decode cX12_isSpan 25 = .ok (.irem, 1) := by decide +kernel
theorem dX12_isSpan_26 : decode cX12_isSpan 26 = .ok (.sipush 255, 3) := by decide +kernel
theorem dX12_isSpan_29 : decode cX12_isSpan 29 = .ok (.if_icmp .gt 20, 3) := by decide +kernel
theorem dX12_isSpan_32 : decode cX12_isSpan 32 = .ok (.iload_n 0, 1) := by decide +kernel
theorem dX12_isSpan_33 : decode cX12_isSpan 33 = .ok (.sipush 1000, 3) := by decide +kernel
theorem dX12_isSpan_36 : decode cX12_isSpan 36 = .ok (.irem, 1) := by decide +kernel
theorem dX12_isSpan_37 : decode cX12_isSpan 37 = .ok (.iload_n 0, 1) := by decide +kernel
theorem dX12_isSpan_38 : decode cX12_isSpan 38 = .ok (.sipush 1000, 3) := by decide +kernel
theorem dX12_isSpan_41 : decode cX12_isSpan 41 = .ok (.idiv, 1) := by decide +kernel
theorem dX12_isSpan_42 : decode cX12_isSpan 42 = .ok (.if_icmp .lt 7, 3) := by decide +kernel
theorem dX12_isSpan_45 : decode cX12_isSpan 45 = .ok (.iconst 1, 1) := by decide +kernel
theorem dX12_isSpan_46 : decode cX12_isSpan 46 = .ok (.goto 4, 3) := by decide +kernel
theorem dX12_isSpan_49 : decode cX12_isSpan 49 = .ok (.iconst 0, 1) := by decide +kernel
theorem dX12_isSpan_50 : decode cX12_isSpan 50 = .ok (.ireturn, 1) := by decide +kernel
theorem dX12_span_0 : decode cX12_span 0 = .ok (.aload_n 0, 1) := by decide +kernel
theorem dX12_span_1 : decode cX12_span 1 = .ok (.getfield 45, 3) := by decide +kernel
theorem dX12_span_4 : decode cX12_span 4 = .ok (.iconst 5, 1) := by decide +kernel
theorem dX12_span_5 : decode cX12_span 5 = .ok (.aload_n 0, 1) := by decide +kernel
theorem dX12_span_6 : decode cX12_span 6 = .ok (.getfield 224, 3) := by decide +kernel
theorem dX12_span_9 : decode cX12_span 9 = .ok (.imul, 1) := by decide +kernel
theorem dX12_span_10 : decode cX12_span 10 = .ok (.iload_n 1, 1) := by decide +kernel
theorem dX12_span_11 : decode cX12_span 11 = .ok (.iadd, 1) := by decide +kernel
theorem dX12_span_12 : decode cX12_span 12 = .ok (.iload_n 2, 1) := by decide +kernel
theorem dX12_span_13 : decode cX12_span 13 = .ok (.sipush 1000, 3) := by decide +kernel
theorem dX12_span_16 : decode cX12_span 16 = .ok (.idiv, 1) := by decide +kernel
theorem dX12_span_17 : decode cX12_span 17 = .ok (.iastore, 1) := by decide +kernel
theorem dX12_span_18 : decode cX12_span 18 = .ok (.aload_n 0, 1) := by decide +kernel
theorem dX12_span_19 : decode cX12_span 19 = .ok (.getfield 48, 3) := by decide +kernel
theorem dX12_span_22 : decode cX12_span 22 = .ok (.iconst 5, 1) := by decide +kernel
theorem dX12_span_23 : decode cX12_span 23 = .ok (.aload_n 0, 1) := by decide +kernel
theorem dX12_span_24 : decode cX12_span 24 = .ok (.getfield 224, 3) := by decide +kernel
theorem dX12_span_27 : decode cX12_span 27 = .ok (.imul, 1) := by decide +kernel
theorem dX12_span_28 : decode cX12_span 28 = .ok (.iload_n 1, 1) := by decide +kernel
theorem dX12_span_29 : decode cX12_span 29 = .ok (.iadd, 1) := by decide +kernel
theorem dX12_span_30 : decode cX12_span 30 = .ok (.iload_n 2, 1) := by decide +kernel
theorem dX12_span_31 : decode cX12_span 31 = .ok (.sipush 1000, 3) := by decide +kernel
theorem dX12_span_34 : decode cX12_span 34 = .ok (.irem, 1) := by decide +kernel
theorem dX12_span_35 : decode cX12_span 35 = .ok (.iastore, 1) := by decide +kernel
theorem dX12_span_36 : decode cX12_span 36 = .ok (.return_, 1) := by decide +kernel
theorem dX12_hand_0 : decode cX12_hand 0 = .ok (.iload_n 1, 1) := by decide +kernel
theorem dX12_hand_1 : decode cX12_hand 1 = .ok (.invokestatic 227, 3) := by decide +kernel
theorem dX12_hand_4 : decode cX12_hand 4 = .ok (.ifCond .eq 42, 3) := by decide +kernel
theorem dX12_hand_7 : decode cX12_hand 7 = .ok (.iload_n 2, 1) := by decide +kernel
theorem dX12_hand_8 : decode cX12_hand 8 = .ok (.invokestatic 227, 3) := by decide +kernel
theorem dX12_hand_11 : decode cX12_hand 11 = .ok (.ifCond .eq 35, 3) := by decide +kernel
theorem dX12_hand_14 : decode cX12_hand 14 = .ok (.iload_n 3, 1) := by decide +kernel
theorem dX12_hand_15 : decode cX12_hand 15 = .ok (.invokestatic 227, 3) := by decide +kernel
theorem dX12_hand_18 : decode cX12_hand 18 = .ok (.ifCond .eq 28, 3) := by decide +kernel
theorem dX12_hand_21 : decode cX12_hand 21 = .ok (.iload 4, 2) := by decide +kernel
theorem dX12_hand_23 : decode cX12_hand 23 = .ok (.invokestatic 227, 3) := by decide +kernel
theorem dX12_hand_26 : decode cX12_hand 26 = .ok (.ifCond .eq 20, 3) := by decide +kernel
theorem dX12_hand_29 : decode cX12_hand 29 = .ok (.iload 5, 2) := by decide +kernel
theorem dX12_hand_31 : decode cX12_hand 31 = .ok (.invokestatic 227, 3) := by decide +kernel
theorem dX12_hand_34 : decode cX12_hand 34 = .ok (.ifCond .eq 12, 3) := by decide +kernel
theorem dX12_hand_37 : decode cX12_hand 37 = .ok (.aload_n 0, 1) := by decide +kernel
theorem dX12_hand_38 : decode cX12_hand 38 = .ok (.getfield 224, 3) := by decide +kernel
theorem dX12_hand_41 : decode cX12_hand 41 = .ok (.bipush 8, 2) := by decide +kernel
theorem dX12_hand_43 : decode cX12_hand 43 = .ok (.if_icmp .ne 5, 3) := by decide +kernel
theorem dX12_hand_46 : decode cX12_hand 46 = .ok (.iconst (-1), 1) := by decide +kernel
theorem dX12_hand_47 : decode cX12_hand 47 = .ok (.ireturn, 1) := by decide +kernel
theorem dX12_hand_48 : decode cX12_hand 48 = .ok (.aload_n 0, 1) := by decide +kernel
theorem dX12_hand_49 : decode cX12_hand 49 = .ok (.iconst 0, 1) := by decide +kernel
theorem dX12_hand_50 : decode cX12_hand 50 = .ok (.iload_n 1, 1) := by decide +kernel
theorem dX12_hand_51 : decode cX12_hand 51 = .ok (.invokevirtual 230, 3) := by decide +kernel
theorem dX12_hand_54 : decode cX12_hand 54 = .ok (.aload_n 0, 1) := by decide +kernel
theorem dX12_hand_55 : decode cX12_hand 55 = .ok (.iconst 1, 1) := by decide +kernel
theorem dX12_hand_56 : decode cX12_hand 56 = .ok (.iload_n 2, 1) := by decide +kernel
theorem dX12_hand_57 : decode cX12_hand 57 = .ok (.invokevirtual 230, 3) := by decide +kernel
theorem dX12_hand_60 : decode cX12_hand 60 = .ok (.aload_n 0, 1) := by decide +kernel
theorem dX12_hand_61 : decode cX12_hand 61 = .ok (.iconst 2, 1) := by decide +kernel
theorem dX12_hand_62 : decode cX12_hand 62 = .ok (.iload_n 3, 1) := by decide +kernel
theorem dX12_hand_63 : decode cX12_hand 63 = .ok (.invokevirtual 230, 3) := by decide +kernel
theorem dX12_hand_66 : decode cX12_hand 66 = .ok (.aload_n 0, 1) := by decide +kernel
theorem dX12_hand_67 : decode cX12_hand 67 = .ok (.iconst 3, 1) := by decide +kernel
theorem dX12_hand_68 : decode cX12_hand 68 = .ok (.iload 4, 2) := by decide +kernel
theorem dX12_hand_70 : decode cX12_hand 70 = .ok (.invokevirtual 230, 3) := by decide +kernel
theorem dX12_hand_73 : decode cX12_hand 73 = .ok (.aload_n 0, 1) := by decide +kernel
theorem dX12_hand_74 : decode cX12_hand 74 = .ok (.iconst 4, 1) := by decide +kernel
theorem dX12_hand_75 : decode cX12_hand 75 = .ok (.iload 5, 2) := by decide +kernel
theorem dX12_hand_77 : decode cX12_hand 77 = .ok (.invokevirtual 230, 3) := by decide +kernel
theorem dX12_hand_80 : decode cX12_hand 80 = .ok (.aload_n 0, 1) := by decide +kernel
theorem dX12_hand_81 : decode cX12_hand 81 = .ok (.dup, 1) := by decide +kernel
theorem dX12_hand_82 : decode cX12_hand 82 = .ok (.getfield 224, 3) := by decide +kernel
theorem dX12_hand_85 : decode cX12_hand 85 = .ok (.iconst 1, 1) := by decide +kernel
theorem dX12_hand_86 : decode cX12_hand 86 = .ok (.iadd, 1) := by decide +kernel
theorem dX12_hand_87 : decode cX12_hand 87 = .ok (.putfield 224, 3) := by decide +kernel
theorem dX12_hand_90 : decode cX12_hand 90 = .ok (.aload_n 0, 1) := by decide +kernel
theorem dX12_hand_91 : decode cX12_hand 91 = .ok (.getfield 224, 3) := by decide +kernel
theorem dX12_hand_94 : decode cX12_hand 94 = .ok (.iconst 1, 1) := by decide +kernel
theorem dX12_hand_95 : decode cX12_hand 95 = .ok (.isub, 1) := by decide +kernel
theorem dX12_hand_96 : decode cX12_hand 96 = .ok (.ireturn, 1) := by decide +kernel
theorem dX12_isStation_0 : decode cX12_isStation 0 = .ok (.iload_n 0, 1) := by decide +kernel
theorem dX12_isStation_1 : decode cX12_isStation 1 = .ok (.i2l, 1) := by decide +kernel
theorem dX12_isStation_2 : decode cX12_isStation 2 = .ok (.lconst 0, 1) := by decide +kernel
theorem dX12_isStation_3 : decode cX12_isStation 3 = .ok (.ldc2_w 234, 3) := by decide +kernel
theorem dX12_isStation_6 : decode cX12_isStation 6 = .ok (.invokestatic 155, 3) := by decide +kernel
theorem dX12_isStation_9 : decode cX12_isStation 9 = .ok (.ireturn, 1) := by decide +kernel
theorem dX12_line_0 : decode cX12_line 0 = .ok (.iload_n 1, 1) := by decide +kernel
theorem dX12_line_1 : decode cX12_line 1 = .ok (.invokestatic 236, 3) := by decide +kernel
theorem dX12_line_4 : decode cX12_line 4 = .ok (.ifCond .eq 49, 3) := by decide +kernel
theorem dX12_line_7 : decode cX12_line 7 = .ok (.iload_n 2, 1) := by decide +kernel
theorem dX12_line_8 : decode cX12_line 8 = .ok (.invokestatic 236, 3) := by decide +kernel
theorem dX12_line_11 : decode cX12_line 11 = .ok (.ifCond .eq 42, 3) := by decide +kernel
theorem dX12_line_14 : decode cX12_line 14 = .ok (.iload_n 1, 1) := by decide +kernel
theorem dX12_line_15 : decode cX12_line 15 = .ok (.iload_n 2, 1) := by decide +kernel
theorem dX12_line_16 : decode cX12_line 16 = .ok (.if_icmp .eq 37, 3) := by decide +kernel
theorem dX12_line_19 : decode cX12_line 19 = .ok (.iload_n 3, 1) := by decide +kernel
theorem dX12_line_20 : decode cX12_line 20 = .ok (.i2l, 1) := by decide +kernel
theorem dX12_line_21 : decode cX12_line 21 = .ok (.lconst 0, 1) := by decide +kernel
theorem dX12_line_22 : decode cX12_line 22 = .ok (.ldc2_w 239, 3) := by decide +kernel
theorem dX12_line_25 : decode cX12_line 25 = .ok (.invokestatic 155, 3) := by decide +kernel
theorem dX12_line_28 : decode cX12_line 28 = .ok (.ifCond .eq 25, 3) := by decide +kernel
theorem dX12_line_31 : decode cX12_line 31 = .ok (.iload 4, 2) := by decide +kernel
theorem dX12_line_33 : decode cX12_line 33 = .ok (.i2l, 1) := by decide +kernel
theorem dX12_line_34 : decode cX12_line 34 = .ok (.lconst 0, 1) := by decide +kernel
theorem dX12_line_35 : decode cX12_line 35 = .ok (.ldc2_w 241, 3) := by decide +kernel
theorem dX12_line_38 : decode cX12_line 38 = .ok (.invokestatic 155, 3) := by decide +kernel
theorem dX12_line_41 : decode cX12_line 41 = .ok (.ifCond .eq 12, 3) := by decide +kernel
theorem dX12_line_44 : decode cX12_line 44 = .ok (.aload_n 0, 1) := by decide +kernel
theorem dX12_line_45 : decode cX12_line 45 = .ok (.getfield 243, 3) := by decide +kernel
theorem dX12_line_48 : decode cX12_line 48 = .ok (.bipush 8, 2) := by decide +kernel
theorem dX12_line_50 : decode cX12_line 50 = .ok (.if_icmp .ne 5, 3) := by decide +kernel
theorem dX12_line_53 : decode cX12_line 53 = .ok (.iconst (-1), 1) := by decide +kernel
theorem dX12_line_54 : decode cX12_line 54 = .ok (.ireturn, 1) := by decide +kernel
theorem dX12_line_55 : decode cX12_line 55 = .ok (.aload_n 0, 1) := by decide +kernel
theorem dX12_line_56 : decode cX12_line 56 = .ok (.getfield 51, 3) := by decide +kernel
theorem dX12_line_59 : decode cX12_line 59 = .ok (.aload_n 0, 1) := by decide +kernel
theorem dX12_line_60 : decode cX12_line 60 = .ok (.getfield 243, 3) := by decide +kernel
theorem dX12_line_63 : decode cX12_line 63 = .ok (.iload_n 1, 1) := by decide +kernel
theorem dX12_line_64 : decode cX12_line 64 = .ok (.iastore, 1) := by decide +kernel
theorem dX12_line_65 : decode cX12_line 65 = .ok (.aload_n 0, 1) := by decide +kernel
theorem dX12_line_66 : decode cX12_line 66 = .ok (.getfield 54, 3) := by decide +kernel
theorem dX12_line_69 : decode cX12_line 69 = .ok (.aload_n 0, 1) := by decide +kernel
theorem dX12_line_70 : decode cX12_line 70 = .ok (.getfield 243, 3) := by decide +kernel
theorem dX12_line_73 : decode cX12_line 73 = .ok (.iload_n 2, 1) := by decide +kernel
theorem dX12_line_74 : decode cX12_line 74 = .ok (.iastore, 1) := by decide +kernel
theorem dX12_line_75 : decode cX12_line 75 = .ok (.aload_n 0, 1) := by decide +kernel
theorem dX12_line_76 : decode cX12_line 76 = .ok (.getfield 57, 3) := by decide +kernel
theorem dX12_line_79 : decode cX12_line 79 = .ok (.aload_n 0, 1) := by decide +kernel
theorem dX12_line_80 : decode cX12_line 80 = .ok (.getfield 243, 3) := by decide +kernel
theorem dX12_line_83 : decode cX12_line 83 = .ok (.iload_n 3, 1) := by decide +kernel
theorem dX12_line_84 : decode cX12_line 84 = .ok (.iastore, 1) := by decide +kernel
theorem dX12_line_85 : decode cX12_line 85 = .ok (.aload_n 0, 1) := by decide +kernel
theorem dX12_line_86 : decode cX12_line 86 = .ok (.getfield 60, 3) := by decide +kernel
theorem dX12_line_89 : decode cX12_line 89 = .ok (.aload_n 0, 1) := by decide +kernel
theorem dX12_line_90 : decode cX12_line 90 = .ok (.getfield 243, 3) := by decide +kernel
theorem dX12_line_93 : decode cX12_line 93 = .ok (.iload 4, 2) := by decide +kernel
theorem dX12_line_95 : decode cX12_line 95 = .ok (.iastore, 1) := by decide +kernel
theorem dX12_line_96 : decode cX12_line 96 = .ok (.aload_n 0, 1) := by decide +kernel
theorem dX12_line_97 : decode cX12_line 97 = .ok (.dup, 1) := by decide +kernel
theorem dX12_line_98 : decode cX12_line 98 = .ok (.getfield 243, 3) := by decide +kernel
theorem dX12_line_101 : decode cX12_line 101 = .ok (.iconst 1, 1) := by decide +kernel
theorem dX12_line_102 : decode cX12_line 102 = .ok (.iadd, 1) := by decide +kernel
theorem dX12_line_103 : decode cX12_line 103 = .ok (.putfield 243, 3) := by decide +kernel
theorem dX12_line_106 : decode cX12_line 106 = .ok (.aload_n 0, 1) := by decide +kernel
theorem dX12_line_107 : decode cX12_line 107 = .ok (.getfield 243, 3) := by decide +kernel
theorem dX12_line_110 : decode cX12_line 110 = .ok (.iconst 1, 1) := by decide +kernel
theorem dX12_line_111 : decode cX12_line 111 = .ok (.isub, 1) := by decide +kernel
theorem dX12_line_112 : decode cX12_line 112 = .ok (.ireturn, 1) := by decide +kernel
theorem dX12_rain_0 : decode cX12_rain 0 = .ok (.iload_n 1, 1) := by decide +kernel
theorem dX12_rain_1 : decode cX12_rain 1 = .ok (.i2l, 1) := by decide +kernel
theorem dX12_rain_2 : decode cX12_rain 2 = .ok (.lconst 0, 1) := by decide +kernel
theorem dX12_rain_3 : decode cX12_rain 3 = .ok (.ldc2_w 246, 3) := by decide +kernel
theorem dX12_rain_6 : decode cX12_rain 6 = .ok (.invokestatic 155, 3) := by decide +kernel
theorem dX12_rain_9 : decode cX12_rain 9 = .ok (.ifCond .ne 5, 3) := by decide +kernel
theorem dX12_rain_12 : decode cX12_rain 12 = .ok (.iconst 0, 1) := by decide +kernel
theorem dX12_rain_13 : decode cX12_rain 13 = .ok (.ireturn, 1) := by decide +kernel
theorem dX12_rain_14 : decode cX12_rain 14 = .ok (.aload_n 0, 1) := by decide +kernel
theorem dX12_rain_15 : decode cX12_rain 15 = .ok (.iload_n 1, 1) := by decide +kernel
theorem dX12_rain_16 : decode cX12_rain 16 = .ok (.putfield 248, 3) := by decide +kernel
theorem dX12_rain_19 : decode cX12_rain 19 = .ok (.iconst 1, 1) := by decide +kernel
theorem dX12_rain_20 : decode cX12_rain 20 = .ok (.ireturn, 1) := by decide +kernel
theorem dX12_isLine_0 : decode cX12_isLine 0 = .ok (.iload_n 1, 1) := by decide +kernel
theorem dX12_isLine_1 : decode cX12_isLine 1 = .ok (.i2l, 1) := by decide +kernel
theorem dX12_isLine_2 : decode cX12_isLine 2 = .ok (.lconst 0, 1) := by decide +kernel
theorem dX12_isLine_3 : decode cX12_isLine 3 = .ok (.aload_n 0, 1) := by decide +kernel
theorem dX12_isLine_4 : decode cX12_isLine 4 = .ok (.getfield 243, 3) := by decide +kernel
theorem dX12_isLine_7 : decode cX12_isLine 7 = .ok (.iconst 1, 1) := by decide +kernel
theorem dX12_isLine_8 : decode cX12_isLine 8 = .ok (.isub, 1) := by decide +kernel
theorem dX12_isLine_9 : decode cX12_isLine 9 = .ok (.i2l, 1) := by decide +kernel
theorem dX12_isLine_10 : decode cX12_isLine 10 = .ok (.invokestatic 155, 3) := by decide +kernel
theorem dX12_isLine_13 : decode cX12_isLine 13 = .ok (.ireturn, 1) := by decide +kernel
theorem dX12_isHand_0 : decode cX12_isHand 0 = .ok (.iload_n 1, 1) := by decide +kernel
theorem dX12_isHand_1 : decode cX12_isHand 1 = .ok (.i2l, 1) := by decide +kernel
theorem dX12_isHand_2 : decode cX12_isHand 2 = .ok (.lconst 0, 1) := by decide +kernel
theorem dX12_isHand_3 : decode cX12_isHand 3 = .ok (.aload_n 0, 1) := by decide +kernel
theorem dX12_isHand_4 : decode cX12_isHand 4 = .ok (.getfield 224, 3) := by decide +kernel
theorem dX12_isHand_7 : decode cX12_isHand 7 = .ok (.iconst 1, 1) := by decide +kernel
theorem dX12_isHand_8 : decode cX12_isHand 8 = .ok (.isub, 1) := by decide +kernel
theorem dX12_isHand_9 : decode cX12_isHand 9 = .ok (.i2l, 1) := by decide +kernel
theorem dX12_isHand_10 : decode cX12_isHand 10 = .ok (.invokestatic 155, 3) := by decide +kernel
theorem dX12_isHand_13 : decode cX12_isHand 13 = .ok (.ireturn, 1) := by decide +kernel
theorem dX12_biteOf_0 : decode cX12_biteOf 0 = .ok (.aload_n 0, 1) := by decide +kernel
theorem dX12_biteOf_1 : decode cX12_biteOf 1 = .ok (.getfield 57, 3) := by decide +kernel
theorem dX12_biteOf_4 : decode cX12_biteOf 4 = .ok (.iload_n 1, 1) := by decide +kernel
theorem dX12_biteOf_5 : decode cX12_biteOf 5 = .ok (.iaload, 1) := by decide +kernel
theorem dX12_biteOf_6 : decode cX12_biteOf 6 = .ok (.aload_n 0, 1) := by decide +kernel
theorem dX12_biteOf_7 : decode cX12_biteOf 7 = .ok (.getfield 60, 3) := by decide +kernel
theorem dX12_biteOf_10 : decode cX12_biteOf 10 = .ok (.iload_n 1, 1) := by decide +kernel
theorem dX12_biteOf_11 : decode cX12_biteOf 11 = .ok (.iaload, 1) := by decide +kernel
theorem dX12_biteOf_12 : decode cX12_biteOf 12 = .ok (.aload_n 0, 1) := by decide +kernel
theorem dX12_biteOf_13 : decode cX12_biteOf 13 = .ok (.getfield 248, 3) := by decide +kernel
theorem dX12_biteOf_16 : decode cX12_biteOf 16 = .ok (.imul, 1) := by decide +kernel
theorem dX12_biteOf_17 : decode cX12_biteOf 17 = .ok (.iadd, 1) := by decide +kernel
theorem dX12_biteOf_18 : decode cX12_biteOf 18 = .ok (.ireturn, 1) := by decide +kernel
theorem dX12_bite_0 : decode cX12_bite 0 = .ok (.aload_n 0, 1) := by decide +kernel
theorem dX12_bite_1 : decode cX12_bite 1 = .ok (.iload_n 1, 1) := by decide +kernel
theorem dX12_bite_2 : decode cX12_bite 2 = .ok (.invokevirtual 251, 3) := by decide +kernel
theorem dX12_bite_5 : decode cX12_bite 5 = .ok (.ifCond .eq 11, 3) := by decide +kernel
theorem dX12_bite_8 : decode cX12_bite 8 = .ok (.aload_n 0, 1) := by decide +kernel
theorem dX12_bite_9 : decode cX12_bite 9 = .ok (.iload_n 1, 1) := by decide +kernel
theorem dX12_bite_10 : decode cX12_bite 10 = .ok (.invokevirtual 254, 3) := by decide +kernel
theorem dX12_bite_13 : decode cX12_bite 13 = .ok (.goto 4, 3) := by decide +kernel
theorem dX12_bite_16 : decode cX12_bite 16 = .ok (.iconst (-1), 1) := by decide +kernel
theorem dX12_bite_17 : decode cX12_bite 17 = .ok (.ireturn, 1) := by decide +kernel
theorem dX12_length_0 : decode cX12_length 0 = .ok (.iload_n 1, 1) := by decide +kernel
theorem dX12_length_1 : decode cX12_length 1 = .ok (.i2l, 1) := by decide +kernel
theorem dX12_length_2 : decode cX12_length 2 = .ok (.lconst 1, 1) := by decide +kernel
theorem dX12_length_3 : decode cX12_length 3 = .ok (.ldc2_w 258, 3) := by decide +kernel
theorem dX12_length_6 : decode cX12_length 6 = .ok (.invokestatic 155, 3) := by decide +kernel
theorem dX12_length_9 : decode cX12_length 9 = .ok (.ifCond .eq 12, 3) := by decide +kernel
theorem dX12_length_12 : decode cX12_length 12 = .ok (.aload_n 0, 1) := by decide +kernel
theorem dX12_length_13 : decode cX12_length 13 = .ok (.getfield 260, 3) := by decide +kernel
theorem dX12_length_16 : decode cX12_length 16 = .ok (.bipush 120, 2) := by decide +kernel
theorem dX12_length_18 : decode cX12_length 18 = .ok (.if_icmp .ne 5, 3) := by decide +kernel
theorem dX12_length_21 : decode cX12_length 21 = .ok (.iconst (-1), 1) := by decide +kernel
theorem dX12_length_22 : decode cX12_length 22 = .ok (.ireturn, 1) := by decide +kernel
theorem dX12_length_23 : decode cX12_length 23 = .ok (.aload_n 0, 1) := by decide +kernel
theorem dX12_length_24 : decode cX12_length 24 = .ok (.getfield 63, 3) := by decide +kernel
theorem dX12_length_27 : decode cX12_length 27 = .ok (.aload_n 0, 1) := by decide +kernel
theorem dX12_length_28 : decode cX12_length 28 = .ok (.getfield 260, 3) := by decide +kernel
theorem dX12_length_31 : decode cX12_length 31 = .ok (.iload_n 1, 1) := by decide +kernel
theorem dX12_length_32 : decode cX12_length 32 = .ok (.iastore, 1) := by decide +kernel
theorem dX12_length_33 : decode cX12_length 33 = .ok (.aload_n 0, 1) := by decide +kernel
theorem dX12_length_34 : decode cX12_length 34 = .ok (.dup, 1) := by decide +kernel
theorem dX12_length_35 : decode cX12_length 35 = .ok (.getfield 260, 3) := by decide +kernel
theorem dX12_length_38 : decode cX12_length 38 = .ok (.iconst 1, 1) := by decide +kernel
theorem dX12_length_39 : decode cX12_length 39 = .ok (.iadd, 1) := by decide +kernel
theorem dX12_length_40 : decode cX12_length 40 = .ok (.putfield 260, 3) := by decide +kernel
theorem dX12_length_43 : decode cX12_length 43 = .ok (.aload_n 0, 1) := by decide +kernel
theorem dX12_length_44 : decode cX12_length 44 = .ok (.getfield 260, 3) := by decide +kernel
theorem dX12_length_47 : decode cX12_length 47 = .ok (.ireturn, 1) := by decide +kernel
theorem dX12_cut_0 : decode cX12_cut 0 = .ok (.iload_n 1, 1) := by decide +kernel
theorem dX12_cut_1 : decode cX12_cut 1 = .ok (.i2l, 1) := by decide +kernel
theorem dX12_cut_2 : decode cX12_cut 2 = .ok (.lconst 0, 1) := by decide +kernel
theorem dX12_cut_3 : decode cX12_cut 3 = .ok (.aload_n 0, 1) := by decide +kernel
theorem dX12_cut_4 : decode cX12_cut 4 = .ok (.getfield 260, 3) := by decide +kernel
theorem dX12_cut_7 : decode cX12_cut 7 = .ok (.i2l, 1) := by decide +kernel
theorem dX12_cut_8 : decode cX12_cut 8 = .ok (.invokestatic 155, 3) := by decide +kernel
theorem dX12_cut_11 : decode cX12_cut 11 = .ok (.ifCond .ne 5, 3) := by decide +kernel
theorem dX12_cut_14 : decode cX12_cut 14 = .ok (.iconst 0, 1) := by decide +kernel
theorem dX12_cut_15 : decode cX12_cut 15 = .ok (.ireturn, 1) := by decide +kernel
theorem dX12_cut_16 : decode cX12_cut 16 = .ok (.aload_n 0, 1) := by decide +kernel
theorem dX12_cut_17 : decode cX12_cut 17 = .ok (.iload_n 1, 1) := by decide +kernel
theorem dX12_cut_18 : decode cX12_cut 18 = .ok (.putfield 260, 3) := by decide +kernel
theorem dX12_cut_21 : decode cX12_cut 21 = .ok (.iconst 1, 1) := by decide +kernel
theorem dX12_cut_22 : decode cX12_cut 22 = .ok (.ireturn, 1) := by decide +kernel
theorem dX12_tape_0 : decode cX12_tape 0 = .ok (.iload_n 1, 1) := by decide +kernel
theorem dX12_tape_1 : decode cX12_tape 1 = .ok (.i2l, 1) := by decide +kernel
theorem dX12_tape_2 : decode cX12_tape 2 = .ok (.lconst 0, 1) := by decide +kernel
theorem dX12_tape_3 : decode cX12_tape 3 = .ok (.aload_n 0, 1) := by decide +kernel
theorem dX12_tape_4 : decode cX12_tape 4 = .ok (.getfield 260, 3) := by decide +kernel
theorem dX12_tape_7 : decode cX12_tape 7 = .ok (.iconst 1, 1) := by decide +kernel
theorem dX12_tape_8 : decode cX12_tape 8 = .ok (.isub, 1) := by decide +kernel
theorem dX12_tape_9 : decode cX12_tape 9 = .ok (.i2l, 1) := by decide +kernel
theorem dX12_tape_10 : decode cX12_tape 10 = .ok (.invokestatic 155, 3) := by decide +kernel
theorem dX12_tape_13 : decode cX12_tape 13 = .ok (.ifCond .eq 12, 3) := by decide +kernel
theorem dX12_tape_16 : decode cX12_tape 16 = .ok (.aload_n 0, 1) := by decide +kernel
theorem dX12_tape_17 : decode cX12_tape 17 = .ok (.getfield 63, 3) := by decide +kernel
theorem dX12_tape_20 : decode cX12_tape 20 = .ok (.iload_n 1, 1) := by decide +kernel
theorem dX12_tape_21 : decode cX12_tape 21 = .ok (.iaload, 1) := by decide +kernel
theorem dX12_tape_22 : decode cX12_tape 22 = .ok (.goto 4, 3) := by decide +kernel
theorem dX12_tape_25 : decode cX12_tape 25 = .ok (.iconst (-1), 1) := by decide +kernel
theorem dX12_tape_26 : decode cX12_tape 26 = .ok (.ireturn, 1) := by decide +kernel
theorem dX12_sentAt_0 : decode cX12_sentAt 0 = .ok (.iload_n 1, 1) := by decide +kernel
theorem dX12_sentAt_1 : decode cX12_sentAt 1 = .ok (.iconst 2, 1) := by decide +kernel
theorem dX12_sentAt_2 : decode cX12_sentAt 2 = .ok (.irem, 1) := by decide +kernel
theorem dX12_sentAt_3 : decode cX12_sentAt 3 = .ok (.ifCond .ne 17, 3) := by decide +kernel
theorem dX12_sentAt_6 : decode cX12_sentAt 6 = .ok (.aload_n 0, 1) := by decide +kernel
theorem dX12_sentAt_7 : decode cX12_sentAt 7 = .ok (.getfield 63, 3) := by decide +kernel
theorem dX12_sentAt_10 : decode cX12_sentAt 10 = .ok (.iload_n 1, 1) := by decide +kernel
theorem dX12_sentAt_11 : decode cX12_sentAt 11 = .ok (.iaload, 1) := by decide +kernel
theorem dX12_sentAt_12 : decode cX12_sentAt 12 = .ok (.aload_n 0, 1) := by decide +kernel
theorem dX12_sentAt_13 : decode cX12_sentAt 13 = .ok (.getfield 263, 3) := by decide +kernel
theorem dX12_sentAt_16 : decode cX12_sentAt 16 = .ok (.iadd, 1) := by decide +kernel
theorem dX12_sentAt_17 : decode cX12_sentAt 17 = .ok (.goto 14, 3) := by decide +kernel
theorem dX12_sentAt_20 : decode cX12_sentAt 20 = .ok (.aload_n 0, 1) := by decide +kernel
theorem dX12_sentAt_21 : decode cX12_sentAt 21 = .ok (.getfield 63, 3) := by decide +kernel
theorem dX12_sentAt_24 : decode cX12_sentAt 24 = .ok (.iload_n 1, 1) := by decide +kernel
theorem dX12_sentAt_25 : decode cX12_sentAt 25 = .ok (.iaload, 1) := by decide +kernel
theorem dX12_sentAt_26 : decode cX12_sentAt 26 = .ok (.aload_n 0, 1) := by decide +kernel
theorem dX12_sentAt_27 : decode cX12_sentAt 27 = .ok (.getfield 263, 3) := by decide +kernel
theorem dX12_sentAt_30 : decode cX12_sentAt 30 = .ok (.isub, 1) := by decide +kernel
theorem dX12_sentAt_31 : decode cX12_sentAt 31 = .ok (.ireturn, 1) := by decide +kernel
theorem dX12_isOf_0 : decode cX12_isOf 0 = .ok (.aload_n 0, 1) := by decide +kernel
theorem dX12_isOf_1 : decode cX12_isOf 1 = .ok (.iload_n 1, 1) := by decide +kernel
theorem dX12_isOf_2 : decode cX12_isOf 2 = .ok (.invokevirtual 266, 3) := by decide +kernel
theorem dX12_isOf_5 : decode cX12_isOf 5 = .ok (.i2l, 1) := by decide +kernel
theorem dX12_isOf_6 : decode cX12_isOf 6 = .ok (.aload_n 0, 1) := by decide +kernel
theorem dX12_isOf_7 : decode cX12_isOf 7 = .ok (.getfield 45, 3) := by decide +kernel
theorem dX12_isOf_10 : decode cX12_isOf 10 = .ok (.iconst 5, 1) := by decide +kernel
theorem dX12_isOf_11 : decode cX12_isOf 11 = .ok (.aload_n 0, 1) := by decide +kernel
theorem dX12_isOf_12 : decode cX12_isOf 12 = .ok (.getfield 269, 3) := by decide +kernel
theorem dX12_isOf_15 : decode cX12_isOf 15 = .ok (.imul, 1) := by decide +kernel
theorem dX12_isOf_16 : decode cX12_isOf 16 = .ok (.iload_n 2, 1) := by decide +kernel
theorem dX12_isOf_17 : decode cX12_isOf 17 = .ok (.iadd, 1) := by decide +kernel
theorem dX12_isOf_18 : decode cX12_isOf 18 = .ok (.iaload, 1) := by decide +kernel
theorem dX12_isOf_19 : decode cX12_isOf 19 = .ok (.i2l, 1) := by decide +kernel
theorem dX12_isOf_20 : decode cX12_isOf 20 = .ok (.aload_n 0, 1) := by decide +kernel
theorem dX12_isOf_21 : decode cX12_isOf 21 = .ok (.getfield 48, 3) := by decide +kernel
theorem dX12_isOf_24 : decode cX12_isOf 24 = .ok (.iconst 5, 1) := by decide +kernel
theorem dX12_isOf_25 : decode cX12_isOf 25 = .ok (.aload_n 0, 1) := by decide +kernel
theorem dX12_isOf_26 : decode cX12_isOf 26 = .ok (.getfield 269, 3) := by decide +kernel
theorem dX12_isOf_29 : decode cX12_isOf 29 = .ok (.imul, 1) := by decide +kernel
theorem dX12_isOf_30 : decode cX12_isOf 30 = .ok (.iload_n 2, 1) := by decide +kernel
theorem dX12_isOf_31 : decode cX12_isOf 31 = .ok (.iadd, 1) := by decide +kernel
theorem dX12_isOf_32 : decode cX12_isOf 32 = .ok (.iaload, 1) := by decide +kernel
theorem dX12_isOf_33 : decode cX12_isOf 33 = .ok (.i2l, 1) := by decide +kernel
theorem dX12_isOf_34 : decode cX12_isOf 34 = .ok (.invokestatic 155, 3) := by decide +kernel
theorem dX12_isOf_37 : decode cX12_isOf 37 = .ok (.ireturn, 1) := by decide +kernel
theorem dX12_costOf_0 : decode cX12_costOf 0 = .ok (.iconst 2, 1) := by decide +kernel
theorem dX12_costOf_1 : decode cX12_costOf 1 = .ok (.aload_n 0, 1) := by decide +kernel
theorem dX12_costOf_2 : decode cX12_costOf 2 = .ok (.iload_n 1, 1) := by decide +kernel
theorem dX12_costOf_3 : decode cX12_costOf 3 = .ok (.invokevirtual 266, 3) := by decide +kernel
theorem dX12_costOf_6 : decode cX12_costOf 6 = .ok (.imul, 1) := by decide +kernel
theorem dX12_costOf_7 : decode cX12_costOf 7 = .ok (.aload_n 0, 1) := by decide +kernel
theorem dX12_costOf_8 : decode cX12_costOf 8 = .ok (.getfield 45, 3) := by decide +kernel
theorem dX12_costOf_11 : decode cX12_costOf 11 = .ok (.iconst 5, 1) := by decide +kernel
theorem dX12_costOf_12 : decode cX12_costOf 12 = .ok (.aload_n 0, 1) := by decide +kernel
theorem dX12_costOf_13 : decode cX12_costOf 13 = .ok (.getfield 269, 3) := by decide +kernel
theorem dX12_costOf_16 : decode cX12_costOf 16 = .ok (.imul, 1) := by decide +kernel
theorem dX12_costOf_17 : decode cX12_costOf 17 = .ok (.iload_n 2, 1) := by decide +kernel
theorem dX12_costOf_18 : decode cX12_costOf 18 = .ok (.iadd, 1) := by decide +kernel
theorem dX12_costOf_19 : decode cX12_costOf 19 = .ok (.iaload, 1) := by decide +kernel
theorem dX12_costOf_20 : decode cX12_costOf 20 = .ok (.isub, 1) := by decide +kernel
theorem dX12_costOf_21 : decode cX12_costOf 21 = .ok (.aload_n 0, 1) := by decide +kernel
theorem dX12_costOf_22 : decode cX12_costOf 22 = .ok (.getfield 48, 3) := by decide +kernel
theorem dX12_costOf_25 : decode cX12_costOf 25 = .ok (.iconst 5, 1) := by decide +kernel
theorem dX12_costOf_26 : decode cX12_costOf 26 = .ok (.aload_n 0, 1) := by decide +kernel
theorem dX12_costOf_27 : decode cX12_costOf 27 = .ok (.getfield 269, 3) := by decide +kernel
theorem dX12_costOf_30 : decode cX12_costOf 30 = .ok (.imul, 1) := by decide +kernel
theorem dX12_costOf_31 : decode cX12_costOf 31 = .ok (.iload_n 2, 1) := by decide +kernel
theorem dX12_costOf_32 : decode cX12_costOf 32 = .ok (.iadd, 1) := by decide +kernel
theorem dX12_costOf_33 : decode cX12_costOf 33 = .ok (.iaload, 1) := by decide +kernel
theorem dX12_costOf_34 : decode cX12_costOf 34 = .ok (.isub, 1) := by decide +kernel
theorem dX12_costOf_35 : decode cX12_costOf 35 = .ok (.invokestatic 272, 3) := by decide +kernel
theorem dX12_costOf_38 : decode cX12_costOf 38 = .ok (.ireturn, 1) := by decide +kernel
theorem dX12_marksMany_0 : decode cX12_marksMany 0 = .ok (.iconst 0, 1) := by decide +kernel
theorem dX12_marksMany_1 : decode cX12_marksMany 1 = .ok (.istore_n 1, 1) := by decide +kernel
theorem dX12_marksMany_2 : decode cX12_marksMany 2 = .ok (.iload_n 0, 1) := by decide +kernel
theorem dX12_marksMany_3 : decode cX12_marksMany 3 = .ok (.istore_n 2, 1) := by decide +kernel
theorem dX12_marksMany_4 : decode cX12_marksMany 4 = .ok (.iload_n 2, 1) := by decide +kernel
theorem dX12_marksMany_5 : decode cX12_marksMany 5 = .ok (.ifCond .le 14, 3) := by decide +kernel
theorem dX12_marksMany_8 : decode cX12_marksMany 8 = .ok (.iinc 1 1, 3) := by decide +kernel
theorem dX12_marksMany_11 : decode cX12_marksMany 11 = .ok (.iload_n 2, 1) := by decide +kernel
theorem dX12_marksMany_12 : decode cX12_marksMany 12 = .ok (.bipush 10, 2) := by decide +kernel
theorem dX12_marksMany_14 : decode cX12_marksMany 14 = .ok (.idiv, 1) := by decide +kernel
theorem dX12_marksMany_15 : decode cX12_marksMany 15 = .ok (.istore_n 2, 1) := by decide +kernel
theorem dX12_marksMany_16 : decode cX12_marksMany 16 = .ok (.goto (-12), 3) := by decide +kernel
theorem dX12_marksMany_19 : decode cX12_marksMany 19 = .ok (.iload_n 1, 1) := by decide +kernel
theorem dX12_marksMany_20 : decode cX12_marksMany 20 = .ok (.ireturn, 1) := by decide +kernel
theorem dX12_kindOf_0 : decode cX12_kindOf 0 = .ok (.iload_n 0, 1) := by decide +kernel
theorem dX12_kindOf_1 : decode cX12_kindOf 1 = .ok (.istore_n 2, 1) := by decide +kernel
theorem dX12_kindOf_2 : decode cX12_kindOf 2 = .ok (.iload_n 0, 1) := by decide +kernel
theorem dX12_kindOf_3 : decode cX12_kindOf 3 = .ok (.invokestatic 277, 3) := by decide +kernel
theorem dX12_kindOf_6 : decode cX12_kindOf 6 = .ok (.iconst 1, 1) := by decide +kernel
theorem dX12_kindOf_7 : decode cX12_kindOf 7 = .ok (.isub, 1) := by decide +kernel
theorem dX12_kindOf_8 : decode cX12_kindOf 8 = .ok (.istore_n 3, 1) := by decide +kernel
theorem dX12_kindOf_9 : decode cX12_kindOf 9 = .ok (.iload_n 3, 1) := by decide +kernel
theorem dX12_kindOf_10 : decode cX12_kindOf 10 = .ok (.iload_n 1, 1) := by decide +kernel
theorem dX12_kindOf_11 : decode cX12_kindOf 11 = .ok (.if_icmp .le 14, 3) := by decide +kernel
theorem dX12_kindOf_14 : decode cX12_kindOf 14 = .ok (.iload_n 2, 1) := by decide +kernel
theorem dX12_kindOf_15 : decode cX12_kindOf 15 = .ok (.bipush 10, 2) := by decide +kernel
theorem dX12_kindOf_17 : decode cX12_kindOf 17 = .ok (.idiv, 1) := by decide +kernel
theorem dX12_kindOf_18 : decode cX12_kindOf 18 = .ok (.istore_n 2, 1) := by decide +kernel
theorem dX12_kindOf_19 : decode cX12_kindOf 19 = .ok (.iinc 3 (-1), 3) := by decide +kernel
theorem dX12_kindOf_22 : decode cX12_kindOf 22 = .ok (.goto (-13), 3) := by decide +kernel
theorem dX12_kindOf_25 : decode cX12_kindOf 25 = .ok (.iload_n 2, 1) := by decide +kernel
theorem dX12_kindOf_26 : decode cX12_kindOf 26 = .ok (.bipush 10, 2) := by decide +kernel
theorem dX12_kindOf_28 : decode cX12_kindOf 28 = .ok (.irem, 1) := by decide +kernel
theorem dX12_kindOf_29 : decode cX12_kindOf 29 = .ok (.iconst 1, 1) := by decide +kernel
theorem dX12_kindOf_30 : decode cX12_kindOf 30 = .ok (.if_icmp .ne 7, 3) := by decide +kernel
theorem dX12_kindOf_33 : decode cX12_kindOf 33 = .ok (.iconst 0, 1) := by decide +kernel
theorem dX12_kindOf_34 : decode cX12_kindOf 34 = .ok (.goto 4, 3) := by decide +kernel
theorem dX12_kindOf_37 : decode cX12_kindOf 37 = .ok (.iconst 1, 1) := by decide +kernel
theorem dX12_kindOf_38 : decode cX12_kindOf 38 = .ok (.ireturn, 1) := by decide +kernel
theorem dX12_stands_0 : decode cX12_stands 0 = .ok (.iload_n 2, 1) := by decide +kernel
theorem dX12_stands_1 : decode cX12_stands 1 = .ok (.invokestatic 277, 3) := by decide +kernel
theorem dX12_stands_4 : decode cX12_stands 4 = .ok (.istore_n 3, 1) := by decide +kernel
theorem dX12_stands_5 : decode cX12_stands 5 = .ok (.iload_n 1, 1) := by decide +kernel
theorem dX12_stands_6 : decode cX12_stands 6 = .ok (.iconst 2, 1) := by decide +kernel
theorem dX12_stands_7 : decode cX12_stands 7 = .ok (.iload_n 3, 1) := by decide +kernel
theorem dX12_stands_8 : decode cX12_stands 8 = .ok (.imul, 1) := by decide +kernel
theorem dX12_stands_9 : decode cX12_stands 9 = .ok (.iadd, 1) := by decide +kernel
theorem dX12_stands_10 : decode cX12_stands 10 = .ok (.iconst 1, 1) := by decide +kernel
theorem dX12_stands_11 : decode cX12_stands 11 = .ok (.isub, 1) := by decide +kernel
theorem dX12_stands_12 : decode cX12_stands 12 = .ok (.aload_n 0, 1) := by decide +kernel
theorem dX12_stands_13 : decode cX12_stands 13 = .ok (.getfield 260, 3) := by decide +kernel
theorem dX12_stands_16 : decode cX12_stands 16 = .ok (.if_icmp .le 5, 3) := by decide +kernel
theorem dX12_stands_19 : decode cX12_stands 19 = .ok (.iconst 0, 1) := by decide +kernel
theorem dX12_stands_20 : decode cX12_stands 20 = .ok (.ireturn, 1) := by decide +kernel
theorem dX12_stands_21 : decode cX12_stands 21 = .ok (.iconst 0, 1) := by decide +kernel
theorem dX12_stands_22 : decode cX12_stands 22 = .ok (.istore 4, 2) := by decide +kernel
theorem dX12_stands_24 : decode cX12_stands 24 = .ok (.iload 4, 2) := by decide +kernel
theorem dX12_stands_26 : decode cX12_stands 26 = .ok (.iload_n 3, 1) := by decide +kernel
theorem dX12_stands_27 : decode cX12_stands 27 = .ok (.if_icmp .ge 51, 3) := by decide +kernel
theorem dX12_stands_30 : decode cX12_stands 30 = .ok (.aload_n 0, 1) := by decide +kernel
theorem dX12_stands_31 : decode cX12_stands 31 = .ok (.iload_n 1, 1) := by decide +kernel
theorem dX12_stands_32 : decode cX12_stands 32 = .ok (.iconst 2, 1) := by decide +kernel
theorem dX12_stands_33 : decode cX12_stands 33 = .ok (.iload 4, 2) := by decide +kernel
theorem dX12_stands_35 : decode cX12_stands 35 = .ok (.imul, 1) := by decide +kernel
theorem dX12_stands_36 : decode cX12_stands 36 = .ok (.iadd, 1) := by decide +kernel
theorem dX12_stands_37 : decode cX12_stands 37 = .ok (.iload_n 2, 1) := by decide +kernel
theorem dX12_stands_38 : decode cX12_stands 38 = .ok (.iload 4, 2) := by decide +kernel
theorem dX12_stands_40 : decode cX12_stands 40 = .ok (.invokestatic 280, 3) := by decide +kernel
theorem dX12_stands_43 : decode cX12_stands 43 = .ok (.invokevirtual 284, 3) := by decide +kernel
theorem dX12_stands_46 : decode cX12_stands 46 = .ok (.ifCond .eq 24, 3) := by decide +kernel
theorem dX12_stands_49 : decode cX12_stands 49 = .ok (.iload 4, 2) := by decide +kernel
theorem dX12_stands_51 : decode cX12_stands 51 = .ok (.ifCond .le 21, 3) := by decide +kernel
theorem dX12_stands_54 : decode cX12_stands 54 = .ok (.aload_n 0, 1) := by decide +kernel
theorem dX12_stands_55 : decode cX12_stands 55 = .ok (.iload_n 1, 1) := by decide +kernel
theorem dX12_stands_56 : decode cX12_stands 56 = .ok (.iconst 2, 1) := by decide +kernel
theorem dX12_stands_57 : decode cX12_stands 57 = .ok (.iload 4, 2) := by decide +kernel
theorem dX12_stands_59 : decode cX12_stands 59 = .ok (.imul, 1) := by decide +kernel
theorem dX12_stands_60 : decode cX12_stands 60 = .ok (.iadd, 1) := by decide +kernel
theorem dX12_stands_61 : decode cX12_stands 61 = .ok (.iconst 1, 1) := by decide +kernel
theorem dX12_stands_62 : decode cX12_stands 62 = .ok (.isub, 1) := by decide +kernel
theorem dX12_stands_63 : decode cX12_stands 63 = .ok (.iconst 2, 1) := by decide +kernel
theorem dX12_stands_64 : decode cX12_stands 64 = .ok (.invokevirtual 284, 3) := by decide +kernel
theorem dX12_stands_67 : decode cX12_stands 67 = .ok (.ifCond .ne 5, 3) := by decide +kernel
theorem dX12_stands_70 : decode cX12_stands 70 = .ok (.iconst 0, 1) := by decide +kernel
theorem dX12_stands_71 : decode cX12_stands 71 = .ok (.ireturn, 1) := by decide +kernel
theorem dX12_stands_72 : decode cX12_stands 72 = .ok (.iinc 4 1, 3) := by decide +kernel
theorem dX12_stands_75 : decode cX12_stands 75 = .ok (.goto (-51), 3) := by decide +kernel
theorem dX12_stands_78 : decode cX12_stands 78 = .ok (.iconst 1, 1) := by decide +kernel
theorem dX12_stands_79 : decode cX12_stands 79 = .ok (.ireturn, 1) := by decide +kernel
theorem dX12_costFrom_0 : decode cX12_costFrom 0 = .ok (.iconst 0, 1) := by decide +kernel
theorem dX12_costFrom_1 : decode cX12_costFrom 1 = .ok (.istore_n 3, 1) := by decide +kernel
theorem dX12_costFrom_2 : decode cX12_costFrom 2 = .ok (.iconst 0, 1) := by decide +kernel
theorem dX12_costFrom_3 : decode cX12_costFrom 3 = .ok (.istore 4, 2) := by decide +kernel
theorem dX12_costFrom_5 : decode cX12_costFrom 5 = .ok (.iload 4, 2) := by decide +kernel
theorem dX12_costFrom_7 : decode cX12_costFrom 7 = .ok (.iload_n 2, 1) := by decide +kernel
theorem dX12_costFrom_8 : decode cX12_costFrom 8 = .ok (.invokestatic 277, 3) := by decide +kernel
theorem dX12_costFrom_11 : decode cX12_costFrom 11 = .ok (.if_icmp .ge 51, 3) := by decide +kernel
theorem dX12_costFrom_14 : decode cX12_costFrom 14 = .ok (.iload_n 3, 1) := by decide +kernel
theorem dX12_costFrom_15 : decode cX12_costFrom 15 = .ok (.aload_n 0, 1) := by decide +kernel
theorem dX12_costFrom_16 : decode cX12_costFrom 16 = .ok (.iload_n 1, 1) := by decide +kernel
theorem dX12_costFrom_17 : decode cX12_costFrom 17 = .ok (.iconst 2, 1) := by decide +kernel
theorem dX12_costFrom_18 : decode cX12_costFrom 18 = .ok (.iload 4, 2) := by decide +kernel
theorem dX12_costFrom_20 : decode cX12_costFrom 20 = .ok (.imul, 1) := by decide +kernel
theorem dX12_costFrom_21 : decode cX12_costFrom 21 = .ok (.iadd, 1) := by decide +kernel
theorem dX12_costFrom_22 : decode cX12_costFrom 22 = .ok (.iload_n 2, 1) := by decide +kernel
theorem dX12_costFrom_23 : decode cX12_costFrom 23 = .ok (.iload 4, 2) := by decide +kernel
theorem dX12_costFrom_25 : decode cX12_costFrom 25 = .ok (.invokestatic 280, 3) := by decide +kernel
theorem dX12_costFrom_28 : decode cX12_costFrom 28 = .ok (.invokevirtual 288, 3) := by decide +kernel
theorem dX12_costFrom_31 : decode cX12_costFrom 31 = .ok (.iload 4, 2) := by decide +kernel
theorem dX12_costFrom_33 : decode cX12_costFrom 33 = .ok (.ifCond .le 19, 3) := by decide +kernel
theorem dX12_costFrom_36 : decode cX12_costFrom 36 = .ok (.aload_n 0, 1) := by decide +kernel
theorem dX12_costFrom_37 : decode cX12_costFrom 37 = .ok (.iload_n 1, 1) := by decide +kernel
theorem dX12_costFrom_38 : decode cX12_costFrom 38 = .ok (.iconst 2, 1) := by decide +kernel
theorem dX12_costFrom_39 : decode cX12_costFrom 39 = .ok (.iload 4, 2) := by decide +kernel
theorem dX12_costFrom_41 : decode cX12_costFrom 41 = .ok (.imul, 1) := by decide +kernel
theorem dX12_costFrom_42 : decode cX12_costFrom 42 = .ok (.iadd, 1) := by decide +kernel
theorem dX12_costFrom_43 : decode cX12_costFrom 43 = .ok (.iconst 1, 1) := by decide +kernel
theorem dX12_costFrom_44 : decode cX12_costFrom 44 = .ok (.isub, 1) := by decide +kernel
theorem dX12_costFrom_45 : decode cX12_costFrom 45 = .ok (.iconst 2, 1) := by decide +kernel
theorem dX12_costFrom_46 : decode cX12_costFrom 46 = .ok (.invokevirtual 288, 3) := by decide +kernel
theorem dX12_costFrom_49 : decode cX12_costFrom 49 = .ok (.goto 4, 3) := by decide +kernel
theorem dX12_costFrom_52 : decode cX12_costFrom 52 = .ok (.iconst 0, 1) := by decide +kernel
theorem dX12_costFrom_53 : decode cX12_costFrom 53 = .ok (.iadd, 1) := by decide +kernel
theorem dX12_costFrom_54 : decode cX12_costFrom 54 = .ok (.iadd, 1) := by decide +kernel
theorem dX12_costFrom_55 : decode cX12_costFrom 55 = .ok (.istore_n 3, 1) := by decide +kernel
theorem dX12_costFrom_56 : decode cX12_costFrom 56 = .ok (.iinc 4 1, 3) := by decide +kernel
theorem dX12_costFrom_59 : decode cX12_costFrom 59 = .ok (.goto (-54), 3) := by decide +kernel
theorem dX12_costFrom_62 : decode cX12_costFrom 62 = .ok (.iload_n 3, 1) := by decide +kernel
theorem dX12_costFrom_63 : decode cX12_costFrom 63 = .ok (.ireturn, 1) := by decide +kernel
theorem dX12_takes_0 : decode cX12_takes 0 = .ok (.aload_n 0, 1) := by decide +kernel
theorem dX12_takes_1 : decode cX12_takes 1 = .ok (.iload_n 1, 1) := by decide +kernel
theorem dX12_takes_2 : decode cX12_takes 2 = .ok (.invokevirtual 291, 3) := by decide +kernel
theorem dX12_takes_5 : decode cX12_takes 5 = .ok (.ifCond .eq 20, 3) := by decide +kernel
theorem dX12_takes_8 : decode cX12_takes 8 = .ok (.aload_n 0, 1) := by decide +kernel
theorem dX12_takes_9 : decode cX12_takes 9 = .ok (.iload_n 2, 1) := by decide +kernel
theorem dX12_takes_10 : decode cX12_takes 10 = .ok (.invokevirtual 251, 3) := by decide +kernel
theorem dX12_takes_13 : decode cX12_takes 13 = .ok (.ifCond .eq 12, 3) := by decide +kernel
theorem dX12_takes_16 : decode cX12_takes 16 = .ok (.aload_n 0, 1) := by decide +kernel
theorem dX12_takes_17 : decode cX12_takes 17 = .ok (.getfield 260, 3) := by decide +kernel
theorem dX12_takes_20 : decode cX12_takes 20 = .ok (.iconst 2, 1) := by decide +kernel
theorem dX12_takes_21 : decode cX12_takes 21 = .ok (.irem, 1) := by decide +kernel
theorem dX12_takes_22 : decode cX12_takes 22 = .ok (.ifCond .ne 5, 3) := by decide +kernel
theorem dX12_takes_25 : decode cX12_takes 25 = .ok (.iconst 0, 1) := by decide +kernel
theorem dX12_takes_26 : decode cX12_takes 26 = .ok (.ireturn, 1) := by decide +kernel
theorem dX12_takes_27 : decode cX12_takes 27 = .ok (.aload_n 0, 1) := by decide +kernel
theorem dX12_takes_28 : decode cX12_takes 28 = .ok (.iload_n 1, 1) := by decide +kernel
theorem dX12_takes_29 : decode cX12_takes 29 = .ok (.putfield 269, 3) := by decide +kernel
theorem dX12_takes_32 : decode cX12_takes 32 = .ok (.aload_n 0, 1) := by decide +kernel
theorem dX12_takes_33 : decode cX12_takes 33 = .ok (.aload_n 0, 1) := by decide +kernel
theorem dX12_takes_34 : decode cX12_takes 34 = .ok (.iload_n 2, 1) := by decide +kernel
theorem dX12_takes_35 : decode cX12_takes 35 = .ok (.invokevirtual 254, 3) := by decide +kernel
theorem dX12_takes_38 : decode cX12_takes 38 = .ok (.putfield 263, 3) := by decide +kernel
theorem dX12_takes_41 : decode cX12_takes 41 = .ok (.iconst 1, 1) := by decide +kernel
theorem dX12_takes_42 : decode cX12_takes 42 = .ok (.ireturn, 1) := by decide +kernel
theorem dX12_readings_0 : decode cX12_readings 0 = .ok (.aload_n 0, 1) := by decide +kernel
theorem dX12_readings_1 : decode cX12_readings 1 = .ok (.iload_n 1, 1) := by decide +kernel
theorem dX12_readings_2 : decode cX12_readings 2 = .ok (.iload_n 2, 1) := by decide +kernel
theorem dX12_readings_3 : decode cX12_readings 3 = .ok (.invokevirtual 294, 3) := by decide +kernel
theorem dX12_readings_6 : decode cX12_readings 6 = .ok (.ifCond .ne 5, 3) := by decide +kernel
theorem dX12_readings_9 : decode cX12_readings 9 = .ok (.iconst (-1), 1) := by decide +kernel
theorem dX12_readings_10 : decode cX12_readings 10 = .ok (.ireturn, 1) := by decide +kernel
theorem dX12_readings_11 : decode cX12_readings 11 = .ok (.aload_n 0, 1) := by decide +kernel
theorem dX12_readings_12 : decode cX12_readings 12 = .ok (.getfield 260, 3) := by decide +kernel
theorem dX12_readings_15 : decode cX12_readings 15 = .ok (.iconst 1, 1) := by decide +kernel
theorem dX12_readings_16 : decode cX12_readings 16 = .ok (.isub, 1) := by decide +kernel
theorem dX12_readings_17 : decode cX12_readings 17 = .ok (.istore_n 3, 1) := by decide +kernel
theorem dX12_readings_18 : decode cX12_readings 18 = .ok (.iload_n 3, 1) := by decide +kernel
theorem dX12_readings_19 : decode cX12_readings 19 = .ok (.ifCond .lt 168, 3) := by decide +kernel
theorem dX12_readings_22 : decode cX12_readings 22 = .ok (.aload_n 0, 1) := by decide +kernel
theorem dX12_readings_23 : decode cX12_readings 23 = .ok (.getfield 66, 3) := by decide +kernel
theorem dX12_readings_26 : decode cX12_readings 26 = .ok (.iload_n 3, 1) := by decide +kernel
theorem dX12_readings_27 : decode cX12_readings 27 = .ok (.iconst 0, 1) := by decide +kernel
theorem dX12_readings_28 : decode cX12_readings 28 = .ok (.iastore, 1) := by decide +kernel
theorem dX12_readings_29 : decode cX12_readings 29 = .ok (.iconst 0, 1) := by decide +kernel
theorem dX12_readings_30 : decode cX12_readings 30 = .ok (.istore 4, 2) := by decide +kernel
theorem dX12_readings_32 : decode cX12_readings 32 = .ok (.iload 4, 2) := by decide +kernel
theorem dX12_readings_34 : decode cX12_readings 34 = .ok (.bipush 26, 2) := by decide +kernel
theorem dX12_readings_36 : decode cX12_readings 36 = .ok (.if_icmp .ge 127, 3) := by decide +kernel
theorem dX12_readings_39 : decode cX12_readings 39 = .ok (.aload_n 0, 1) := by decide +kernel
theorem dX12_readings_40 : decode cX12_readings 40 = .ok (.getfield 15, 3) := by decide +kernel
theorem dX12_readings_43 : decode cX12_readings 43 = .ok (.iconst 0, 1) := by decide +kernel
theorem dX12_readings_44 : decode cX12_readings 44 = .ok (.aaload, 1) := by decide +kernel
theorem dX12_readings_45 : decode cX12_readings 45 = .ok (.iload 4, 2) := by decide +kernel
theorem dX12_readings_47 : decode cX12_readings 47 = .ok (.iaload, 1) := by decide +kernel
theorem dX12_readings_48 : decode cX12_readings 48 = .ok (.istore 5, 2) := by decide +kernel
theorem dX12_readings_50 : decode cX12_readings 50 = .ok (.iload 5, 2) := by decide +kernel
theorem dX12_readings_52 : decode cX12_readings 52 = .ok (.ifCond .eq 105, 3) := by decide +kernel
theorem dX12_readings_55 : decode cX12_readings 55 = .ok (.aload_n 0, 1) := by decide +kernel
theorem dX12_readings_56 : decode cX12_readings 56 = .ok (.iload_n 3, 1) := by decide +kernel
theorem dX12_readings_57 : decode cX12_readings 57 = .ok (.iload 5, 2) := by decide +kernel
theorem dX12_readings_59 : decode cX12_readings 59 = .ok (.invokevirtual 297, 3) := by decide +kernel
theorem dX12_readings_62 : decode cX12_readings 62 = .ok (.ifCond .ne 6, 3) := by decide +kernel
theorem dX12_readings_65 : decode cX12_readings 65 = .ok (.goto 92, 3) := by decide +kernel
theorem dX12_readings_68 : decode cX12_readings 68 = .ok (.iload_n 3, 1) := by decide +kernel
theorem dX12_readings_69 : decode cX12_readings 69 = .ok (.iconst 2, 1) := by decide +kernel
theorem dX12_readings_70 : decode cX12_readings 70 = .ok (.iload 5, 2) := by decide +kernel
theorem dX12_readings_72 : decode cX12_readings 72 = .ok (.invokestatic 277, 3) := by decide +kernel
theorem dX12_readings_75 : decode cX12_readings 75 = .ok (.imul, 1) := by decide +kernel
theorem dX12_readings_76 : decode cX12_readings 76 = .ok (.iadd, 1) := by decide +kernel
theorem dX12_readings_77 : decode cX12_readings 77 = .ok (.iconst 1, 1) := by decide +kernel
theorem dX12_readings_78 : decode cX12_readings 78 = .ok (.isub, 1) := by decide +kernel
theorem dX12_readings_79 : decode cX12_readings 79 = .ok (.istore 6, 2) := by decide +kernel
theorem dX12_readings_81 : decode cX12_readings 81 = .ok (.iload 6, 2) := by decide +kernel
theorem dX12_readings_83 : decode cX12_readings 83 = .ok (.aload_n 0, 1) := by decide +kernel
theorem dX12_readings_84 : decode cX12_readings 84 = .ok (.getfield 260, 3) := by decide +kernel
theorem dX12_readings_87 : decode cX12_readings 87 = .ok (.if_icmp .ne 16, 3) := by decide +kernel
theorem dX12_readings_90 : decode cX12_readings 90 = .ok (.aload_n 0, 1) := by decide +kernel
theorem dX12_readings_91 : decode cX12_readings 91 = .ok (.getfield 66, 3) := by decide +kernel
theorem dX12_readings_94 : decode cX12_readings 94 = .ok (.iload_n 3, 1) := by decide +kernel
theorem dX12_readings_95 : decode cX12_readings 95 = .ok (.dup2, 1) := by decide +kernel
theorem dX12_readings_96 : decode cX12_readings 96 = .ok (.iaload, 1) := by decide +kernel
theorem dX12_readings_97 : decode cX12_readings 97 = .ok (.iconst 1, 1) := by decide +kernel
theorem dX12_readings_98 : decode cX12_readings 98 = .ok (.iadd, 1) := by decide +kernel
theorem dX12_readings_99 : decode cX12_readings 99 = .ok (.iastore, 1) := by decide +kernel
theorem dX12_readings_100 : decode cX12_readings 100 = .ok (.goto 57, 3) := by decide +kernel
theorem dX12_readings_103 : decode cX12_readings 103 = .ok (.iconst 3, 1) := by decide +kernel
theorem dX12_readings_104 : decode cX12_readings 104 = .ok (.istore 7, 2) := by decide +kernel
theorem dX12_readings_106 : decode cX12_readings 106 = .ok (.iload 7, 2) := by decide +kernel
theorem dX12_readings_108 : decode cX12_readings 108 = .ok (.iconst 4, 1) := by decide +kernel
theorem dX12_readings_109 : decode cX12_readings 109 = .ok (.if_icmp .gt 48, 3) := by decide +kernel
theorem dX12_readings_112 : decode cX12_readings 112 = .ok (.aload_n 0, 1) := by decide +kernel
theorem dX12_readings_113 : decode cX12_readings 113 = .ok (.iload 6, 2) := by decide +kernel
theorem dX12_readings_115 : decode cX12_readings 115 = .ok (.iload 7, 2) := by decide +kernel
theorem dX12_readings_117 : decode cX12_readings 117 = .ok (.invokevirtual 284, 3) := by decide +kernel
theorem dX12_readings_120 : decode cX12_readings 120 = .ok (.ifCond .eq 31, 3) := by decide +kernel
theorem dX12_readings_123 : decode cX12_readings 123 = .ok (.aload_n 0, 1) := by decide +kernel
theorem dX12_readings_124 : decode cX12_readings 124 = .ok (.getfield 66, 3) := by decide +kernel
theorem dX12_readings_127 : decode cX12_readings 127 = .ok (.iload_n 3, 1) := by decide +kernel
theorem dX12_readings_128 : decode cX12_readings 128 = .ok (.ldc_w 300, 3) := by decide +kernel
theorem dX12_readings_131 : decode cX12_readings 131 = .ok (.aload_n 0, 1) := by decide +kernel
theorem dX12_readings_132 : decode cX12_readings 132 = .ok (.getfield 66, 3) := by decide +kernel
theorem dX12_readings_135 : decode cX12_readings 135 = .ok (.iload_n 3, 1) := by decide +kernel
theorem dX12_readings_136 : decode cX12_readings 136 = .ok (.iaload, 1) := by decide +kernel
theorem dX12_readings_137 : decode cX12_readings 137 = .ok (.aload_n 0, 1) := by decide +kernel
theorem dX12_readings_138 : decode cX12_readings 138 = .ok (.getfield 66, 3) := by decide +kernel
theorem dX12_readings_141 : decode cX12_readings 141 = .ok (.iload 6, 2) := by decide +kernel
theorem dX12_readings_143 : decode cX12_readings 143 = .ok (.iconst 1, 1) := by decide +kernel
theorem dX12_readings_144 : decode cX12_readings 144 = .ok (.iadd, 1) := by decide +kernel
theorem dX12_readings_145 : decode cX12_readings 145 = .ok (.iaload, 1) := by decide +kernel
theorem dX12_readings_146 : decode cX12_readings 146 = .ok (.iadd, 1) := by decide +kernel
theorem dX12_readings_147 : decode cX12_readings 147 = .ok (.invokestatic 301, 3) := by decide +kernel
theorem dX12_readings_150 : decode cX12_readings 150 = .ok (.iastore, 1) := by decide +kernel
theorem dX12_readings_151 : decode cX12_readings 151 = .ok (.iinc 7 1, 3) := by decide +kernel
theorem dX12_readings_154 : decode cX12_readings 154 = .ok (.goto (-48), 3) := by decide +kernel
theorem dX12_readings_157 : decode cX12_readings 157 = .ok (.iinc 4 1, 3) := by decide +kernel
theorem dX12_readings_160 : decode cX12_readings 160 = .ok (.goto (-128), 3) := by decide +kernel
theorem dX12_readings_163 : decode cX12_readings 163 = .ok (.aload_n 0, 1) := by decide +kernel
theorem dX12_readings_164 : decode cX12_readings 164 = .ok (.getfield 66, 3) := by decide +kernel
theorem dX12_readings_167 : decode cX12_readings 167 = .ok (.iload_n 3, 1) := by decide +kernel
theorem dX12_readings_168 : decode cX12_readings 168 = .ok (.ldc_w 300, 3) := by decide +kernel
theorem dX12_readings_171 : decode cX12_readings 171 = .ok (.aload_n 0, 1) := by decide +kernel
theorem dX12_readings_172 : decode cX12_readings 172 = .ok (.getfield 66, 3) := by decide +kernel
theorem dX12_readings_175 : decode cX12_readings 175 = .ok (.iload_n 3, 1) := by decide +kernel
theorem dX12_readings_176 : decode cX12_readings 176 = .ok (.iaload, 1) := by decide +kernel
theorem dX12_readings_177 : decode cX12_readings 177 = .ok (.invokestatic 301, 3) := by decide +kernel
theorem dX12_readings_180 : decode cX12_readings 180 = .ok (.iastore, 1) := by decide +kernel
theorem dX12_readings_181 : decode cX12_readings 181 = .ok (.iinc 3 (-2), 3) := by decide +kernel
theorem dX12_readings_184 : decode cX12_readings 184 = .ok (.goto (-166), 3) := by decide +kernel
theorem dX12_readings_187 : decode cX12_readings 187 = .ok (.aload_n 0, 1) := by decide +kernel
theorem dX12_readings_188 : decode cX12_readings 188 = .ok (.getfield 66, 3) := by decide +kernel
theorem dX12_readings_191 : decode cX12_readings 191 = .ok (.iconst 0, 1) := by decide +kernel
theorem dX12_readings_192 : decode cX12_readings 192 = .ok (.iaload, 1) := by decide +kernel
theorem dX12_readings_193 : decode cX12_readings 193 = .ok (.ireturn, 1) := by decide +kernel
theorem dX12_whole_0 : decode cX12_whole 0 = .ok (.aload_n 0, 1) := by decide +kernel
theorem dX12_whole_1 : decode cX12_whole 1 = .ok (.getfield 15, 3) := by decide +kernel
theorem dX12_whole_4 : decode cX12_whole 4 = .ok (.iconst 0, 1) := by decide +kernel
theorem dX12_whole_5 : decode cX12_whole 5 = .ok (.aaload, 1) := by decide +kernel
theorem dX12_whole_6 : decode cX12_whole 6 = .ok (.iload_n 2, 1) := by decide +kernel
theorem dX12_whole_7 : decode cX12_whole 7 = .ok (.iaload, 1) := by decide +kernel
theorem dX12_whole_8 : decode cX12_whole 8 = .ok (.istore 4, 2) := by decide +kernel
theorem dX12_whole_10 : decode cX12_whole 10 = .ok (.iload 4, 2) := by decide +kernel
theorem dX12_whole_12 : decode cX12_whole 12 = .ok (.ifCond .eq 13, 3) := by decide +kernel
theorem dX12_whole_15 : decode cX12_whole 15 = .ok (.aload_n 0, 1) := by decide +kernel
theorem dX12_whole_16 : decode cX12_whole 16 = .ok (.iload_n 1, 1) := by decide +kernel
theorem dX12_whole_17 : decode cX12_whole 17 = .ok (.iload 4, 2) := by decide +kernel
theorem dX12_whole_19 : decode cX12_whole 19 = .ok (.invokevirtual 297, 3) := by decide +kernel
theorem dX12_whole_22 : decode cX12_whole 22 = .ok (.ifCond .ne 5, 3) := by decide +kernel
theorem dX12_whole_25 : decode cX12_whole 25 = .ok (.iconst (-1), 1) := by decide +kernel
theorem dX12_whole_26 : decode cX12_whole 26 = .ok (.ireturn, 1) := by decide +kernel
theorem dX12_whole_27 : decode cX12_whole 27 = .ok (.iload_n 1, 1) := by decide +kernel
theorem dX12_whole_28 : decode cX12_whole 28 = .ok (.iconst 2, 1) := by decide +kernel
theorem dX12_whole_29 : decode cX12_whole 29 = .ok (.iload 4, 2) := by decide +kernel
theorem dX12_whole_31 : decode cX12_whole 31 = .ok (.invokestatic 277, 3) := by decide +kernel
theorem dX12_whole_34 : decode cX12_whole 34 = .ok (.imul, 1) := by decide +kernel
theorem dX12_whole_35 : decode cX12_whole 35 = .ok (.iadd, 1) := by decide +kernel
theorem dX12_whole_36 : decode cX12_whole 36 = .ok (.iconst 1, 1) := by decide +kernel
theorem dX12_whole_37 : decode cX12_whole 37 = .ok (.isub, 1) := by decide +kernel
theorem dX12_whole_38 : decode cX12_whole 38 = .ok (.istore 5, 2) := by decide +kernel
theorem dX12_whole_40 : decode cX12_whole 40 = .ok (.iload 5, 2) := by decide +kernel
theorem dX12_whole_42 : decode cX12_whole 42 = .ok (.aload_n 0, 1) := by decide +kernel
theorem dX12_whole_43 : decode cX12_whole 43 = .ok (.getfield 260, 3) := by decide +kernel
theorem dX12_whole_46 : decode cX12_whole 46 = .ok (.if_icmp .ne 20, 3) := by decide +kernel
theorem dX12_whole_49 : decode cX12_whole 49 = .ok (.iload_n 3, 1) := by decide +kernel
theorem dX12_whole_50 : decode cX12_whole 50 = .ok (.iconst 3, 1) := by decide +kernel
theorem dX12_whole_51 : decode cX12_whole 51 = .ok (.if_icmp .ne 13, 3) := by decide +kernel
theorem dX12_whole_54 : decode cX12_whole 54 = .ok (.aload_n 0, 1) := by decide +kernel
theorem dX12_whole_55 : decode cX12_whole 55 = .ok (.iload_n 1, 1) := by decide +kernel
theorem dX12_whole_56 : decode cX12_whole 56 = .ok (.iload 4, 2) := by decide +kernel
theorem dX12_whole_58 : decode cX12_whole 58 = .ok (.invokevirtual 304, 3) := by decide +kernel
theorem dX12_whole_61 : decode cX12_whole 61 = .ok (.goto 4, 3) := by decide +kernel
theorem dX12_whole_64 : decode cX12_whole 64 = .ok (.iconst (-1), 1) := by decide +kernel
theorem dX12_whole_65 : decode cX12_whole 65 = .ok (.ireturn, 1) := by decide +kernel
theorem dX12_whole_66 : decode cX12_whole 66 = .ok (.aload_n 0, 1) := by decide +kernel
theorem dX12_whole_67 : decode cX12_whole 67 = .ok (.iload 5, 2) := by decide +kernel
theorem dX12_whole_69 : decode cX12_whole 69 = .ok (.iload_n 3, 1) := by decide +kernel
theorem dX12_whole_70 : decode cX12_whole 70 = .ok (.invokevirtual 284, 3) := by decide +kernel
theorem dX12_whole_73 : decode cX12_whole 73 = .ok (.ifCond .eq 16, 3) := by decide +kernel
theorem dX12_whole_76 : decode cX12_whole 76 = .ok (.aload_n 0, 1) := by decide +kernel
theorem dX12_whole_77 : decode cX12_whole 77 = .ok (.getfield 69, 3) := by decide +kernel
theorem dX12_whole_80 : decode cX12_whole 80 = .ok (.iload 5, 2) := by decide +kernel
theorem dX12_whole_82 : decode cX12_whole 82 = .ok (.iconst 1, 1) := by decide +kernel
theorem dX12_whole_83 : decode cX12_whole 83 = .ok (.iadd, 1) := by decide +kernel
theorem dX12_whole_84 : decode cX12_whole 84 = .ok (.iaload, 1) := by decide +kernel
theorem dX12_whole_85 : decode cX12_whole 85 = .ok (.iconst (-1), 1) := by decide +kernel
theorem dX12_whole_86 : decode cX12_whole 86 = .ok (.if_icmp .ne 5, 3) := by decide +kernel
theorem dX12_whole_89 : decode cX12_whole 89 = .ok (.iconst (-1), 1) := by decide +kernel
theorem dX12_whole_90 : decode cX12_whole 90 = .ok (.ireturn, 1) := by decide +kernel
theorem dX12_whole_91 : decode cX12_whole 91 = .ok (.aload_n 0, 1) := by decide +kernel
theorem dX12_whole_92 : decode cX12_whole 92 = .ok (.iload_n 1, 1) := by decide +kernel
theorem dX12_whole_93 : decode cX12_whole 93 = .ok (.iload 4, 2) := by decide +kernel
theorem dX12_whole_95 : decode cX12_whole 95 = .ok (.invokevirtual 304, 3) := by decide +kernel
theorem dX12_whole_98 : decode cX12_whole 98 = .ok (.aload_n 0, 1) := by decide +kernel
theorem dX12_whole_99 : decode cX12_whole 99 = .ok (.iload 5, 2) := by decide +kernel
theorem dX12_whole_101 : decode cX12_whole 101 = .ok (.iload_n 3, 1) := by decide +kernel
theorem dX12_whole_102 : decode cX12_whole 102 = .ok (.invokevirtual 288, 3) := by decide +kernel
theorem dX12_whole_105 : decode cX12_whole 105 = .ok (.iadd, 1) := by decide +kernel
theorem dX12_whole_106 : decode cX12_whole 106 = .ok (.aload_n 0, 1) := by decide +kernel
theorem dX12_whole_107 : decode cX12_whole 107 = .ok (.getfield 69, 3) := by decide +kernel
theorem dX12_whole_110 : decode cX12_whole 110 = .ok (.iload 5, 2) := by decide +kernel
theorem dX12_whole_112 : decode cX12_whole 112 = .ok (.iconst 1, 1) := by decide +kernel
theorem dX12_whole_113 : decode cX12_whole 113 = .ok (.iadd, 1) := by decide +kernel
theorem dX12_whole_114 : decode cX12_whole 114 = .ok (.iaload, 1) := by decide +kernel
theorem dX12_whole_115 : decode cX12_whole 115 = .ok (.iadd, 1) := by decide +kernel
theorem dX12_whole_116 : decode cX12_whole 116 = .ok (.ireturn, 1) := by decide +kernel
theorem dX12_nearest_0 : decode cX12_nearest 0 = .ok (.aload_n 0, 1) := by decide +kernel
theorem dX12_nearest_1 : decode cX12_nearest 1 = .ok (.iload_n 1, 1) := by decide +kernel
theorem dX12_nearest_2 : decode cX12_nearest 2 = .ok (.iload_n 2, 1) := by decide +kernel
theorem dX12_nearest_3 : decode cX12_nearest 3 = .ok (.invokevirtual 294, 3) := by decide +kernel
theorem dX12_nearest_6 : decode cX12_nearest 6 = .ok (.ifCond .ne 5, 3) := by decide +kernel
theorem dX12_nearest_9 : decode cX12_nearest 9 = .ok (.iconst (-1), 1) := by decide +kernel
theorem dX12_nearest_10 : decode cX12_nearest 10 = .ok (.ireturn, 1) := by decide +kernel
theorem dX12_nearest_11 : decode cX12_nearest 11 = .ok (.aload_n 0, 1) := by decide +kernel
theorem dX12_nearest_12 : decode cX12_nearest 12 = .ok (.getfield 260, 3) := by decide +kernel
theorem dX12_nearest_15 : decode cX12_nearest 15 = .ok (.iconst 1, 1) := by decide +kernel
theorem dX12_nearest_16 : decode cX12_nearest 16 = .ok (.isub, 1) := by decide +kernel
theorem dX12_nearest_17 : decode cX12_nearest 17 = .ok (.istore 4, 2) := by decide +kernel
theorem dX12_nearest_19 : decode cX12_nearest 19 = .ok (.iload 4, 2) := by decide +kernel
theorem dX12_nearest_21 : decode cX12_nearest 21 = .ok (.ifCond .lt 98, 3) := by decide +kernel
theorem dX12_nearest_24 : decode cX12_nearest 24 = .ok (.aload_n 0, 1) := by decide +kernel
theorem dX12_nearest_25 : decode cX12_nearest 25 = .ok (.getfield 69, 3) := by decide +kernel
theorem dX12_nearest_28 : decode cX12_nearest 28 = .ok (.iload 4, 2) := by decide +kernel
theorem dX12_nearest_30 : decode cX12_nearest 30 = .ok (.iconst (-1), 1) := by decide +kernel
theorem dX12_nearest_31 : decode cX12_nearest 31 = .ok (.iastore, 1) := by decide +kernel
theorem dX12_nearest_32 : decode cX12_nearest 32 = .ok (.iconst 0, 1) := by decide +kernel
theorem dX12_nearest_33 : decode cX12_nearest 33 = .ok (.istore 5, 2) := by decide +kernel
theorem dX12_nearest_35 : decode cX12_nearest 35 = .ok (.iload 5, 2) := by decide +kernel
theorem dX12_nearest_37 : decode cX12_nearest 37 = .ok (.bipush 26, 2) := by decide +kernel
theorem dX12_nearest_39 : decode cX12_nearest 39 = .ok (.if_icmp .ge 74, 3) := by decide +kernel
theorem dX12_nearest_42 : decode cX12_nearest 42 = .ok (.iconst 3, 1) := by decide +kernel
theorem dX12_nearest_43 : decode cX12_nearest 43 = .ok (.istore 6, 2) := by decide +kernel
theorem dX12_nearest_45 : decode cX12_nearest 45 = .ok (.iload 6, 2) := by decide +kernel
theorem dX12_nearest_47 : decode cX12_nearest 47 = .ok (.iconst 4, 1) := by decide +kernel
theorem dX12_nearest_48 : decode cX12_nearest 48 = .ok (.if_icmp .gt 59, 3) := by decide +kernel
theorem dX12_nearest_51 : decode cX12_nearest 51 = .ok (.aload_n 0, 1) := by decide +kernel
theorem dX12_nearest_52 : decode cX12_nearest 52 = .ok (.iload 4, 2) := by decide +kernel
theorem dX12_nearest_54 : decode cX12_nearest 54 = .ok (.iload 5, 2) := by decide +kernel
theorem dX12_nearest_56 : decode cX12_nearest 56 = .ok (.iload 6, 2) := by decide +kernel
theorem dX12_nearest_58 : decode cX12_nearest 58 = .ok (.invokevirtual 307, 3) := by decide +kernel
theorem dX12_nearest_61 : decode cX12_nearest 61 = .ok (.istore 7, 2) := by decide +kernel
theorem dX12_nearest_63 : decode cX12_nearest 63 = .ok (.iload 7, 2) := by decide +kernel
theorem dX12_nearest_65 : decode cX12_nearest 65 = .ok (.iconst (-1), 1) := by decide +kernel
theorem dX12_nearest_66 : decode cX12_nearest 66 = .ok (.if_icmp .eq 35, 3) := by decide +kernel
theorem dX12_nearest_69 : decode cX12_nearest 69 = .ok (.aload_n 0, 1) := by decide +kernel
theorem dX12_nearest_70 : decode cX12_nearest 70 = .ok (.getfield 69, 3) := by decide +kernel
theorem dX12_nearest_73 : decode cX12_nearest 73 = .ok (.iload 4, 2) := by decide +kernel
theorem dX12_nearest_75 : decode cX12_nearest 75 = .ok (.iaload, 1) := by decide +kernel
theorem dX12_nearest_76 : decode cX12_nearest 76 = .ok (.iconst (-1), 1) := by decide +kernel
theorem dX12_nearest_77 : decode cX12_nearest 77 = .ok (.if_icmp .eq 15, 3) := by decide +kernel
theorem dX12_nearest_80 : decode cX12_nearest 80 = .ok (.iload 7, 2) := by decide +kernel
theorem dX12_nearest_82 : decode cX12_nearest 82 = .ok (.aload_n 0, 1) := by decide +kernel
theorem dX12_nearest_83 : decode cX12_nearest 83 = .ok (.getfield 69, 3) := by decide +kernel
theorem dX12_nearest_86 : decode cX12_nearest 86 = .ok (.iload 4, 2) := by decide +kernel
theorem dX12_nearest_88 : decode cX12_nearest 88 = .ok (.iaload, 1) := by decide +kernel
theorem dX12_nearest_89 : decode cX12_nearest 89 = .ok (.if_icmp .ge 12, 3) := by decide +kernel
theorem dX12_nearest_92 : decode cX12_nearest 92 = .ok (.aload_n 0, 1) := by decide +kernel
theorem dX12_nearest_93 : decode cX12_nearest 93 = .ok (.getfield 69, 3) := by decide +kernel
theorem dX12_nearest_96 : decode cX12_nearest 96 = .ok (.iload 4, 2) := by decide +kernel
theorem dX12_nearest_98 : decode cX12_nearest 98 = .ok (.iload 7, 2) := by decide +kernel
theorem dX12_nearest_100 : decode cX12_nearest 100 = .ok (.iastore, 1) := by decide +kernel
theorem dX12_nearest_101 : decode cX12_nearest 101 = .ok (.iinc 6 1, 3) := by decide +kernel
theorem dX12_nearest_104 : decode cX12_nearest 104 = .ok (.goto (-59), 3) := by decide +kernel
theorem dX12_nearest_107 : decode cX12_nearest 107 = .ok (.iinc 5 1, 3) := by decide +kernel
theorem dX12_nearest_110 : decode cX12_nearest 110 = .ok (.goto (-75), 3) := by decide +kernel
theorem dX12_nearest_113 : decode cX12_nearest 113 = .ok (.iinc 4 (-2), 3) := by decide +kernel
theorem dX12_nearest_116 : decode cX12_nearest 116 = .ok (.goto (-97), 3) := by decide +kernel
theorem dX12_nearest_119 : decode cX12_nearest 119 = .ok (.aload_n 0, 1) := by decide +kernel
theorem dX12_nearest_120 : decode cX12_nearest 120 = .ok (.getfield 69, 3) := by decide +kernel
theorem dX12_nearest_123 : decode cX12_nearest 123 = .ok (.iconst 0, 1) := by decide +kernel
theorem dX12_nearest_124 : decode cX12_nearest 124 = .ok (.iaload, 1) := by decide +kernel
theorem dX12_nearest_125 : decode cX12_nearest 125 = .ok (.iconst (-1), 1) := by decide +kernel
theorem dX12_nearest_126 : decode cX12_nearest 126 = .ok (.if_icmp .ne 5, 3) := by decide +kernel
theorem dX12_nearest_129 : decode cX12_nearest 129 = .ok (.iconst (-1), 1) := by decide +kernel
theorem dX12_nearest_130 : decode cX12_nearest 130 = .ok (.ireturn, 1) := by decide +kernel
theorem dX12_nearest_131 : decode cX12_nearest 131 = .ok (.iload_n 3, 1) := by decide +kernel
theorem dX12_nearest_132 : decode cX12_nearest 132 = .ok (.bipush (-2), 2) := by decide +kernel
theorem dX12_nearest_134 : decode cX12_nearest 134 = .ok (.if_icmp .ne 10, 3) := by decide +kernel
theorem dX12_nearest_137 : decode cX12_nearest 137 = .ok (.aload_n 0, 1) := by decide +kernel
theorem dX12_nearest_138 : decode cX12_nearest 138 = .ok (.getfield 69, 3) := by decide +kernel
theorem dX12_nearest_141 : decode cX12_nearest 141 = .ok (.iconst 0, 1) := by decide +kernel
theorem dX12_nearest_142 : decode cX12_nearest 142 = .ok (.iaload, 1) := by decide +kernel
theorem dX12_nearest_143 : decode cX12_nearest 143 = .ok (.ireturn, 1) := by decide +kernel
theorem dX12_nearest_144 : decode cX12_nearest 144 = .ok (.iconst 0, 1) := by decide +kernel
theorem dX12_nearest_145 : decode cX12_nearest 145 = .ok (.istore 4, 2) := by decide +kernel
theorem dX12_nearest_147 : decode cX12_nearest 147 = .ok (.iconst 0, 1) := by decide +kernel
theorem dX12_nearest_148 : decode cX12_nearest 148 = .ok (.istore 5, 2) := by decide +kernel
theorem dX12_nearest_150 : decode cX12_nearest 150 = .ok (.iload 5, 2) := by decide +kernel
theorem dX12_nearest_152 : decode cX12_nearest 152 = .ok (.aload_n 0, 1) := by decide +kernel
theorem dX12_nearest_153 : decode cX12_nearest 153 = .ok (.getfield 260, 3) := by decide +kernel
theorem dX12_nearest_156 : decode cX12_nearest 156 = .ok (.if_icmp .ge 118, 3) := by decide +kernel
theorem dX12_nearest_159 : decode cX12_nearest 159 = .ok (.iconst 0, 1) := by decide +kernel
theorem dX12_nearest_160 : decode cX12_nearest 160 = .ok (.istore 6, 2) := by decide +kernel
theorem dX12_nearest_162 : decode cX12_nearest 162 = .ok (.iconst 3, 1) := by decide +kernel
theorem dX12_nearest_163 : decode cX12_nearest 163 = .ok (.istore 7, 2) := by decide +kernel
theorem dX12_nearest_165 : decode cX12_nearest 165 = .ok (.aload_n 0, 1) := by decide +kernel
theorem dX12_nearest_166 : decode cX12_nearest 166 = .ok (.iload 5, 2) := by decide +kernel
theorem dX12_nearest_168 : decode cX12_nearest 168 = .ok (.iload 6, 2) := by decide +kernel
theorem dX12_nearest_170 : decode cX12_nearest 170 = .ok (.iload 7, 2) := by decide +kernel
theorem dX12_nearest_172 : decode cX12_nearest 172 = .ok (.invokevirtual 307, 3) := by decide +kernel
theorem dX12_nearest_175 : decode cX12_nearest 175 = .ok (.aload_n 0, 1) := by decide +kernel
theorem dX12_nearest_176 : decode cX12_nearest 176 = .ok (.getfield 69, 3) := by decide +kernel
theorem dX12_nearest_179 : decode cX12_nearest 179 = .ok (.iload 5, 2) := by decide +kernel
theorem dX12_nearest_181 : decode cX12_nearest 181 = .ok (.iaload, 1) := by decide +kernel
theorem dX12_nearest_182 : decode cX12_nearest 182 = .ok (.if_icmp .eq 36, 3) := by decide +kernel
theorem dX12_nearest_185 : decode cX12_nearest 185 = .ok (.iload 7, 2) := by decide +kernel
theorem dX12_nearest_187 : decode cX12_nearest 187 = .ok (.iconst 4, 1) := by decide +kernel
theorem dX12_nearest_188 : decode cX12_nearest 188 = .ok (.if_icmp .ne 10, 3) := by decide +kernel
theorem dX12_nearest_191 : decode cX12_nearest 191 = .ok (.iload 6, 2) := by decide +kernel
theorem dX12_nearest_193 : decode cX12_nearest 193 = .ok (.iconst 1, 1) := by decide +kernel
theorem dX12_nearest_194 : decode cX12_nearest 194 = .ok (.iadd, 1) := by decide +kernel
theorem dX12_nearest_195 : decode cX12_nearest 195 = .ok (.goto 5, 3) := by decide +kernel
theorem dX12_nearest_198 : decode cX12_nearest 198 = .ok (.iload 6, 2) := by decide +kernel
theorem dX12_nearest_200 : decode cX12_nearest 200 = .ok (.istore 6, 2) := by decide +kernel
theorem dX12_nearest_202 : decode cX12_nearest 202 = .ok (.iload 7, 2) := by decide +kernel
theorem dX12_nearest_204 : decode cX12_nearest 204 = .ok (.iconst 4, 1) := by decide +kernel
theorem dX12_nearest_205 : decode cX12_nearest 205 = .ok (.if_icmp .ne 7, 3) := by decide +kernel
theorem dX12_nearest_208 : decode cX12_nearest 208 = .ok (.iconst 3, 1) := by decide +kernel
theorem dX12_nearest_209 : decode cX12_nearest 209 = .ok (.goto 4, 3) := by decide +kernel
theorem dX12_nearest_212 : decode cX12_nearest 212 = .ok (.iconst 4, 1) := by decide +kernel
theorem dX12_nearest_213 : decode cX12_nearest 213 = .ok (.istore 7, 2) := by decide +kernel
theorem dX12_nearest_215 : decode cX12_nearest 215 = .ok (.goto (-50), 3) := by decide +kernel
theorem dX12_nearest_218 : decode cX12_nearest 218 = .ok (.aload_n 0, 1) := by decide +kernel
theorem dX12_nearest_219 : decode cX12_nearest 219 = .ok (.getfield 72, 3) := by decide +kernel
theorem dX12_nearest_222 : decode cX12_nearest 222 = .ok (.iload 4, 2) := by decide +kernel
theorem dX12_nearest_224 : decode cX12_nearest 224 = .ok (.bipush 97, 2) := by decide +kernel
theorem dX12_nearest_226 : decode cX12_nearest 226 = .ok (.iload 6, 2) := by decide +kernel
theorem dX12_nearest_228 : decode cX12_nearest 228 = .ok (.iadd, 1) := by decide +kernel
theorem dX12_nearest_229 : decode cX12_nearest 229 = .ok (.i2b, 1) := by decide +kernel
theorem dX12_nearest_230 : decode cX12_nearest 230 = .ok (.bastore, 1) := by decide +kernel
theorem dX12_nearest_231 : decode cX12_nearest 231 = .ok (.iinc 4 1, 3) := by decide +kernel
theorem dX12_nearest_234 : decode cX12_nearest 234 = .ok (.iload 5, 2) := by decide +kernel
theorem dX12_nearest_236 : decode cX12_nearest 236 = .ok (.iconst 2, 1) := by decide +kernel
theorem dX12_nearest_237 : decode cX12_nearest 237 = .ok (.aload_n 0, 1) := by decide +kernel
theorem dX12_nearest_238 : decode cX12_nearest 238 = .ok (.getfield 15, 3) := by decide +kernel
theorem dX12_nearest_241 : decode cX12_nearest 241 = .ok (.iconst 0, 1) := by decide +kernel
theorem dX12_nearest_242 : decode cX12_nearest 242 = .ok (.aaload, 1) := by decide +kernel
theorem dX12_nearest_243 : decode cX12_nearest 243 = .ok (.iload 6, 2) := by decide +kernel
theorem dX12_nearest_245 : decode cX12_nearest 245 = .ok (.iaload, 1) := by decide +kernel
theorem dX12_nearest_246 : decode cX12_nearest 246 = .ok (.invokestatic 277, 3) := by decide +kernel
theorem dX12_nearest_249 : decode cX12_nearest 249 = .ok (.imul, 1) := by decide +kernel
theorem dX12_nearest_250 : decode cX12_nearest 250 = .ok (.iadd, 1) := by decide +kernel
theorem dX12_nearest_251 : decode cX12_nearest 251 = .ok (.istore 5, 2) := by decide +kernel
theorem dX12_nearest_253 : decode cX12_nearest 253 = .ok (.iload 7, 2) := by decide +kernel
theorem dX12_nearest_255 : decode cX12_nearest 255 = .ok (.iconst 4, 1) := by decide +kernel
theorem dX12_nearest_256 : decode cX12_nearest 256 = .ok (.if_icmp .ne 15, 3) := by decide +kernel
theorem dX12_nearest_259 : decode cX12_nearest 259 = .ok (.aload_n 0, 1) := by decide +kernel
theorem dX12_nearest_260 : decode cX12_nearest 260 = .ok (.getfield 72, 3) := by decide +kernel
theorem dX12_nearest_263 : decode cX12_nearest 263 = .ok (.iload 4, 2) := by decide +kernel
theorem dX12_nearest_265 : decode cX12_nearest 265 = .ok (.bipush 32, 2) := by decide +kernel
theorem dX12_nearest_267 : decode cX12_nearest 267 = .ok (.bastore, 1) := by decide +kernel
theorem dX12_nearest_268 : decode cX12_nearest 268 = .ok (.iinc 4 1, 3) := by decide +kernel
theorem dX12_nearest_271 : decode cX12_nearest 271 = .ok (.goto (-121), 3) := by decide +kernel
theorem dX12_nearest_274 : decode cX12_nearest 274 = .ok (.iload_n 3, 1) := by decide +kernel
theorem dX12_nearest_275 : decode cX12_nearest 275 = .ok (.iconst (-1), 1) := by decide +kernel
theorem dX12_nearest_276 : decode cX12_nearest 276 = .ok (.if_icmp .ne 8, 3) := by decide +kernel
theorem dX12_nearest_279 : decode cX12_nearest 279 = .ok (.iload 4, 2) := by decide +kernel
theorem dX12_nearest_281 : decode cX12_nearest 281 = .ok (.goto 27, 3) := by decide +kernel
theorem dX12_nearest_284 : decode cX12_nearest 284 = .ok (.iload_n 3, 1) := by decide +kernel
theorem dX12_nearest_285 : decode cX12_nearest 285 = .ok (.i2l, 1) := by decide +kernel
theorem dX12_nearest_286 : decode cX12_nearest 286 = .ok (.lconst 0, 1) := by decide +kernel
theorem dX12_nearest_287 : decode cX12_nearest 287 = .ok (.iload 4, 2) := by decide +kernel
theorem dX12_nearest_289 : decode cX12_nearest 289 = .ok (.iconst 1, 1) := by decide +kernel
theorem dX12_nearest_290 : decode cX12_nearest 290 = .ok (.isub, 1) := by decide +kernel
theorem dX12_nearest_291 : decode cX12_nearest 291 = .ok (.i2l, 1) := by decide +kernel
theorem dX12_nearest_292 : decode cX12_nearest 292 = .ok (.invokestatic 155, 3) := by decide +kernel
theorem dX12_nearest_295 : decode cX12_nearest 295 = .ok (.ifCond .eq 12, 3) := by decide +kernel
theorem dX12_nearest_298 : decode cX12_nearest 298 = .ok (.aload_n 0, 1) := by decide +kernel
theorem dX12_nearest_299 : decode cX12_nearest 299 = .ok (.getfield 72, 3) := by decide +kernel
theorem dX12_nearest_302 : decode cX12_nearest 302 = .ok (.iload_n 3, 1) := by decide +kernel
theorem dX12_nearest_303 : decode cX12_nearest 303 = .ok (.baload, 1) := by decide +kernel
theorem dX12_nearest_304 : decode cX12_nearest 304 = .ok (.goto 4, 3) := by decide +kernel
theorem dX12_nearest_307 : decode cX12_nearest 307 = .ok (.iconst (-1), 1) := by decide +kernel
theorem dX12_nearest_308 : decode cX12_nearest 308 = .ok (.ireturn, 1) := by decide +kernel
theorem dX12_isSaying_0 : decode cX12_isSaying 0 = .ok (.iconst 0, 1) := by decide +kernel
theorem dX12_isSaying_1 : decode cX12_isSaying 1 = .ok (.istore_n 1, 1) := by decide +kernel
theorem dX12_isSaying_2 : decode cX12_isSaying 2 = .ok (.iload_n 1, 1) := by decide +kernel
theorem dX12_isSaying_3 : decode cX12_isSaying 3 = .ok (.aload_n 0, 1) := by decide +kernel
theorem dX12_isSaying_4 : decode cX12_isSaying 4 = .ok (.getfield 147, 3) := by decide +kernel
theorem dX12_isSaying_7 : decode cX12_isSaying 7 = .ok (.if_icmp .ge 77, 3) := by decide +kernel
theorem dX12_isSaying_10 : decode cX12_isSaying 10 = .ok (.aload_n 0, 1) := by decide +kernel
theorem dX12_isSaying_11 : decode cX12_isSaying 11 = .ok (.getfield 9, 3) := by decide +kernel
theorem dX12_isSaying_14 : decode cX12_isSaying 14 = .ok (.iload_n 1, 1) := by decide +kernel
theorem dX12_isSaying_15 : decode cX12_isSaying 15 = .ok (.baload, 1) := by decide +kernel
theorem dX12_isSaying_16 : decode cX12_isSaying 16 = .ok (.bipush 32, 2) := by decide +kernel
theorem dX12_isSaying_18 : decode cX12_isSaying 18 = .ok (.if_icmp .ne 7, 3) := by decide +kernel
theorem dX12_isSaying_21 : decode cX12_isSaying 21 = .ok (.iconst 1, 1) := by decide +kernel
theorem dX12_isSaying_22 : decode cX12_isSaying 22 = .ok (.goto 4, 3) := by decide +kernel
theorem dX12_isSaying_25 : decode cX12_isSaying 25 = .ok (.iconst 0, 1) := by decide +kernel
theorem dX12_isSaying_26 : decode cX12_isSaying 26 = .ok (.istore_n 2, 1) := by decide +kernel
theorem dX12_isSaying_27 : decode cX12_isSaying 27 = .ok (.iload_n 2, 1) := by decide +kernel
theorem dX12_isSaying_28 : decode cX12_isSaying 28 = .ok (.ifCond .ne 17, 3) := by decide +kernel
theorem dX12_isSaying_31 : decode cX12_isSaying 31 = .ok (.aload_n 0, 1) := by decide +kernel
theorem dX12_isSaying_32 : decode cX12_isSaying 32 = .ok (.iload_n 1, 1) := by decide +kernel
theorem dX12_isSaying_33 : decode cX12_isSaying 33 = .ok (.bipush 97, 2) := by decide +kernel
theorem dX12_isSaying_35 : decode cX12_isSaying 35 = .ok (.bipush 122, 2) := by decide +kernel
theorem dX12_isSaying_37 : decode cX12_isSaying 37 = .ok (.invokevirtual 165, 3) := by decide +kernel
theorem dX12_isSaying_40 : decode cX12_isSaying 40 = .ok (.ifCond .ne 5, 3) := by decide +kernel
theorem dX12_isSaying_43 : decode cX12_isSaying 43 = .ok (.iconst 0, 1) := by decide +kernel
theorem dX12_isSaying_44 : decode cX12_isSaying 44 = .ok (.ireturn, 1) := by decide +kernel
theorem dX12_isSaying_45 : decode cX12_isSaying 45 = .ok (.iload_n 2, 1) := by decide +kernel
theorem dX12_isSaying_46 : decode cX12_isSaying 46 = .ok (.ifCond .eq 32, 3) := by decide +kernel
theorem dX12_isSaying_49 : decode cX12_isSaying 49 = .ok (.iload_n 1, 1) := by decide +kernel
theorem dX12_isSaying_50 : decode cX12_isSaying 50 = .ok (.ifCond .eq 26, 3) := by decide +kernel
theorem dX12_isSaying_53 : decode cX12_isSaying 53 = .ok (.iload_n 1, 1) := by decide +kernel
theorem dX12_isSaying_54 : decode cX12_isSaying 54 = .ok (.aload_n 0, 1) := by decide +kernel
theorem dX12_isSaying_55 : decode cX12_isSaying 55 = .ok (.getfield 147, 3) := by decide +kernel
theorem dX12_isSaying_58 : decode cX12_isSaying 58 = .ok (.iconst 1, 1) := by decide +kernel
theorem dX12_isSaying_59 : decode cX12_isSaying 59 = .ok (.isub, 1) := by decide +kernel
theorem dX12_isSaying_60 : decode cX12_isSaying 60 = .ok (.if_icmp .eq 16, 3) := by decide +kernel
theorem dX12_isSaying_63 : decode cX12_isSaying 63 = .ok (.aload_n 0, 1) := by decide +kernel
theorem dX12_isSaying_64 : decode cX12_isSaying 64 = .ok (.getfield 9, 3) := by decide +kernel
theorem dX12_isSaying_67 : decode cX12_isSaying 67 = .ok (.iload_n 1, 1) := by decide +kernel
theorem dX12_isSaying_68 : decode cX12_isSaying 68 = .ok (.iconst 1, 1) := by decide +kernel
theorem dX12_isSaying_69 : decode cX12_isSaying 69 = .ok (.isub, 1) := by decide +kernel
theorem dX12_isSaying_70 : decode cX12_isSaying 70 = .ok (.baload, 1) := by decide +kernel
theorem dX12_isSaying_71 : decode cX12_isSaying 71 = .ok (.bipush 32, 2) := by decide +kernel
theorem dX12_isSaying_73 : decode cX12_isSaying 73 = .ok (.if_icmp .ne 5, 3) := by decide +kernel
theorem dX12_isSaying_76 : decode cX12_isSaying 76 = .ok (.iconst 0, 1) := by decide +kernel
theorem dX12_isSaying_77 : decode cX12_isSaying 77 = .ok (.ireturn, 1) := by decide +kernel
theorem dX12_isSaying_78 : decode cX12_isSaying 78 = .ok (.iinc 1 1, 3) := by decide +kernel
theorem dX12_isSaying_81 : decode cX12_isSaying 81 = .ok (.goto (-79), 3) := by decide +kernel
theorem dX12_isSaying_84 : decode cX12_isSaying 84 = .ok (.aload_n 0, 1) := by decide +kernel
theorem dX12_isSaying_85 : decode cX12_isSaying 85 = .ok (.getfield 147, 3) := by decide +kernel
theorem dX12_isSaying_88 : decode cX12_isSaying 88 = .ok (.ifCond .le 7, 3) := by decide +kernel
theorem dX12_isSaying_91 : decode cX12_isSaying 91 = .ok (.iconst 1, 1) := by decide +kernel
theorem dX12_isSaying_92 : decode cX12_isSaying 92 = .ok (.goto 4, 3) := by decide +kernel
theorem dX12_isSaying_95 : decode cX12_isSaying 95 = .ok (.iconst 0, 1) := by decide +kernel
theorem dX12_isSaying_96 : decode cX12_isSaying 96 = .ok (.ireturn, 1) := by decide +kernel
theorem dX12_adds_0 : decode cX12_adds 0 = .ok (.aload_n 0, 1) := by decide +kernel
theorem dX12_adds_1 : decode cX12_adds 1 = .ok (.getfield 311, 3) := by decide +kernel
theorem dX12_adds_4 : decode cX12_adds 4 = .ok (.bipush 120, 2) := by decide +kernel
theorem dX12_adds_6 : decode cX12_adds 6 = .ok (.if_icmp .gt 13, 3) := by decide +kernel
theorem dX12_adds_9 : decode cX12_adds 9 = .ok (.aload_n 0, 1) := by decide +kernel
theorem dX12_adds_10 : decode cX12_adds 10 = .ok (.getfield 75, 3) := by decide +kernel
theorem dX12_adds_13 : decode cX12_adds 13 = .ok (.aload_n 0, 1) := by decide +kernel
theorem dX12_adds_14 : decode cX12_adds 14 = .ok (.getfield 311, 3) := by decide +kernel
theorem dX12_adds_17 : decode cX12_adds 17 = .ok (.iload_n 1, 1) := by decide +kernel
theorem dX12_adds_18 : decode cX12_adds 18 = .ok (.iastore, 1) := by decide +kernel
theorem dX12_adds_19 : decode cX12_adds 19 = .ok (.aload_n 0, 1) := by decide +kernel
theorem dX12_adds_20 : decode cX12_adds 20 = .ok (.dup, 1) := by decide +kernel
theorem dX12_adds_21 : decode cX12_adds 21 = .ok (.getfield 311, 3) := by decide +kernel
theorem dX12_adds_24 : decode cX12_adds 24 = .ok (.iconst 1, 1) := by decide +kernel
theorem dX12_adds_25 : decode cX12_adds 25 = .ok (.iadd, 1) := by decide +kernel
theorem dX12_adds_26 : decode cX12_adds 26 = .ok (.putfield 311, 3) := by decide +kernel
theorem dX12_adds_29 : decode cX12_adds 29 = .ok (.return_, 1) := by decide +kernel
theorem dX12_lays_0 : decode cX12_lays 0 = .ok (.aload_n 0, 1) := by decide +kernel
theorem dX12_lays_1 : decode cX12_lays 1 = .ok (.iconst 0, 1) := by decide +kernel
theorem dX12_lays_2 : decode cX12_lays 2 = .ok (.putfield 311, 3) := by decide +kernel
theorem dX12_lays_5 : decode cX12_lays 5 = .ok (.iconst 0, 1) := by decide +kernel
theorem dX12_lays_6 : decode cX12_lays 6 = .ok (.istore_n 1, 1) := by decide +kernel
theorem dX12_lays_7 : decode cX12_lays 7 = .ok (.iload_n 1, 1) := by decide +kernel
theorem dX12_lays_8 : decode cX12_lays 8 = .ok (.aload_n 0, 1) := by decide +kernel
theorem dX12_lays_9 : decode cX12_lays 9 = .ok (.getfield 147, 3) := by decide +kernel
theorem dX12_lays_12 : decode cX12_lays 12 = .ok (.if_icmp .ge 106, 3) := by decide +kernel
theorem dX12_lays_15 : decode cX12_lays 15 = .ok (.aload_n 0, 1) := by decide +kernel
theorem dX12_lays_16 : decode cX12_lays 16 = .ok (.getfield 9, 3) := by decide +kernel
theorem dX12_lays_19 : decode cX12_lays 19 = .ok (.iload_n 1, 1) := by decide +kernel
theorem dX12_lays_20 : decode cX12_lays 20 = .ok (.baload, 1) := by decide +kernel
theorem dX12_lays_21 : decode cX12_lays 21 = .ok (.bipush 32, 2) := by decide +kernel
theorem dX12_lays_23 : decode cX12_lays 23 = .ok (.if_icmp .ne 6, 3) := by decide +kernel
theorem dX12_lays_26 : decode cX12_lays 26 = .ok (.goto 86, 3) := by decide +kernel
theorem dX12_lays_29 : decode cX12_lays 29 = .ok (.aload_n 0, 1) := by decide +kernel
theorem dX12_lays_30 : decode cX12_lays 30 = .ok (.getfield 15, 3) := by decide +kernel
theorem dX12_lays_33 : decode cX12_lays 33 = .ok (.iconst 0, 1) := by decide +kernel
theorem dX12_lays_34 : decode cX12_lays 34 = .ok (.aaload, 1) := by decide +kernel
theorem dX12_lays_35 : decode cX12_lays 35 = .ok (.aload_n 0, 1) := by decide +kernel
theorem dX12_lays_36 : decode cX12_lays 36 = .ok (.getfield 9, 3) := by decide +kernel
theorem dX12_lays_39 : decode cX12_lays 39 = .ok (.iload_n 1, 1) := by decide +kernel
theorem dX12_lays_40 : decode cX12_lays 40 = .ok (.baload, 1) := by decide +kernel
theorem dX12_lays_41 : decode cX12_lays 41 = .ok (.bipush 97, 2) := by decide +kernel
theorem dX12_lays_43 : decode cX12_lays 43 = .ok (.isub, 1) := by decide +kernel
theorem dX12_lays_44 : decode cX12_lays 44 = .ok (.iaload, 1) := by decide +kernel
theorem dX12_lays_45 : decode cX12_lays 45 = .ok (.istore_n 2, 1) := by decide +kernel
theorem dX12_lays_46 : decode cX12_lays 46 = .ok (.iload_n 2, 1) := by decide +kernel
theorem dX12_lays_47 : decode cX12_lays 47 = .ok (.ifCond .ne 5, 3) := by decide +kernel
theorem dX12_lays_50 : decode cX12_lays 50 = .ok (.iconst 0, 1) := by decide +kernel
theorem dX12_lays_51 : decode cX12_lays 51 = .ok (.ireturn, 1) := by decide +kernel
theorem dX12_lays_52 : decode cX12_lays 52 = .ok (.iload_n 1, 1) := by decide +kernel
theorem dX12_lays_53 : decode cX12_lays 53 = .ok (.ifCond .le 25, 3) := by decide +kernel
theorem dX12_lays_56 : decode cX12_lays 56 = .ok (.aload_n 0, 1) := by decide +kernel
theorem dX12_lays_57 : decode cX12_lays 57 = .ok (.aload_n 0, 1) := by decide +kernel
theorem dX12_lays_58 : decode cX12_lays 58 = .ok (.getfield 9, 3) := by decide +kernel
theorem dX12_lays_61 : decode cX12_lays 61 = .ok (.iload_n 1, 1) := by decide +kernel
theorem dX12_lays_62 : decode cX12_lays 62 = .ok (.iconst 1, 1) := by decide +kernel
theorem dX12_lays_63 : decode cX12_lays 63 = .ok (.isub, 1) := by decide +kernel
theorem dX12_lays_64 : decode cX12_lays 64 = .ok (.baload, 1) := by decide +kernel
theorem dX12_lays_65 : decode cX12_lays 65 = .ok (.bipush 32, 2) := by decide +kernel
theorem dX12_lays_67 : decode cX12_lays 67 = .ok (.if_icmp .ne 7, 3) := by decide +kernel
theorem dX12_lays_70 : decode cX12_lays 70 = .ok (.iconst 4, 1) := by decide +kernel
theorem dX12_lays_71 : decode cX12_lays 71 = .ok (.goto 4, 3) := by decide +kernel
theorem dX12_lays_74 : decode cX12_lays 74 = .ok (.iconst 3, 1) := by decide +kernel
theorem dX12_lays_75 : decode cX12_lays 75 = .ok (.invokevirtual 314, 3) := by decide +kernel
theorem dX12_lays_78 : decode cX12_lays 78 = .ok (.iconst 0, 1) := by decide +kernel
theorem dX12_lays_79 : decode cX12_lays 79 = .ok (.istore_n 3, 1) := by decide +kernel
theorem dX12_lays_80 : decode cX12_lays 80 = .ok (.iload_n 3, 1) := by decide +kernel
theorem dX12_lays_81 : decode cX12_lays 81 = .ok (.iload_n 2, 1) := by decide +kernel
theorem dX12_lays_82 : decode cX12_lays 82 = .ok (.invokestatic 277, 3) := by decide +kernel
theorem dX12_lays_85 : decode cX12_lays 85 = .ok (.if_icmp .ge 27, 3) := by decide +kernel
theorem dX12_lays_88 : decode cX12_lays 88 = .ok (.iload_n 3, 1) := by decide +kernel
theorem dX12_lays_89 : decode cX12_lays 89 = .ok (.ifCond .le 8, 3) := by decide +kernel
theorem dX12_lays_92 : decode cX12_lays 92 = .ok (.aload_n 0, 1) := by decide +kernel
theorem dX12_lays_93 : decode cX12_lays 93 = .ok (.iconst 2, 1) := by decide +kernel
theorem dX12_lays_94 : decode cX12_lays 94 = .ok (.invokevirtual 314, 3) := by decide +kernel
theorem dX12_lays_97 : decode cX12_lays 97 = .ok (.aload_n 0, 1) := by decide +kernel
theorem dX12_lays_98 : decode cX12_lays 98 = .ok (.iload_n 2, 1) := by decide +kernel
theorem dX12_lays_99 : decode cX12_lays 99 = .ok (.iload_n 3, 1) := by decide +kernel
theorem dX12_lays_100 : decode cX12_lays 100 = .ok (.invokestatic 280, 3) := by decide +kernel
theorem dX12_lays_103 : decode cX12_lays 103 = .ok (.invokevirtual 314, 3) := by decide +kernel
theorem dX12_lays_106 : decode cX12_lays 106 = .ok (.iinc 3 1, 3) := by decide +kernel
theorem dX12_lays_109 : decode cX12_lays 109 = .ok (.goto (-29), 3) := by decide +kernel
theorem dX12_lays_112 : decode cX12_lays 112 = .ok (.iinc 1 1, 3) := by decide +kernel
theorem dX12_lays_115 : decode cX12_lays 115 = .ok (.goto (-108), 3) := by decide +kernel
theorem dX12_lays_118 : decode cX12_lays 118 = .ok (.iconst 1, 1) := by decide +kernel
theorem dX12_lays_119 : decode cX12_lays 119 = .ok (.ireturn, 1) := by decide +kernel
theorem dX12_saysBy_0 : decode cX12_saysBy 0 = .ok (.aload_n 0, 1) := by decide +kernel
theorem dX12_saysBy_1 : decode cX12_saysBy 1 = .ok (.iload_n 1, 1) := by decide +kernel
theorem dX12_saysBy_2 : decode cX12_saysBy 2 = .ok (.iload_n 2, 1) := by decide +kernel
theorem dX12_saysBy_3 : decode cX12_saysBy 3 = .ok (.invokevirtual 294, 3) := by decide +kernel
theorem dX12_saysBy_6 : decode cX12_saysBy 6 = .ok (.ifCond .eq 14, 3) := by decide +kernel
theorem dX12_saysBy_9 : decode cX12_saysBy 9 = .ok (.aload_n 0, 1) := by decide +kernel
theorem dX12_saysBy_10 : decode cX12_saysBy 10 = .ok (.getfield 311, 3) := by decide +kernel
theorem dX12_saysBy_13 : decode cX12_saysBy 13 = .ok (.aload_n 0, 1) := by decide +kernel
theorem dX12_saysBy_14 : decode cX12_saysBy 14 = .ok (.getfield 260, 3) := by decide +kernel
theorem dX12_saysBy_17 : decode cX12_saysBy 17 = .ok (.if_icmp .eq 5, 3) := by decide +kernel
theorem dX12_saysBy_20 : decode cX12_saysBy 20 = .ok (.iconst 0, 1) := by decide +kernel
theorem dX12_saysBy_21 : decode cX12_saysBy 21 = .ok (.ireturn, 1) := by decide +kernel
theorem dX12_saysBy_22 : decode cX12_saysBy 22 = .ok (.iconst 0, 1) := by decide +kernel
theorem dX12_saysBy_23 : decode cX12_saysBy 23 = .ok (.istore_n 3, 1) := by decide +kernel
theorem dX12_saysBy_24 : decode cX12_saysBy 24 = .ok (.iload_n 3, 1) := by decide +kernel
theorem dX12_saysBy_25 : decode cX12_saysBy 25 = .ok (.aload_n 0, 1) := by decide +kernel
theorem dX12_saysBy_26 : decode cX12_saysBy 26 = .ok (.getfield 260, 3) := by decide +kernel
theorem dX12_saysBy_29 : decode cX12_saysBy 29 = .ok (.if_icmp .ge 25, 3) := by decide +kernel
theorem dX12_saysBy_32 : decode cX12_saysBy 32 = .ok (.aload_n 0, 1) := by decide +kernel
theorem dX12_saysBy_33 : decode cX12_saysBy 33 = .ok (.iload_n 3, 1) := by decide +kernel
theorem dX12_saysBy_34 : decode cX12_saysBy 34 = .ok (.aload_n 0, 1) := by decide +kernel
theorem dX12_saysBy_35 : decode cX12_saysBy 35 = .ok (.getfield 75, 3) := by decide +kernel
theorem dX12_saysBy_38 : decode cX12_saysBy 38 = .ok (.iload_n 3, 1) := by decide +kernel
theorem dX12_saysBy_39 : decode cX12_saysBy 39 = .ok (.iaload, 1) := by decide +kernel
theorem dX12_saysBy_40 : decode cX12_saysBy 40 = .ok (.invokevirtual 284, 3) := by decide +kernel
theorem dX12_saysBy_43 : decode cX12_saysBy 43 = .ok (.ifCond .ne 5, 3) := by decide +kernel
theorem dX12_saysBy_46 : decode cX12_saysBy 46 = .ok (.iconst 0, 1) := by decide +kernel
theorem dX12_saysBy_47 : decode cX12_saysBy 47 = .ok (.ireturn, 1) := by decide +kernel
theorem dX12_saysBy_48 : decode cX12_saysBy 48 = .ok (.iinc 3 1, 3) := by decide +kernel
theorem dX12_saysBy_51 : decode cX12_saysBy 51 = .ok (.goto (-27), 3) := by decide +kernel
theorem dX12_saysBy_54 : decode cX12_saysBy 54 = .ok (.iconst 1, 1) := by decide +kernel
theorem dX12_saysBy_55 : decode cX12_saysBy 55 = .ok (.ireturn, 1) := by decide +kernel
theorem dX12_canSay_0 : decode cX12_canSay 0 = .ok (.aload_n 0, 1) := by decide +kernel
theorem dX12_canSay_1 : decode cX12_canSay 1 = .ok (.getfield 260, 3) := by decide +kernel
theorem dX12_canSay_4 : decode cX12_canSay 4 = .ok (.iconst 2, 1) := by decide +kernel
theorem dX12_canSay_5 : decode cX12_canSay 5 = .ok (.irem, 1) := by decide +kernel
theorem dX12_canSay_6 : decode cX12_canSay 6 = .ok (.iconst 1, 1) := by decide +kernel
theorem dX12_canSay_7 : decode cX12_canSay 7 = .ok (.if_icmp .ne 14, 3) := by decide +kernel
theorem dX12_canSay_10 : decode cX12_canSay 10 = .ok (.aload_n 0, 1) := by decide +kernel
theorem dX12_canSay_11 : decode cX12_canSay 11 = .ok (.invokevirtual 317, 3) := by decide +kernel
theorem dX12_canSay_14 : decode cX12_canSay 14 = .ok (.ifCond .eq 7, 3) := by decide +kernel
theorem dX12_canSay_17 : decode cX12_canSay 17 = .ok (.iconst 1, 1) := by decide +kernel
theorem dX12_canSay_18 : decode cX12_canSay 18 = .ok (.goto 4, 3) := by decide +kernel
theorem dX12_canSay_21 : decode cX12_canSay 21 = .ok (.iconst 0, 1) := by decide +kernel
theorem dX12_canSay_22 : decode cX12_canSay 22 = .ok (.ireturn, 1) := by decide +kernel
theorem dX12_suspects_0 : decode cX12_suspects 0 = .ok (.aload_n 0, 1) := by decide +kernel
theorem dX12_suspects_1 : decode cX12_suspects 1 = .ok (.invokevirtual 320, 3) := by decide +kernel
theorem dX12_suspects_4 : decode cX12_suspects 4 = .ok (.ifCond .ne 5, 3) := by decide +kernel
theorem dX12_suspects_7 : decode cX12_suspects 7 = .ok (.iconst (-1), 1) := by decide +kernel
theorem dX12_suspects_8 : decode cX12_suspects 8 = .ok (.ireturn, 1) := by decide +kernel
theorem dX12_suspects_9 : decode cX12_suspects 9 = .ok (.aload_n 0, 1) := by decide +kernel
theorem dX12_suspects_10 : decode cX12_suspects 10 = .ok (.invokevirtual 323, 3) := by decide +kernel
theorem dX12_suspects_13 : decode cX12_suspects 13 = .ok (.istore_n 2, 1) := by decide +kernel
theorem dX12_suspects_14 : decode cX12_suspects 14 = .ok (.iconst 0, 1) := by decide +kernel
theorem dX12_suspects_15 : decode cX12_suspects 15 = .ok (.istore_n 3, 1) := by decide +kernel
theorem dX12_suspects_16 : decode cX12_suspects 16 = .ok (.iconst 0, 1) := by decide +kernel
theorem dX12_suspects_17 : decode cX12_suspects 17 = .ok (.istore 4, 2) := by decide +kernel
theorem dX12_suspects_19 : decode cX12_suspects 19 = .ok (.iload 4, 2) := by decide +kernel
theorem dX12_suspects_21 : decode cX12_suspects 21 = .ok (.aload_n 0, 1) := by decide +kernel
theorem dX12_suspects_22 : decode cX12_suspects 22 = .ok (.getfield 224, 3) := by decide +kernel
theorem dX12_suspects_25 : decode cX12_suspects 25 = .ok (.if_icmp .ge 62, 3) := by decide +kernel
theorem dX12_suspects_28 : decode cX12_suspects 28 = .ok (.iconst 0, 1) := by decide +kernel
theorem dX12_suspects_29 : decode cX12_suspects 29 = .ok (.istore 5, 2) := by decide +kernel
theorem dX12_suspects_31 : decode cX12_suspects 31 = .ok (.iload 5, 2) := by decide +kernel
theorem dX12_suspects_33 : decode cX12_suspects 33 = .ok (.aload_n 0, 1) := by decide +kernel
theorem dX12_suspects_34 : decode cX12_suspects 34 = .ok (.getfield 243, 3) := by decide +kernel
theorem dX12_suspects_37 : decode cX12_suspects 37 = .ok (.if_icmp .ge 44, 3) := by decide +kernel
theorem dX12_suspects_40 : decode cX12_suspects 40 = .ok (.iload_n 2, 1) := by decide +kernel
theorem dX12_suspects_41 : decode cX12_suspects 41 = .ok (.ifCond .eq 34, 3) := by decide +kernel
theorem dX12_suspects_44 : decode cX12_suspects 44 = .ok (.aload_n 0, 1) := by decide +kernel
theorem dX12_suspects_45 : decode cX12_suspects 45 = .ok (.iload 4, 2) := by decide +kernel
theorem dX12_suspects_47 : decode cX12_suspects 47 = .ok (.iload 5, 2) := by decide +kernel
theorem dX12_suspects_49 : decode cX12_suspects 49 = .ok (.invokevirtual 326, 3) := by decide +kernel
theorem dX12_suspects_52 : decode cX12_suspects 52 = .ok (.ifCond .ne 6, 3) := by decide +kernel
theorem dX12_suspects_55 : decode cX12_suspects 55 = .ok (.goto 20, 3) := by decide +kernel
theorem dX12_suspects_58 : decode cX12_suspects 58 = .ok (.iload_n 3, 1) := by decide +kernel
theorem dX12_suspects_59 : decode cX12_suspects 59 = .ok (.iload_n 1, 1) := by decide +kernel
theorem dX12_suspects_60 : decode cX12_suspects 60 = .ok (.if_icmp .ne 12, 3) := by decide +kernel
theorem dX12_suspects_63 : decode cX12_suspects 63 = .ok (.bipush 10, 2) := by decide +kernel
theorem dX12_suspects_65 : decode cX12_suspects 65 = .ok (.iload 4, 2) := by decide +kernel
theorem dX12_suspects_67 : decode cX12_suspects 67 = .ok (.imul, 1) := by decide +kernel
theorem dX12_suspects_68 : decode cX12_suspects 68 = .ok (.iload 5, 2) := by decide +kernel
theorem dX12_suspects_70 : decode cX12_suspects 70 = .ok (.iadd, 1) := by decide +kernel
theorem dX12_suspects_71 : decode cX12_suspects 71 = .ok (.ireturn, 1) := by decide +kernel
theorem dX12_suspects_72 : decode cX12_suspects 72 = .ok (.iinc 3 1, 3) := by decide +kernel
theorem dX12_suspects_75 : decode cX12_suspects 75 = .ok (.iinc 5 1, 3) := by decide +kernel
theorem dX12_suspects_78 : decode cX12_suspects 78 = .ok (.goto (-47), 3) := by decide +kernel
theorem dX12_suspects_81 : decode cX12_suspects 81 = .ok (.iinc 4 1, 3) := by decide +kernel
theorem dX12_suspects_84 : decode cX12_suspects 84 = .ok (.goto (-65), 3) := by decide +kernel
theorem dX12_suspects_87 : decode cX12_suspects 87 = .ok (.iload_n 1, 1) := by decide +kernel
theorem dX12_suspects_88 : decode cX12_suspects 88 = .ok (.iconst (-1), 1) := by decide +kernel
theorem dX12_suspects_89 : decode cX12_suspects 89 = .ok (.if_icmp .ne 7, 3) := by decide +kernel
theorem dX12_suspects_92 : decode cX12_suspects 92 = .ok (.iload_n 3, 1) := by decide +kernel
theorem dX12_suspects_93 : decode cX12_suspects 93 = .ok (.goto 4, 3) := by decide +kernel
theorem dX12_suspects_96 : decode cX12_suspects 96 = .ok (.iconst (-1), 1) := by decide +kernel
theorem dX12_suspects_97 : decode cX12_suspects 97 = .ok (.ireturn, 1) := by decide +kernel
theorem dX12_grows_0 : decode cX12_grows 0 = .ok (.iconst 0, 1) := by decide +kernel
theorem dX12_grows_1 : decode cX12_grows 1 = .ok (.istore_n 3, 1) := by decide +kernel
theorem dX12_grows_2 : decode cX12_grows 2 = .ok (.iconst 0, 1) := by decide +kernel
theorem dX12_grows_3 : decode cX12_grows 3 = .ok (.istore 4, 2) := by decide +kernel
theorem dX12_grows_5 : decode cX12_grows 5 = .ok (.iload 4, 2) := by decide +kernel
theorem dX12_grows_7 : decode cX12_grows 7 = .ok (.bipush 80, 2) := by decide +kernel
theorem dX12_grows_9 : decode cX12_grows 9 = .ok (.if_icmp .ge 46, 3) := by decide +kernel
theorem dX12_grows_12 : decode cX12_grows 12 = .ok (.aload_n 0, 1) := by decide +kernel
theorem dX12_grows_13 : decode cX12_grows 13 = .ok (.getfield 78, 3) := by decide +kernel
theorem dX12_grows_16 : decode cX12_grows 16 = .ok (.iload_n 1, 1) := by decide +kernel
theorem dX12_grows_17 : decode cX12_grows 17 = .ok (.iload 4, 2) := by decide +kernel
theorem dX12_grows_19 : decode cX12_grows 19 = .ok (.iadd, 1) := by decide +kernel
theorem dX12_grows_20 : decode cX12_grows 20 = .ok (.iaload, 1) := by decide +kernel
theorem dX12_grows_21 : decode cX12_grows 21 = .ok (.iload_n 2, 1) := by decide +kernel
theorem dX12_grows_22 : decode cX12_grows 22 = .ok (.imul, 1) := by decide +kernel
theorem dX12_grows_23 : decode cX12_grows 23 = .ok (.iload_n 3, 1) := by decide +kernel
theorem dX12_grows_24 : decode cX12_grows 24 = .ok (.iadd, 1) := by decide +kernel
theorem dX12_grows_25 : decode cX12_grows 25 = .ok (.istore 5, 2) := by decide +kernel
theorem dX12_grows_27 : decode cX12_grows 27 = .ok (.aload_n 0, 1) := by decide +kernel
theorem dX12_grows_28 : decode cX12_grows 28 = .ok (.getfield 78, 3) := by decide +kernel
theorem dX12_grows_31 : decode cX12_grows 31 = .ok (.iload_n 1, 1) := by decide +kernel
theorem dX12_grows_32 : decode cX12_grows 32 = .ok (.iload 4, 2) := by decide +kernel
theorem dX12_grows_34 : decode cX12_grows 34 = .ok (.iadd, 1) := by decide +kernel
theorem dX12_grows_35 : decode cX12_grows 35 = .ok (.iload 5, 2) := by decide +kernel
theorem dX12_grows_37 : decode cX12_grows 37 = .ok (.sipush 10000, 3) := by decide +kernel
theorem dX12_grows_40 : decode cX12_grows 40 = .ok (.irem, 1) := by decide +kernel
theorem dX12_grows_41 : decode cX12_grows 41 = .ok (.iastore, 1) := by decide +kernel
theorem dX12_grows_42 : decode cX12_grows 42 = .ok (.iload 5, 2) := by decide +kernel
theorem dX12_grows_44 : decode cX12_grows 44 = .ok (.sipush 10000, 3) := by decide +kernel
theorem dX12_grows_47 : decode cX12_grows 47 = .ok (.idiv, 1) := by decide +kernel
theorem dX12_grows_48 : decode cX12_grows 48 = .ok (.istore_n 3, 1) := by decide +kernel
theorem dX12_grows_49 : decode cX12_grows 49 = .ok (.iinc 4 1, 3) := by decide +kernel
theorem dX12_grows_52 : decode cX12_grows 52 = .ok (.goto (-47), 3) := by decide +kernel
theorem dX12_grows_55 : decode cX12_grows 55 = .ok (.return_, 1) := by decide +kernel
theorem dX12_product_0 : decode cX12_product 0 = .ok (.iconst 0, 1) := by decide +kernel
theorem dX12_product_1 : decode cX12_product 1 = .ok (.istore_n 3, 1) := by decide +kernel
theorem dX12_product_2 : decode cX12_product 2 = .ok (.iload_n 3, 1) := by decide +kernel
theorem dX12_product_3 : decode cX12_product 3 = .ok (.bipush 80, 2) := by decide +kernel
theorem dX12_product_5 : decode cX12_product 5 = .ok (.if_icmp .ge 26, 3) := by decide +kernel
theorem dX12_product_8 : decode cX12_product 8 = .ok (.aload_n 0, 1) := by decide +kernel
theorem dX12_product_9 : decode cX12_product 9 = .ok (.getfield 78, 3) := by decide +kernel
theorem dX12_product_12 : decode cX12_product 12 = .ok (.iload_n 1, 1) := by decide +kernel
theorem dX12_product_13 : decode cX12_product 13 = .ok (.iload_n 3, 1) := by decide +kernel
theorem dX12_product_14 : decode cX12_product 14 = .ok (.iadd, 1) := by decide +kernel
theorem dX12_product_15 : decode cX12_product 15 = .ok (.iload_n 3, 1) := by decide +kernel
theorem dX12_product_16 : decode cX12_product 16 = .ok (.ifCond .ne 7, 3) := by decide +kernel
theorem dX12_product_19 : decode cX12_product 19 = .ok (.iconst 1, 1) := by decide +kernel
theorem dX12_product_20 : decode cX12_product 20 = .ok (.goto 4, 3) := by decide +kernel
theorem dX12_product_23 : decode cX12_product 23 = .ok (.iconst 0, 1) := by decide +kernel
theorem dX12_product_24 : decode cX12_product 24 = .ok (.iastore, 1) := by decide +kernel
theorem dX12_product_25 : decode cX12_product 25 = .ok (.iinc 3 1, 3) := by decide +kernel
theorem dX12_product_28 : decode cX12_product 28 = .ok (.goto (-26), 3) := by decide +kernel
theorem dX12_product_31 : decode cX12_product 31 = .ok (.iconst 0, 1) := by decide +kernel
theorem dX12_product_32 : decode cX12_product 32 = .ok (.istore_n 3, 1) := by decide +kernel
theorem dX12_product_33 : decode cX12_product 33 = .ok (.iload_n 3, 1) := by decide +kernel
theorem dX12_product_34 : decode cX12_product 34 = .ok (.aload_n 0, 1) := by decide +kernel
theorem dX12_product_35 : decode cX12_product 35 = .ok (.getfield 311, 3) := by decide +kernel
theorem dX12_product_38 : decode cX12_product 38 = .ok (.if_icmp .ge 47, 3) := by decide +kernel
theorem dX12_product_41 : decode cX12_product 41 = .ok (.aload_n 0, 1) := by decide +kernel
theorem dX12_product_42 : decode cX12_product 42 = .ok (.iload_n 1, 1) := by decide +kernel
theorem dX12_product_43 : decode cX12_product 43 = .ok (.aload_n 0, 1) := by decide +kernel
theorem dX12_product_44 : decode cX12_product 44 = .ok (.getfield 48, 3) := by decide +kernel
theorem dX12_product_47 : decode cX12_product 47 = .ok (.iconst 5, 1) := by decide +kernel
theorem dX12_product_48 : decode cX12_product 48 = .ok (.iload_n 2, 1) := by decide +kernel
theorem dX12_product_49 : decode cX12_product 49 = .ok (.imul, 1) := by decide +kernel
theorem dX12_product_50 : decode cX12_product 50 = .ok (.aload_n 0, 1) := by decide +kernel
theorem dX12_product_51 : decode cX12_product 51 = .ok (.getfield 75, 3) := by decide +kernel
theorem dX12_product_54 : decode cX12_product 54 = .ok (.iload_n 3, 1) := by decide +kernel
theorem dX12_product_55 : decode cX12_product 55 = .ok (.iaload, 1) := by decide +kernel
theorem dX12_product_56 : decode cX12_product 56 = .ok (.iadd, 1) := by decide +kernel
theorem dX12_product_57 : decode cX12_product 57 = .ok (.iaload, 1) := by decide +kernel
theorem dX12_product_58 : decode cX12_product 58 = .ok (.aload_n 0, 1) := by decide +kernel
theorem dX12_product_59 : decode cX12_product 59 = .ok (.getfield 45, 3) := by decide +kernel
theorem dX12_product_62 : decode cX12_product 62 = .ok (.iconst 5, 1) := by decide +kernel
theorem dX12_product_63 : decode cX12_product 63 = .ok (.iload_n 2, 1) := by decide +kernel
theorem dX12_product_64 : decode cX12_product 64 = .ok (.imul, 1) := by decide +kernel
theorem dX12_product_65 : decode cX12_product 65 = .ok (.aload_n 0, 1) := by decide +kernel
theorem dX12_product_66 : decode cX12_product 66 = .ok (.getfield 75, 3) := by decide +kernel
theorem dX12_product_69 : decode cX12_product 69 = .ok (.iload_n 3, 1) := by decide +kernel
theorem dX12_product_70 : decode cX12_product 70 = .ok (.iaload, 1) := by decide +kernel
theorem dX12_product_71 : decode cX12_product 71 = .ok (.iadd, 1) := by decide +kernel
theorem dX12_product_72 : decode cX12_product 72 = .ok (.iaload, 1) := by decide +kernel
theorem dX12_product_73 : decode cX12_product 73 = .ok (.isub, 1) := by decide +kernel
theorem dX12_product_74 : decode cX12_product 74 = .ok (.iconst 1, 1) := by decide +kernel
theorem dX12_product_75 : decode cX12_product 75 = .ok (.iadd, 1) := by decide +kernel
theorem dX12_product_76 : decode cX12_product 76 = .ok (.invokevirtual 329, 3) := by decide +kernel
theorem dX12_product_79 : decode cX12_product 79 = .ok (.iinc 3 1, 3) := by decide +kernel
theorem dX12_product_82 : decode cX12_product 82 = .ok (.goto (-49), 3) := by decide +kernel
theorem dX12_product_85 : decode cX12_product 85 = .ok (.return_, 1) := by decide +kernel
theorem dX12_likelier_0 : decode cX12_likelier 0 = .ok (.aload_n 0, 1) := by decide +kernel
theorem dX12_likelier_1 : decode cX12_likelier 1 = .ok (.iload_n 1, 1) := by decide +kernel
theorem dX12_likelier_2 : decode cX12_likelier 2 = .ok (.invokevirtual 291, 3) := by decide +kernel
theorem dX12_likelier_5 : decode cX12_likelier 5 = .ok (.ifCond .eq 51, 3) := by decide +kernel
theorem dX12_likelier_8 : decode cX12_likelier 8 = .ok (.aload_n 0, 1) := by decide +kernel
theorem dX12_likelier_9 : decode cX12_likelier 9 = .ok (.iload_n 2, 1) := by decide +kernel
theorem dX12_likelier_10 : decode cX12_likelier 10 = .ok (.invokevirtual 291, 3) := by decide +kernel
theorem dX12_likelier_13 : decode cX12_likelier 13 = .ok (.ifCond .eq 43, 3) := by decide +kernel
theorem dX12_likelier_16 : decode cX12_likelier 16 = .ok (.aload_n 0, 1) := by decide +kernel
theorem dX12_likelier_17 : decode cX12_likelier 17 = .ok (.iload_n 3, 1) := by decide +kernel
theorem dX12_likelier_18 : decode cX12_likelier 18 = .ok (.invokevirtual 251, 3) := by decide +kernel
theorem dX12_likelier_21 : decode cX12_likelier 21 = .ok (.ifCond .eq 35, 3) := by decide +kernel
theorem dX12_likelier_24 : decode cX12_likelier 24 = .ok (.aload_n 0, 1) := by decide +kernel
theorem dX12_likelier_25 : decode cX12_likelier 25 = .ok (.invokevirtual 320, 3) := by decide +kernel
theorem dX12_likelier_28 : decode cX12_likelier 28 = .ok (.ifCond .eq 28, 3) := by decide +kernel
theorem dX12_likelier_31 : decode cX12_likelier 31 = .ok (.aload_n 0, 1) := by decide +kernel
theorem dX12_likelier_32 : decode cX12_likelier 32 = .ok (.invokevirtual 323, 3) := by decide +kernel
theorem dX12_likelier_35 : decode cX12_likelier 35 = .ok (.ifCond .eq 21, 3) := by decide +kernel
theorem dX12_likelier_38 : decode cX12_likelier 38 = .ok (.aload_n 0, 1) := by decide +kernel
theorem dX12_likelier_39 : decode cX12_likelier 39 = .ok (.iload_n 1, 1) := by decide +kernel
theorem dX12_likelier_40 : decode cX12_likelier 40 = .ok (.iload_n 3, 1) := by decide +kernel
theorem dX12_likelier_41 : decode cX12_likelier 41 = .ok (.invokevirtual 326, 3) := by decide +kernel
theorem dX12_likelier_44 : decode cX12_likelier 44 = .ok (.ifCond .eq 12, 3) := by decide +kernel
theorem dX12_likelier_47 : decode cX12_likelier 47 = .ok (.aload_n 0, 1) := by decide +kernel
theorem dX12_likelier_48 : decode cX12_likelier 48 = .ok (.iload_n 2, 1) := by decide +kernel
theorem dX12_likelier_49 : decode cX12_likelier 49 = .ok (.iload_n 3, 1) := by decide +kernel
theorem dX12_likelier_50 : decode cX12_likelier 50 = .ok (.invokevirtual 326, 3) := by decide +kernel
theorem dX12_likelier_53 : decode cX12_likelier 53 = .ok (.ifCond .ne 5, 3) := by decide +kernel
theorem dX12_likelier_56 : decode cX12_likelier 56 = .ok (.iconst (-1), 1) := by decide +kernel
theorem dX12_likelier_57 : decode cX12_likelier 57 = .ok (.ireturn, 1) := by decide +kernel
theorem dX12_likelier_58 : decode cX12_likelier 58 = .ok (.aload_n 0, 1) := by decide +kernel
theorem dX12_likelier_59 : decode cX12_likelier 59 = .ok (.iconst 0, 1) := by decide +kernel
theorem dX12_likelier_60 : decode cX12_likelier 60 = .ok (.iload_n 1, 1) := by decide +kernel
theorem dX12_likelier_61 : decode cX12_likelier 61 = .ok (.invokevirtual 332, 3) := by decide +kernel
theorem dX12_likelier_64 : decode cX12_likelier 64 = .ok (.aload_n 0, 1) := by decide +kernel
theorem dX12_likelier_65 : decode cX12_likelier 65 = .ok (.bipush 80, 2) := by decide +kernel
theorem dX12_likelier_67 : decode cX12_likelier 67 = .ok (.iload_n 2, 1) := by decide +kernel
theorem dX12_likelier_68 : decode cX12_likelier 68 = .ok (.invokevirtual 332, 3) := by decide +kernel
theorem dX12_likelier_71 : decode cX12_likelier 71 = .ok (.bipush 79, 2) := by decide +kernel
theorem dX12_likelier_73 : decode cX12_likelier 73 = .ok (.istore 4, 2) := by decide +kernel
theorem dX12_likelier_75 : decode cX12_likelier 75 = .ok (.iload 4, 2) := by decide +kernel
theorem dX12_likelier_77 : decode cX12_likelier 77 = .ok (.ifCond .lt 55, 3) := by decide +kernel
theorem dX12_likelier_80 : decode cX12_likelier 80 = .ok (.aload_n 0, 1) := by decide +kernel
theorem dX12_likelier_81 : decode cX12_likelier 81 = .ok (.getfield 78, 3) := by decide +kernel
theorem dX12_likelier_84 : decode cX12_likelier 84 = .ok (.iload 4, 2) := by decide +kernel
theorem dX12_likelier_86 : decode cX12_likelier 86 = .ok (.iaload, 1) := by decide +kernel
theorem dX12_likelier_87 : decode cX12_likelier 87 = .ok (.aload_n 0, 1) := by decide +kernel
theorem dX12_likelier_88 : decode cX12_likelier 88 = .ok (.getfield 78, 3) := by decide +kernel
theorem dX12_likelier_91 : decode cX12_likelier 91 = .ok (.bipush 80, 2) := by decide +kernel
theorem dX12_likelier_93 : decode cX12_likelier 93 = .ok (.iload 4, 2) := by decide +kernel
theorem dX12_likelier_95 : decode cX12_likelier 95 = .ok (.iadd, 1) := by decide +kernel
theorem dX12_likelier_96 : decode cX12_likelier 96 = .ok (.iaload, 1) := by decide +kernel
theorem dX12_likelier_97 : decode cX12_likelier 97 = .ok (.if_icmp .eq 29, 3) := by decide +kernel
theorem dX12_likelier_100 : decode cX12_likelier 100 = .ok (.aload_n 0, 1) := by decide +kernel
theorem dX12_likelier_101 : decode cX12_likelier 101 = .ok (.getfield 78, 3) := by decide +kernel
theorem dX12_likelier_104 : decode cX12_likelier 104 = .ok (.iload 4, 2) := by decide +kernel
theorem dX12_likelier_106 : decode cX12_likelier 106 = .ok (.iaload, 1) := by decide +kernel
theorem dX12_likelier_107 : decode cX12_likelier 107 = .ok (.aload_n 0, 1) := by decide +kernel
theorem dX12_likelier_108 : decode cX12_likelier 108 = .ok (.getfield 78, 3) := by decide +kernel
theorem dX12_likelier_111 : decode cX12_likelier 111 = .ok (.bipush 80, 2) := by decide +kernel
theorem dX12_likelier_113 : decode cX12_likelier 113 = .ok (.iload 4, 2) := by decide +kernel
theorem dX12_likelier_115 : decode cX12_likelier 115 = .ok (.iadd, 1) := by decide +kernel
theorem dX12_likelier_116 : decode cX12_likelier 116 = .ok (.iaload, 1) := by decide +kernel
theorem dX12_likelier_117 : decode cX12_likelier 117 = .ok (.if_icmp .ge 7, 3) := by decide +kernel
theorem dX12_likelier_120 : decode cX12_likelier 120 = .ok (.iconst 1, 1) := by decide +kernel
theorem dX12_likelier_121 : decode cX12_likelier 121 = .ok (.goto 4, 3) := by decide +kernel
theorem dX12_likelier_124 : decode cX12_likelier 124 = .ok (.iconst 2, 1) := by decide +kernel
theorem dX12_likelier_125 : decode cX12_likelier 125 = .ok (.ireturn, 1) := by decide +kernel
theorem dX12_likelier_126 : decode cX12_likelier 126 = .ok (.iinc 4 (-1), 3) := by decide +kernel
theorem dX12_likelier_129 : decode cX12_likelier 129 = .ok (.goto (-54), 3) := by decide +kernel
theorem dX12_likelier_132 : decode cX12_likelier 132 = .ok (.iconst 0, 1) := by decide +kernel
theorem dX12_likelier_133 : decode cX12_likelier 133 = .ok (.ireturn, 1) := by decide +kernel
theorem dX12_key_0 : decode cX12_key 0 = .ok (.aload_n 0, 1) := by decide +kernel
theorem dX12_key_1 : decode cX12_key 1 = .ok (.iload_n 1, 1) := by decide +kernel
theorem dX12_key_2 : decode cX12_key 2 = .ok (.invokevirtual 291, 3) := by decide +kernel
theorem dX12_key_5 : decode cX12_key 5 = .ok (.ifCond .eq 46, 3) := by decide +kernel
theorem dX12_key_8 : decode cX12_key 8 = .ok (.aload_n 0, 1) := by decide +kernel
theorem dX12_key_9 : decode cX12_key 9 = .ok (.iload_n 2, 1) := by decide +kernel
theorem dX12_key_10 : decode cX12_key 10 = .ok (.invokevirtual 251, 3) := by decide +kernel
theorem dX12_key_13 : decode cX12_key 13 = .ok (.ifCond .eq 38, 3) := by decide +kernel
theorem dX12_key_16 : decode cX12_key 16 = .ok (.iload_n 3, 1) := by decide +kernel
theorem dX12_key_17 : decode cX12_key 17 = .ok (.i2l, 1) := by decide +kernel
theorem dX12_key_18 : decode cX12_key 18 = .ok (.lconst 0, 1) := by decide +kernel
theorem dX12_key_19 : decode cX12_key 19 = .ok (.ldc2_w 335, 3) := by decide +kernel
theorem dX12_key_22 : decode cX12_key 22 = .ok (.invokestatic 155, 3) := by decide +kernel
theorem dX12_key_25 : decode cX12_key 25 = .ok (.ifCond .eq 26, 3) := by decide +kernel
theorem dX12_key_28 : decode cX12_key 28 = .ok (.aload_n 0, 1) := by decide +kernel
theorem dX12_key_29 : decode cX12_key 29 = .ok (.invokevirtual 317, 3) := by decide +kernel
theorem dX12_key_32 : decode cX12_key 32 = .ok (.ifCond .eq 19, 3) := by decide +kernel
theorem dX12_key_35 : decode cX12_key 35 = .ok (.aload_n 0, 1) := by decide +kernel
theorem dX12_key_36 : decode cX12_key 36 = .ok (.invokevirtual 323, 3) := by decide +kernel
theorem dX12_key_39 : decode cX12_key 39 = .ok (.ifCond .eq 12, 3) := by decide +kernel
theorem dX12_key_42 : decode cX12_key 42 = .ok (.aload_n 0, 1) := by decide +kernel
theorem dX12_key_43 : decode cX12_key 43 = .ok (.getfield 311, 3) := by decide +kernel
theorem dX12_key_46 : decode cX12_key 46 = .ok (.bipush 120, 2) := by decide +kernel
theorem dX12_key_48 : decode cX12_key 48 = .ok (.if_icmp .le 5, 3) := by decide +kernel
theorem dX12_key_51 : decode cX12_key 51 = .ok (.iconst (-1), 1) := by decide +kernel
theorem dX12_key_52 : decode cX12_key 52 = .ok (.ireturn, 1) := by decide +kernel
theorem dX12_key_53 : decode cX12_key 53 = .ok (.iload_n 3, 1) := by decide +kernel
theorem dX12_key_54 : decode cX12_key 54 = .ok (.i2l, 1) := by decide +kernel
theorem dX12_key_55 : decode cX12_key 55 = .ok (.lstore 4, 2) := by decide +kernel
theorem dX12_key_57 : decode cX12_key 57 = .ok (.aload_n 0, 1) := by decide +kernel
theorem dX12_key_58 : decode cX12_key 58 = .ok (.iload_n 2, 1) := by decide +kernel
theorem dX12_key_59 : decode cX12_key 59 = .ok (.invokevirtual 254, 3) := by decide +kernel
theorem dX12_key_62 : decode cX12_key 62 = .ok (.istore 6, 2) := by decide +kernel
theorem dX12_key_64 : decode cX12_key 64 = .ok (.aload_n 0, 1) := by decide +kernel
theorem dX12_key_65 : decode cX12_key 65 = .ok (.iconst 0, 1) := by decide +kernel
theorem dX12_key_66 : decode cX12_key 66 = .ok (.putfield 260, 3) := by decide +kernel
theorem dX12_key_69 : decode cX12_key 69 = .ok (.iconst 0, 1) := by decide +kernel
theorem dX12_key_70 : decode cX12_key 70 = .ok (.istore 7, 2) := by decide +kernel
theorem dX12_key_72 : decode cX12_key 72 = .ok (.iconst 0, 1) := by decide +kernel
theorem dX12_key_73 : decode cX12_key 73 = .ok (.istore 8, 2) := by decide +kernel
theorem dX12_key_75 : decode cX12_key 75 = .ok (.iconst 0, 1) := by decide +kernel
theorem dX12_key_76 : decode cX12_key 76 = .ok (.istore 9, 2) := by decide +kernel
theorem dX12_key_78 : decode cX12_key 78 = .ok (.iload 9, 2) := by decide +kernel
theorem dX12_key_80 : decode cX12_key 80 = .ok (.aload_n 0, 1) := by decide +kernel
theorem dX12_key_81 : decode cX12_key 81 = .ok (.getfield 311, 3) := by decide +kernel
theorem dX12_key_84 : decode cX12_key 84 = .ok (.if_icmp .ge 168, 3) := by decide +kernel
theorem dX12_key_87 : decode cX12_key 87 = .ok (.lload 4, 2) := by decide +kernel
theorem dX12_key_89 : decode cX12_key 89 = .ok (.ldc2_w 337, 3) := by decide +kernel
theorem dX12_key_92 : decode cX12_key 92 = .ok (.lmul, 1) := by decide +kernel
theorem dX12_key_93 : decode cX12_key 93 = .ok (.ldc2_w 339, 3) := by decide +kernel
theorem dX12_key_96 : decode cX12_key 96 = .ok (.ladd, 1) := by decide +kernel
theorem dX12_key_97 : decode cX12_key 97 = .ok (.ldc2_w 341, 3) := by decide +kernel
theorem dX12_key_100 : decode cX12_key 100 = .ok (.land, 1) := by decide +kernel
theorem dX12_key_101 : decode cX12_key 101 = .ok (.lstore 4, 2) := by decide +kernel
theorem dX12_key_103 : decode cX12_key 103 = .ok (.aload_n 0, 1) := by decide +kernel
theorem dX12_key_104 : decode cX12_key 104 = .ok (.getfield 45, 3) := by decide +kernel
theorem dX12_key_107 : decode cX12_key 107 = .ok (.iconst 5, 1) := by decide +kernel
theorem dX12_key_108 : decode cX12_key 108 = .ok (.iload_n 1, 1) := by decide +kernel
theorem dX12_key_109 : decode cX12_key 109 = .ok (.imul, 1) := by decide +kernel
theorem dX12_key_110 : decode cX12_key 110 = .ok (.aload_n 0, 1) := by decide +kernel
theorem dX12_key_111 : decode cX12_key 111 = .ok (.getfield 75, 3) := by decide +kernel
theorem dX12_key_114 : decode cX12_key 114 = .ok (.iload 9, 2) := by decide +kernel
theorem dX12_key_116 : decode cX12_key 116 = .ok (.iaload, 1) := by decide +kernel
theorem dX12_key_117 : decode cX12_key 117 = .ok (.iadd, 1) := by decide +kernel
theorem dX12_key_118 : decode cX12_key 118 = .ok (.iaload, 1) := by decide +kernel
theorem dX12_key_119 : decode cX12_key 119 = .ok (.istore 10, 2) := by decide +kernel
theorem dX12_key_121 : decode cX12_key 121 = .ok (.iload 10, 2) := by decide +kernel
theorem dX12_key_123 : decode cX12_key 123 = .ok (.lload 4, 2) := by decide +kernel
theorem dX12_key_125 : decode cX12_key 125 = .ok (.ldc2_w 343, 3) := by decide +kernel
theorem dX12_key_128 : decode cX12_key 128 = .ok (.ldiv, 1) := by decide +kernel
theorem dX12_key_129 : decode cX12_key 129 = .ok (.aload_n 0, 1) := by decide +kernel
theorem dX12_key_130 : decode cX12_key 130 = .ok (.getfield 48, 3) := by decide +kernel
theorem dX12_key_133 : decode cX12_key 133 = .ok (.iconst 5, 1) := by decide +kernel
theorem dX12_key_134 : decode cX12_key 134 = .ok (.iload_n 1, 1) := by decide +kernel
theorem dX12_key_135 : decode cX12_key 135 = .ok (.imul, 1) := by decide +kernel
theorem dX12_key_136 : decode cX12_key 136 = .ok (.aload_n 0, 1) := by decide +kernel
theorem dX12_key_137 : decode cX12_key 137 = .ok (.getfield 75, 3) := by decide +kernel
theorem dX12_key_140 : decode cX12_key 140 = .ok (.iload 9, 2) := by decide +kernel
theorem dX12_key_142 : decode cX12_key 142 = .ok (.iaload, 1) := by decide +kernel
theorem dX12_key_143 : decode cX12_key 143 = .ok (.iadd, 1) := by decide +kernel
theorem dX12_key_144 : decode cX12_key 144 = .ok (.iaload, 1) := by decide +kernel
theorem dX12_key_145 : decode cX12_key 145 = .ok (.iload 10, 2) := by decide +kernel
theorem dX12_key_147 : decode cX12_key 147 = .ok (.isub, 1) := by decide +kernel
theorem dX12_key_148 : decode cX12_key 148 = .ok (.iconst 1, 1) := by decide +kernel
theorem dX12_key_149 : decode cX12_key 149 = .ok (.iadd, 1) := by decide +kernel
theorem dX12_key_150 : decode cX12_key 150 = .ok (.i2l, 1) := by decide +kernel
theorem dX12_key_151 : decode cX12_key 151 = .ok (.lrem, 1) := by decide +kernel
theorem dX12_key_152 : decode cX12_key 152 = .ok (.l2i, 1) := by decide +kernel
theorem dX12_key_153 : decode cX12_key 153 = .ok (.iadd, 1) := by decide +kernel
theorem dX12_key_154 : decode cX12_key 154 = .ok (.istore 11, 2) := by decide +kernel
theorem dX12_key_156 : decode cX12_key 156 = .ok (.iload 9, 2) := by decide +kernel
theorem dX12_key_158 : decode cX12_key 158 = .ok (.iconst 2, 1) := by decide +kernel
theorem dX12_key_159 : decode cX12_key 159 = .ok (.irem, 1) := by decide +kernel
theorem dX12_key_160 : decode cX12_key 160 = .ok (.iconst 1, 1) := by decide +kernel
theorem dX12_key_161 : decode cX12_key 161 = .ok (.if_icmp .eq 10, 3) := by decide +kernel
theorem dX12_key_164 : decode cX12_key 164 = .ok (.iload 11, 2) := by decide +kernel
theorem dX12_key_166 : decode cX12_key 166 = .ok (.iload 6, 2) := by decide +kernel
theorem dX12_key_168 : decode cX12_key 168 = .ok (.if_icmp .gt 13, 3) := by decide +kernel
theorem dX12_key_171 : decode cX12_key 171 = .ok (.iload 7, 2) := by decide +kernel
theorem dX12_key_173 : decode cX12_key 173 = .ok (.iload 11, 2) := by decide +kernel
theorem dX12_key_175 : decode cX12_key 175 = .ok (.iadd, 1) := by decide +kernel
theorem dX12_key_176 : decode cX12_key 176 = .ok (.istore 7, 2) := by decide +kernel
theorem dX12_key_178 : decode cX12_key 178 = .ok (.goto 68, 3) := by decide +kernel
theorem dX12_key_181 : decode cX12_key 181 = .ok (.iload 8, 2) := by decide +kernel
theorem dX12_key_183 : decode cX12_key 183 = .ok (.ifCond .eq 33, 3) := by decide +kernel
theorem dX12_key_186 : decode cX12_key 186 = .ok (.aload_n 0, 1) := by decide +kernel
theorem dX12_key_187 : decode cX12_key 187 = .ok (.getfield 63, 3) := by decide +kernel
theorem dX12_key_190 : decode cX12_key 190 = .ok (.aload_n 0, 1) := by decide +kernel
theorem dX12_key_191 : decode cX12_key 191 = .ok (.getfield 260, 3) := by decide +kernel
theorem dX12_key_194 : decode cX12_key 194 = .ok (.sipush 999, 3) := by decide +kernel
theorem dX12_key_197 : decode cX12_key 197 = .ok (.iload 7, 2) := by decide +kernel
theorem dX12_key_199 : decode cX12_key 199 = .ok (.iload 6, 2) := by decide +kernel
theorem dX12_key_201 : decode cX12_key 201 = .ok (.iadd, 1) := by decide +kernel
theorem dX12_key_202 : decode cX12_key 202 = .ok (.invokestatic 301, 3) := by decide +kernel
theorem dX12_key_205 : decode cX12_key 205 = .ok (.iastore, 1) := by decide +kernel
theorem dX12_key_206 : decode cX12_key 206 = .ok (.aload_n 0, 1) := by decide +kernel
theorem dX12_key_207 : decode cX12_key 207 = .ok (.dup, 1) := by decide +kernel
theorem dX12_key_208 : decode cX12_key 208 = .ok (.getfield 260, 3) := by decide +kernel
theorem dX12_key_211 : decode cX12_key 211 = .ok (.iconst 1, 1) := by decide +kernel
theorem dX12_key_212 : decode cX12_key 212 = .ok (.iadd, 1) := by decide +kernel
theorem dX12_key_213 : decode cX12_key 213 = .ok (.putfield 260, 3) := by decide +kernel
theorem dX12_key_216 : decode cX12_key 216 = .ok (.aload_n 0, 1) := by decide +kernel
theorem dX12_key_217 : decode cX12_key 217 = .ok (.getfield 63, 3) := by decide +kernel
theorem dX12_key_220 : decode cX12_key 220 = .ok (.aload_n 0, 1) := by decide +kernel
theorem dX12_key_221 : decode cX12_key 221 = .ok (.getfield 260, 3) := by decide +kernel
theorem dX12_key_224 : decode cX12_key 224 = .ok (.iload 11, 2) := by decide +kernel
theorem dX12_key_226 : decode cX12_key 226 = .ok (.iload 6, 2) := by decide +kernel
theorem dX12_key_228 : decode cX12_key 228 = .ok (.isub, 1) := by decide +kernel
theorem dX12_key_229 : decode cX12_key 229 = .ok (.iastore, 1) := by decide +kernel
theorem dX12_key_230 : decode cX12_key 230 = .ok (.aload_n 0, 1) := by decide +kernel
theorem dX12_key_231 : decode cX12_key 231 = .ok (.dup, 1) := by decide +kernel
theorem dX12_key_232 : decode cX12_key 232 = .ok (.getfield 260, 3) := by decide +kernel
theorem dX12_key_235 : decode cX12_key 235 = .ok (.iconst 1, 1) := by decide +kernel
theorem dX12_key_236 : decode cX12_key 236 = .ok (.iadd, 1) := by decide +kernel
theorem dX12_key_237 : decode cX12_key 237 = .ok (.putfield 260, 3) := by decide +kernel
theorem dX12_key_240 : decode cX12_key 240 = .ok (.iconst 1, 1) := by decide +kernel
theorem dX12_key_241 : decode cX12_key 241 = .ok (.istore 8, 2) := by decide +kernel
theorem dX12_key_243 : decode cX12_key 243 = .ok (.iconst 0, 1) := by decide +kernel
theorem dX12_key_244 : decode cX12_key 244 = .ok (.istore 7, 2) := by decide +kernel
theorem dX12_key_246 : decode cX12_key 246 = .ok (.iinc 9 1, 3) := by decide +kernel
theorem dX12_key_249 : decode cX12_key 249 = .ok (.goto (-171), 3) := by decide +kernel
theorem dX12_key_252 : decode cX12_key 252 = .ok (.aload_n 0, 1) := by decide +kernel
theorem dX12_key_253 : decode cX12_key 253 = .ok (.getfield 260, 3) := by decide +kernel
theorem dX12_key_256 : decode cX12_key 256 = .ok (.ireturn, 1) := by decide +kernel
theorem dX12_mended_0 : decode cX12_mended 0 = .ok (.iload_n 1, 1) := by decide +kernel
theorem dX12_mended_1 : decode cX12_mended 1 = .ok (.i2l, 1) := by decide +kernel
theorem dX12_mended_2 : decode cX12_mended 2 = .ok (.lconst 0, 1) := by decide +kernel
theorem dX12_mended_3 : decode cX12_mended 3 = .ok (.ldc2_w 345, 3) := by decide +kernel
theorem dX12_mended_6 : decode cX12_mended 6 = .ok (.invokestatic 155, 3) := by decide +kernel
theorem dX12_mended_9 : decode cX12_mended 9 = .ok (.ifCond .eq 15, 3) := by decide +kernel
theorem dX12_mended_12 : decode cX12_mended 12 = .ok (.iload_n 2, 1) := by decide +kernel
theorem dX12_mended_13 : decode cX12_mended 13 = .ok (.i2l, 1) := by decide +kernel
theorem dX12_mended_14 : decode cX12_mended 14 = .ok (.lconst 0, 1) := by decide +kernel
theorem dX12_mended_15 : decode cX12_mended 15 = .ok (.ldc2_w 347, 3) := by decide +kernel
theorem dX12_mended_18 : decode cX12_mended 18 = .ok (.invokestatic 155, 3) := by decide +kernel
theorem dX12_mended_21 : decode cX12_mended 21 = .ok (.ifCond .ne 5, 3) := by decide +kernel
theorem dX12_mended_24 : decode cX12_mended 24 = .ok (.iconst (-1), 1) := by decide +kernel
theorem dX12_mended_25 : decode cX12_mended 25 = .ok (.ireturn, 1) := by decide +kernel
theorem dX12_mended_26 : decode cX12_mended 26 = .ok (.iconst 0, 1) := by decide +kernel
theorem dX12_mended_27 : decode cX12_mended 27 = .ok (.istore 4, 2) := by decide +kernel
theorem dX12_mended_29 : decode cX12_mended 29 = .ok (.iconst 0, 1) := by decide +kernel
theorem dX12_mended_30 : decode cX12_mended 30 = .ok (.istore 5, 2) := by decide +kernel
theorem dX12_mended_32 : decode cX12_mended 32 = .ok (.iload 5, 2) := by decide +kernel
theorem dX12_mended_34 : decode cX12_mended 34 = .ok (.aload_n 0, 1) := by decide +kernel
theorem dX12_mended_35 : decode cX12_mended 35 = .ok (.getfield 30, 3) := by decide +kernel
theorem dX12_mended_38 : decode cX12_mended 38 = .ok (.iconst 0, 1) := by decide +kernel
theorem dX12_mended_39 : decode cX12_mended 39 = .ok (.iaload, 1) := by decide +kernel
theorem dX12_mended_40 : decode cX12_mended 40 = .ok (.if_icmp .ge 99, 3) := by decide +kernel
theorem dX12_mended_43 : decode cX12_mended 43 = .ok (.iload_n 1, 1) := by decide +kernel
theorem dX12_mended_44 : decode cX12_mended 44 = .ok (.istore 6, 2) := by decide +kernel
theorem dX12_mended_46 : decode cX12_mended 46 = .ok (.aload_n 0, 1) := by decide +kernel
theorem dX12_mended_47 : decode cX12_mended 47 = .ok (.getfield 18, 3) := by decide +kernel
theorem dX12_mended_50 : decode cX12_mended 50 = .ok (.iconst 0, 1) := by decide +kernel
theorem dX12_mended_51 : decode cX12_mended 51 = .ok (.aaload, 1) := by decide +kernel
theorem dX12_mended_52 : decode cX12_mended 52 = .ok (.iload 5, 2) := by decide +kernel
theorem dX12_mended_54 : decode cX12_mended 54 = .ok (.iaload, 1) := by decide +kernel
theorem dX12_mended_55 : decode cX12_mended 55 = .ok (.istore 7, 2) := by decide +kernel
theorem dX12_mended_57 : decode cX12_mended 57 = .ok (.iconst 0, 1) := by decide +kernel
theorem dX12_mended_58 : decode cX12_mended 58 = .ok (.istore 8, 2) := by decide +kernel
theorem dX12_mended_60 : decode cX12_mended 60 = .ok (.iconst 0, 1) := by decide +kernel
theorem dX12_mended_61 : decode cX12_mended 61 = .ok (.istore 9, 2) := by decide +kernel
theorem dX12_mended_63 : decode cX12_mended 63 = .ok (.iload 9, 2) := by decide +kernel
theorem dX12_mended_65 : decode cX12_mended 65 = .ok (.iconst 3, 1) := by decide +kernel
theorem dX12_mended_66 : decode cX12_mended 66 = .ok (.if_icmp .ge 46, 3) := by decide +kernel
theorem dX12_mended_69 : decode cX12_mended 69 = .ok (.iload 8, 2) := by decide +kernel
theorem dX12_mended_71 : decode cX12_mended 71 = .ok (.iload 6, 2) := by decide +kernel
theorem dX12_mended_73 : decode cX12_mended 73 = .ok (.bipush 26, 2) := by decide +kernel
theorem dX12_mended_75 : decode cX12_mended 75 = .ok (.irem, 1) := by decide +kernel
theorem dX12_mended_76 : decode cX12_mended 76 = .ok (.iload 7, 2) := by decide +kernel
theorem dX12_mended_78 : decode cX12_mended 78 = .ok (.bipush 26, 2) := by decide +kernel
theorem dX12_mended_80 : decode cX12_mended 80 = .ok (.irem, 1) := by decide +kernel
theorem dX12_mended_81 : decode cX12_mended 81 = .ok (.if_icmp .eq 7, 3) := by decide +kernel
theorem dX12_mended_84 : decode cX12_mended 84 = .ok (.iconst 1, 1) := by decide +kernel
theorem dX12_mended_85 : decode cX12_mended 85 = .ok (.goto 4, 3) := by decide +kernel
theorem dX12_mended_88 : decode cX12_mended 88 = .ok (.iconst 0, 1) := by decide +kernel
theorem dX12_mended_89 : decode cX12_mended 89 = .ok (.iadd, 1) := by decide +kernel
theorem dX12_mended_90 : decode cX12_mended 90 = .ok (.istore 8, 2) := by decide +kernel
theorem dX12_mended_92 : decode cX12_mended 92 = .ok (.iload 6, 2) := by decide +kernel
theorem dX12_mended_94 : decode cX12_mended 94 = .ok (.bipush 26, 2) := by decide +kernel
theorem dX12_mended_96 : decode cX12_mended 96 = .ok (.idiv, 1) := by decide +kernel
theorem dX12_mended_97 : decode cX12_mended 97 = .ok (.istore 6, 2) := by decide +kernel
theorem dX12_mended_99 : decode cX12_mended 99 = .ok (.iload 7, 2) := by decide +kernel
theorem dX12_mended_101 : decode cX12_mended 101 = .ok (.bipush 26, 2) := by decide +kernel
theorem dX12_mended_103 : decode cX12_mended 103 = .ok (.idiv, 1) := by decide +kernel
theorem dX12_mended_104 : decode cX12_mended 104 = .ok (.istore 7, 2) := by decide +kernel
theorem dX12_mended_106 : decode cX12_mended 106 = .ok (.iinc 9 1, 3) := by decide +kernel
theorem dX12_mended_109 : decode cX12_mended 109 = .ok (.goto (-46), 3) := by decide +kernel
theorem dX12_mended_112 : decode cX12_mended 112 = .ok (.iload 8, 2) := by decide +kernel
theorem dX12_mended_114 : decode cX12_mended 114 = .ok (.iload_n 2, 1) := by decide +kernel
theorem dX12_mended_115 : decode cX12_mended 115 = .ok (.if_icmp .le 6, 3) := by decide +kernel
theorem dX12_mended_118 : decode cX12_mended 118 = .ok (.goto 15, 3) := by decide +kernel
theorem dX12_mended_121 : decode cX12_mended 121 = .ok (.iload 4, 2) := by decide +kernel
theorem dX12_mended_123 : decode cX12_mended 123 = .ok (.iload_n 3, 1) := by decide +kernel
theorem dX12_mended_124 : decode cX12_mended 124 = .ok (.if_icmp .ne 6, 3) := by decide +kernel
theorem dX12_mended_127 : decode cX12_mended 127 = .ok (.iload 5, 2) := by decide +kernel
theorem dX12_mended_129 : decode cX12_mended 129 = .ok (.ireturn, 1) := by decide +kernel
theorem dX12_mended_130 : decode cX12_mended 130 = .ok (.iinc 4 1, 3) := by decide +kernel
theorem dX12_mended_133 : decode cX12_mended 133 = .ok (.iinc 5 1, 3) := by decide +kernel
theorem dX12_mended_136 : decode cX12_mended 136 = .ok (.goto (-104), 3) := by decide +kernel
theorem dX12_mended_139 : decode cX12_mended 139 = .ok (.iload_n 3, 1) := by decide +kernel
theorem dX12_mended_140 : decode cX12_mended 140 = .ok (.iconst (-1), 1) := by decide +kernel
theorem dX12_mended_141 : decode cX12_mended 141 = .ok (.if_icmp .ne 8, 3) := by decide +kernel
theorem dX12_mended_144 : decode cX12_mended 144 = .ok (.iload 4, 2) := by decide +kernel
theorem dX12_mended_146 : decode cX12_mended 146 = .ok (.goto 4, 3) := by decide +kernel
theorem dX12_mended_149 : decode cX12_mended 149 = .ok (.iconst (-1), 1) := by decide +kernel
theorem dX12_mended_150 : decode cX12_mended 150 = .ok (.ireturn, 1) := by decide +kernel
theorem dX12_leads_0 : decode cX12_leads 0 = .ok (.iconst 0, 1) := by decide +kernel
theorem dX12_leads_1 : decode cX12_leads 1 = .ok (.istore_n 2, 1) := by decide +kernel
theorem dX12_leads_2 : decode cX12_leads 2 = .ok (.iload_n 2, 1) := by decide +kernel
theorem dX12_leads_3 : decode cX12_leads 3 = .ok (.bipush 6, 2) := by decide +kernel
theorem dX12_leads_5 : decode cX12_leads 5 = .ok (.if_icmp .ge 25, 3) := by decide +kernel
theorem dX12_leads_8 : decode cX12_leads 8 = .ok (.aload_n 0, 1) := by decide +kernel
theorem dX12_leads_9 : decode cX12_leads 9 = .ok (.getfield 96, 3) := by decide +kernel
theorem dX12_leads_12 : decode cX12_leads 12 = .ok (.iload_n 2, 1) := by decide +kernel
theorem dX12_leads_13 : decode cX12_leads 13 = .ok (.iload_n 2, 1) := by decide +kernel
theorem dX12_leads_14 : decode cX12_leads 14 = .ok (.iload_n 1, 1) := by decide +kernel
theorem dX12_leads_15 : decode cX12_leads 15 = .ok (.if_icmp .ne 7, 3) := by decide +kernel
theorem dX12_leads_18 : decode cX12_leads 18 = .ok (.iconst 0, 1) := by decide +kernel
theorem dX12_leads_19 : decode cX12_leads 19 = .ok (.goto 4, 3) := by decide +kernel
theorem dX12_leads_22 : decode cX12_leads 22 = .ok (.iconst (-1), 1) := by decide +kernel
theorem dX12_leads_23 : decode cX12_leads 23 = .ok (.iastore, 1) := by decide +kernel
theorem dX12_leads_24 : decode cX12_leads 24 = .ok (.iinc 2 1, 3) := by decide +kernel
theorem dX12_leads_27 : decode cX12_leads 27 = .ok (.goto (-25), 3) := by decide +kernel
theorem dX12_leads_30 : decode cX12_leads 30 = .ok (.iconst 0, 1) := by decide +kernel
theorem dX12_leads_31 : decode cX12_leads 31 = .ok (.istore_n 2, 1) := by decide +kernel
theorem dX12_leads_32 : decode cX12_leads 32 = .ok (.iload_n 2, 1) := by decide +kernel
theorem dX12_leads_33 : decode cX12_leads 33 = .ok (.bipush 6, 2) := by decide +kernel
theorem dX12_leads_35 : decode cX12_leads 35 = .ok (.if_icmp .ge 69, 3) := by decide +kernel
theorem dX12_leads_38 : decode cX12_leads 38 = .ok (.iconst 0, 1) := by decide +kernel
theorem dX12_leads_39 : decode cX12_leads 39 = .ok (.istore_n 3, 1) := by decide +kernel
theorem dX12_leads_40 : decode cX12_leads 40 = .ok (.iload_n 3, 1) := by decide +kernel
theorem dX12_leads_41 : decode cX12_leads 41 = .ok (.aload_n 0, 1) := by decide +kernel
theorem dX12_leads_42 : decode cX12_leads 42 = .ok (.getfield 243, 3) := by decide +kernel
theorem dX12_leads_45 : decode cX12_leads 45 = .ok (.if_icmp .ge 53, 3) := by decide +kernel
theorem dX12_leads_48 : decode cX12_leads 48 = .ok (.aload_n 0, 1) := by decide +kernel
theorem dX12_leads_49 : decode cX12_leads 49 = .ok (.getfield 96, 3) := by decide +kernel
theorem dX12_leads_52 : decode cX12_leads 52 = .ok (.aload_n 0, 1) := by decide +kernel
theorem dX12_leads_53 : decode cX12_leads 53 = .ok (.getfield 54, 3) := by decide +kernel
theorem dX12_leads_56 : decode cX12_leads 56 = .ok (.iload_n 3, 1) := by decide +kernel
theorem dX12_leads_57 : decode cX12_leads 57 = .ok (.iaload, 1) := by decide +kernel
theorem dX12_leads_58 : decode cX12_leads 58 = .ok (.iaload, 1) := by decide +kernel
theorem dX12_leads_59 : decode cX12_leads 59 = .ok (.iload_n 2, 1) := by decide +kernel
theorem dX12_leads_60 : decode cX12_leads 60 = .ok (.if_icmp .ne 32, 3) := by decide +kernel
theorem dX12_leads_63 : decode cX12_leads 63 = .ok (.aload_n 0, 1) := by decide +kernel
theorem dX12_leads_64 : decode cX12_leads 64 = .ok (.getfield 96, 3) := by decide +kernel
theorem dX12_leads_67 : decode cX12_leads 67 = .ok (.aload_n 0, 1) := by decide +kernel
theorem dX12_leads_68 : decode cX12_leads 68 = .ok (.getfield 51, 3) := by decide +kernel
theorem dX12_leads_71 : decode cX12_leads 71 = .ok (.iload_n 3, 1) := by decide +kernel
theorem dX12_leads_72 : decode cX12_leads 72 = .ok (.iaload, 1) := by decide +kernel
theorem dX12_leads_73 : decode cX12_leads 73 = .ok (.iaload, 1) := by decide +kernel
theorem dX12_leads_74 : decode cX12_leads 74 = .ok (.iconst (-1), 1) := by decide +kernel
theorem dX12_leads_75 : decode cX12_leads 75 = .ok (.if_icmp .ne 17, 3) := by decide +kernel
theorem dX12_leads_78 : decode cX12_leads 78 = .ok (.aload_n 0, 1) := by decide +kernel
theorem dX12_leads_79 : decode cX12_leads 79 = .ok (.getfield 96, 3) := by decide +kernel
theorem dX12_leads_82 : decode cX12_leads 82 = .ok (.aload_n 0, 1) := by decide +kernel
theorem dX12_leads_83 : decode cX12_leads 83 = .ok (.getfield 51, 3) := by decide +kernel
theorem dX12_leads_86 : decode cX12_leads 86 = .ok (.iload_n 3, 1) := by decide +kernel
theorem dX12_leads_87 : decode cX12_leads 87 = .ok (.iaload, 1) := by decide +kernel
theorem dX12_leads_88 : decode cX12_leads 88 = .ok (.iload_n 2, 1) := by decide +kernel
theorem dX12_leads_89 : decode cX12_leads 89 = .ok (.iconst 1, 1) := by decide +kernel
theorem dX12_leads_90 : decode cX12_leads 90 = .ok (.iadd, 1) := by decide +kernel
theorem dX12_leads_91 : decode cX12_leads 91 = .ok (.iastore, 1) := by decide +kernel
theorem dX12_leads_92 : decode cX12_leads 92 = .ok (.iinc 3 1, 3) := by decide +kernel
theorem dX12_leads_95 : decode cX12_leads 95 = .ok (.goto (-55), 3) := by decide +kernel
theorem dX12_leads_98 : decode cX12_leads 98 = .ok (.iinc 2 1, 3) := by decide +kernel
theorem dX12_leads_101 : decode cX12_leads 101 = .ok (.goto (-69), 3) := by decide +kernel
theorem dX12_leads_104 : decode cX12_leads 104 = .ok (.return_, 1) := by decide +kernel
theorem dX12_firstLine_0 : decode cX12_firstLine 0 = .ok (.aload_n 0, 1) := by decide +kernel
theorem dX12_firstLine_1 : decode cX12_firstLine 1 = .ok (.iload_n 2, 1) := by decide +kernel
theorem dX12_firstLine_2 : decode cX12_firstLine 2 = .ok (.invokevirtual 349, 3) := by decide +kernel
theorem dX12_firstLine_5 : decode cX12_firstLine 5 = .ok (.aload_n 0, 1) := by decide +kernel
theorem dX12_firstLine_6 : decode cX12_firstLine 6 = .ok (.getfield 96, 3) := by decide +kernel
theorem dX12_firstLine_9 : decode cX12_firstLine 9 = .ok (.iload_n 1, 1) := by decide +kernel
theorem dX12_firstLine_10 : decode cX12_firstLine 10 = .ok (.iaload, 1) := by decide +kernel
theorem dX12_firstLine_11 : decode cX12_firstLine 11 = .ok (.ifCond .gt 5, 3) := by decide +kernel
theorem dX12_firstLine_14 : decode cX12_firstLine 14 = .ok (.iconst (-1), 1) := by decide +kernel
theorem dX12_firstLine_15 : decode cX12_firstLine 15 = .ok (.ireturn, 1) := by decide +kernel
theorem dX12_firstLine_16 : decode cX12_firstLine 16 = .ok (.iconst 0, 1) := by decide +kernel
theorem dX12_firstLine_17 : decode cX12_firstLine 17 = .ok (.istore_n 3, 1) := by decide +kernel
theorem dX12_firstLine_18 : decode cX12_firstLine 18 = .ok (.iload_n 3, 1) := by decide +kernel
theorem dX12_firstLine_19 : decode cX12_firstLine 19 = .ok (.aload_n 0, 1) := by decide +kernel
theorem dX12_firstLine_20 : decode cX12_firstLine 20 = .ok (.getfield 243, 3) := by decide +kernel
theorem dX12_firstLine_23 : decode cX12_firstLine 23 = .ok (.if_icmp .ge 43, 3) := by decide +kernel
theorem dX12_firstLine_26 : decode cX12_firstLine 26 = .ok (.aload_n 0, 1) := by decide +kernel
theorem dX12_firstLine_27 : decode cX12_firstLine 27 = .ok (.getfield 51, 3) := by decide +kernel
theorem dX12_firstLine_30 : decode cX12_firstLine 30 = .ok (.iload_n 3, 1) := by decide +kernel
theorem dX12_firstLine_31 : decode cX12_firstLine 31 = .ok (.iaload, 1) := by decide +kernel
theorem dX12_firstLine_32 : decode cX12_firstLine 32 = .ok (.iload_n 1, 1) := by decide +kernel
theorem dX12_firstLine_33 : decode cX12_firstLine 33 = .ok (.if_icmp .ne 27, 3) := by decide +kernel
theorem dX12_firstLine_36 : decode cX12_firstLine 36 = .ok (.aload_n 0, 1) := by decide +kernel
theorem dX12_firstLine_37 : decode cX12_firstLine 37 = .ok (.getfield 96, 3) := by decide +kernel
theorem dX12_firstLine_40 : decode cX12_firstLine 40 = .ok (.aload_n 0, 1) := by decide +kernel
theorem dX12_firstLine_41 : decode cX12_firstLine 41 = .ok (.getfield 54, 3) := by decide +kernel
theorem dX12_firstLine_44 : decode cX12_firstLine 44 = .ok (.iload_n 3, 1) := by decide +kernel
theorem dX12_firstLine_45 : decode cX12_firstLine 45 = .ok (.iaload, 1) := by decide +kernel
theorem dX12_firstLine_46 : decode cX12_firstLine 46 = .ok (.iaload, 1) := by decide +kernel
theorem dX12_firstLine_47 : decode cX12_firstLine 47 = .ok (.aload_n 0, 1) := by decide +kernel
theorem dX12_firstLine_48 : decode cX12_firstLine 48 = .ok (.getfield 96, 3) := by decide +kernel
theorem dX12_firstLine_51 : decode cX12_firstLine 51 = .ok (.iload_n 1, 1) := by decide +kernel
theorem dX12_firstLine_52 : decode cX12_firstLine 52 = .ok (.iaload, 1) := by decide +kernel
theorem dX12_firstLine_53 : decode cX12_firstLine 53 = .ok (.iconst 1, 1) := by decide +kernel
theorem dX12_firstLine_54 : decode cX12_firstLine 54 = .ok (.isub, 1) := by decide +kernel
theorem dX12_firstLine_55 : decode cX12_firstLine 55 = .ok (.if_icmp .ne 5, 3) := by decide +kernel
theorem dX12_firstLine_58 : decode cX12_firstLine 58 = .ok (.iload_n 3, 1) := by decide +kernel
theorem dX12_firstLine_59 : decode cX12_firstLine 59 = .ok (.ireturn, 1) := by decide +kernel
theorem dX12_firstLine_60 : decode cX12_firstLine 60 = .ok (.iinc 3 1, 3) := by decide +kernel
theorem dX12_firstLine_63 : decode cX12_firstLine 63 = .ok (.goto (-45), 3) := by decide +kernel
theorem dX12_firstLine_66 : decode cX12_firstLine 66 = .ok (.iconst (-1), 1) := by decide +kernel
theorem dX12_firstLine_67 : decode cX12_firstLine 67 = .ok (.ireturn, 1) := by decide +kernel
theorem dX12_route_0 : decode cX12_route 0 = .ok (.iload_n 1, 1) := by decide +kernel
theorem dX12_route_1 : decode cX12_route 1 = .ok (.invokestatic 236, 3) := by decide +kernel
theorem dX12_route_4 : decode cX12_route 4 = .ok (.ifCond .eq 20, 3) := by decide +kernel
theorem dX12_route_7 : decode cX12_route 7 = .ok (.iload_n 2, 1) := by decide +kernel
theorem dX12_route_8 : decode cX12_route 8 = .ok (.invokestatic 236, 3) := by decide +kernel
theorem dX12_route_11 : decode cX12_route 11 = .ok (.ifCond .eq 13, 3) := by decide +kernel
theorem dX12_route_14 : decode cX12_route 14 = .ok (.aload_n 0, 1) := by decide +kernel
theorem dX12_route_15 : decode cX12_route 15 = .ok (.iload_n 1, 1) := by decide +kernel
theorem dX12_route_16 : decode cX12_route 16 = .ok (.iload_n 2, 1) := by decide +kernel
theorem dX12_route_17 : decode cX12_route 17 = .ok (.invokevirtual 352, 3) := by decide +kernel
theorem dX12_route_20 : decode cX12_route 20 = .ok (.iconst (-1), 1) := by decide +kernel
theorem dX12_route_21 : decode cX12_route 21 = .ok (.if_icmp .ne 5, 3) := by decide +kernel
theorem dX12_route_24 : decode cX12_route 24 = .ok (.iconst (-1), 1) := by decide +kernel
theorem dX12_route_25 : decode cX12_route 25 = .ok (.ireturn, 1) := by decide +kernel
theorem dX12_route_26 : decode cX12_route 26 = .ok (.iload_n 1, 1) := by decide +kernel
theorem dX12_route_27 : decode cX12_route 27 = .ok (.istore 4, 2) := by decide +kernel
theorem dX12_route_29 : decode cX12_route 29 = .ok (.iconst 0, 1) := by decide +kernel
theorem dX12_route_30 : decode cX12_route 30 = .ok (.istore 5, 2) := by decide +kernel
theorem dX12_route_32 : decode cX12_route 32 = .ok (.iload 4, 2) := by decide +kernel
theorem dX12_route_34 : decode cX12_route 34 = .ok (.iload_n 2, 1) := by decide +kernel
theorem dX12_route_35 : decode cX12_route 35 = .ok (.if_icmp .eq 36, 3) := by decide +kernel
theorem dX12_route_38 : decode cX12_route 38 = .ok (.aload_n 0, 1) := by decide +kernel
theorem dX12_route_39 : decode cX12_route 39 = .ok (.iload 4, 2) := by decide +kernel
theorem dX12_route_41 : decode cX12_route 41 = .ok (.iload_n 2, 1) := by decide +kernel
theorem dX12_route_42 : decode cX12_route 42 = .ok (.invokevirtual 352, 3) := by decide +kernel
theorem dX12_route_45 : decode cX12_route 45 = .ok (.istore 6, 2) := by decide +kernel
theorem dX12_route_47 : decode cX12_route 47 = .ok (.iload 5, 2) := by decide +kernel
theorem dX12_route_49 : decode cX12_route 49 = .ok (.iload_n 3, 1) := by decide +kernel
theorem dX12_route_50 : decode cX12_route 50 = .ok (.if_icmp .ne 6, 3) := by decide +kernel
theorem dX12_route_53 : decode cX12_route 53 = .ok (.iload 6, 2) := by decide +kernel
theorem dX12_route_55 : decode cX12_route 55 = .ok (.ireturn, 1) := by decide +kernel
theorem dX12_route_56 : decode cX12_route 56 = .ok (.iinc 5 1, 3) := by decide +kernel
theorem dX12_route_59 : decode cX12_route 59 = .ok (.aload_n 0, 1) := by decide +kernel
theorem dX12_route_60 : decode cX12_route 60 = .ok (.getfield 54, 3) := by decide +kernel
theorem dX12_route_63 : decode cX12_route 63 = .ok (.iload 6, 2) := by decide +kernel
theorem dX12_route_65 : decode cX12_route 65 = .ok (.iaload, 1) := by decide +kernel
theorem dX12_route_66 : decode cX12_route 66 = .ok (.istore 4, 2) := by decide +kernel
theorem dX12_route_68 : decode cX12_route 68 = .ok (.goto (-36), 3) := by decide +kernel
theorem dX12_route_71 : decode cX12_route 71 = .ok (.iload_n 3, 1) := by decide +kernel
theorem dX12_route_72 : decode cX12_route 72 = .ok (.iconst (-1), 1) := by decide +kernel
theorem dX12_route_73 : decode cX12_route 73 = .ok (.if_icmp .ne 8, 3) := by decide +kernel
theorem dX12_route_76 : decode cX12_route 76 = .ok (.iload 5, 2) := by decide +kernel
theorem dX12_route_78 : decode cX12_route 78 = .ok (.goto 4, 3) := by decide +kernel
theorem dX12_route_81 : decode cX12_route 81 = .ok (.iconst (-1), 1) := by decide +kernel
theorem dX12_route_82 : decode cX12_route 82 = .ok (.ireturn, 1) := by decide +kernel
theorem dX12_message_0 : decode cX12_message 0 = .ok (.iload_n 1, 1) := by decide +kernel
theorem dX12_message_1 : decode cX12_message 1 = .ok (.ifCond .lt 78, 3) := by decide +kernel
theorem dX12_message_4 : decode cX12_message 4 = .ok (.iload_n 2, 1) := by decide +kernel
theorem dX12_message_5 : decode cX12_message 5 = .ok (.ifCond .lt 74, 3) := by decide +kernel
theorem dX12_message_8 : decode cX12_message 8 = .ok (.iload_n 1, 1) := by decide +kernel
theorem dX12_message_9 : decode cX12_message 9 = .ok (.bipush 10, 2) := by decide +kernel
theorem dX12_message_11 : decode cX12_message 11 = .ok (.idiv, 1) := by decide +kernel
theorem dX12_message_12 : decode cX12_message 12 = .ok (.invokestatic 236, 3) := by decide +kernel
theorem dX12_message_15 : decode cX12_message 15 = .ok (.ifCond .eq 64, 3) := by decide +kernel
theorem dX12_message_18 : decode cX12_message 18 = .ok (.iload_n 1, 1) := by decide +kernel
theorem dX12_message_19 : decode cX12_message 19 = .ok (.bipush 10, 2) := by decide +kernel
theorem dX12_message_21 : decode cX12_message 21 = .ok (.irem, 1) := by decide +kernel
theorem dX12_message_22 : decode cX12_message 22 = .ok (.invokestatic 236, 3) := by decide +kernel
theorem dX12_message_25 : decode cX12_message 25 = .ok (.ifCond .eq 54, 3) := by decide +kernel
theorem dX12_message_28 : decode cX12_message 28 = .ok (.iload_n 2, 1) := by decide +kernel
theorem dX12_message_29 : decode cX12_message 29 = .ok (.bipush 100, 2) := by decide +kernel
theorem dX12_message_31 : decode cX12_message 31 = .ok (.idiv, 1) := by decide +kernel
theorem dX12_message_32 : decode cX12_message 32 = .ok (.i2l, 1) := by decide +kernel
theorem dX12_message_33 : decode cX12_message 33 = .ok (.lconst 0, 1) := by decide +kernel
theorem dX12_message_34 : decode cX12_message 34 = .ok (.ldc2_w 355, 3) := by decide +kernel
theorem dX12_message_37 : decode cX12_message 37 = .ok (.invokestatic 155, 3) := by decide +kernel
theorem dX12_message_40 : decode cX12_message 40 = .ok (.ifCond .eq 39, 3) := by decide +kernel
theorem dX12_message_43 : decode cX12_message 43 = .ok (.iload_n 2, 1) := by decide +kernel
theorem dX12_message_44 : decode cX12_message 44 = .ok (.bipush 100, 2) := by decide +kernel
theorem dX12_message_46 : decode cX12_message 46 = .ok (.irem, 1) := by decide +kernel
theorem dX12_message_47 : decode cX12_message 47 = .ok (.i2l, 1) := by decide +kernel
theorem dX12_message_48 : decode cX12_message 48 = .ok (.lconst 1, 1) := by decide +kernel
theorem dX12_message_49 : decode cX12_message 49 = .ok (.ldc2_w 357, 3) := by decide +kernel
theorem dX12_message_52 : decode cX12_message 52 = .ok (.invokestatic 155, 3) := by decide +kernel
theorem dX12_message_55 : decode cX12_message 55 = .ok (.ifCond .eq 24, 3) := by decide +kernel
theorem dX12_message_58 : decode cX12_message 58 = .ok (.iload_n 3, 1) := by decide +kernel
theorem dX12_message_59 : decode cX12_message 59 = .ok (.i2l, 1) := by decide +kernel
theorem dX12_message_60 : decode cX12_message 60 = .ok (.lconst 0, 1) := by decide +kernel
theorem dX12_message_61 : decode cX12_message 61 = .ok (.ldc2_w 347, 3) := by decide +kernel
theorem dX12_message_64 : decode cX12_message 64 = .ok (.invokestatic 155, 3) := by decide +kernel
theorem dX12_message_67 : decode cX12_message 67 = .ok (.ifCond .eq 12, 3) := by decide +kernel
theorem dX12_message_70 : decode cX12_message 70 = .ok (.aload_n 0, 1) := by decide +kernel
theorem dX12_message_71 : decode cX12_message 71 = .ok (.getfield 359, 3) := by decide +kernel
theorem dX12_message_74 : decode cX12_message 74 = .ok (.bipush 20, 2) := by decide +kernel
theorem dX12_message_76 : decode cX12_message 76 = .ok (.if_icmp .ne 5, 3) := by decide +kernel
theorem dX12_message_79 : decode cX12_message 79 = .ok (.iconst (-1), 1) := by decide +kernel
theorem dX12_message_80 : decode cX12_message 80 = .ok (.ireturn, 1) := by decide +kernel
theorem dX12_message_81 : decode cX12_message 81 = .ok (.aload_n 0, 1) := by decide +kernel
theorem dX12_message_82 : decode cX12_message 82 = .ok (.iload_n 1, 1) := by decide +kernel
theorem dX12_message_83 : decode cX12_message 83 = .ok (.bipush 10, 2) := by decide +kernel
theorem dX12_message_85 : decode cX12_message 85 = .ok (.idiv, 1) := by decide +kernel
theorem dX12_message_86 : decode cX12_message 86 = .ok (.iload_n 1, 1) := by decide +kernel
theorem dX12_message_87 : decode cX12_message 87 = .ok (.bipush 10, 2) := by decide +kernel
theorem dX12_message_89 : decode cX12_message 89 = .ok (.irem, 1) := by decide +kernel
theorem dX12_message_90 : decode cX12_message 90 = .ok (.invokevirtual 352, 3) := by decide +kernel
theorem dX12_message_93 : decode cX12_message 93 = .ok (.iconst (-1), 1) := by decide +kernel
theorem dX12_message_94 : decode cX12_message 94 = .ok (.if_icmp .ne 5, 3) := by decide +kernel
theorem dX12_message_97 : decode cX12_message 97 = .ok (.iconst (-1), 1) := by decide +kernel
theorem dX12_message_98 : decode cX12_message 98 = .ok (.ireturn, 1) := by decide +kernel
theorem dX12_message_99 : decode cX12_message 99 = .ok (.aload_n 0, 1) := by decide +kernel
theorem dX12_message_100 : decode cX12_message 100 = .ok (.getfield 81, 3) := by decide +kernel
theorem dX12_message_103 : decode cX12_message 103 = .ok (.aload_n 0, 1) := by decide +kernel
theorem dX12_message_104 : decode cX12_message 104 = .ok (.getfield 359, 3) := by decide +kernel
theorem dX12_message_107 : decode cX12_message 107 = .ok (.iload_n 1, 1) := by decide +kernel
theorem dX12_message_108 : decode cX12_message 108 = .ok (.bipush 10, 2) := by decide +kernel
theorem dX12_message_110 : decode cX12_message 110 = .ok (.idiv, 1) := by decide +kernel
theorem dX12_message_111 : decode cX12_message 111 = .ok (.iastore, 1) := by decide +kernel
theorem dX12_message_112 : decode cX12_message 112 = .ok (.aload_n 0, 1) := by decide +kernel
theorem dX12_message_113 : decode cX12_message 113 = .ok (.getfield 84, 3) := by decide +kernel
theorem dX12_message_116 : decode cX12_message 116 = .ok (.aload_n 0, 1) := by decide +kernel
theorem dX12_message_117 : decode cX12_message 117 = .ok (.getfield 359, 3) := by decide +kernel
theorem dX12_message_120 : decode cX12_message 120 = .ok (.iload_n 1, 1) := by decide +kernel
theorem dX12_message_121 : decode cX12_message 121 = .ok (.bipush 10, 2) := by decide +kernel
theorem dX12_message_123 : decode cX12_message 123 = .ok (.irem, 1) := by decide +kernel
theorem dX12_message_124 : decode cX12_message 124 = .ok (.iastore, 1) := by decide +kernel
theorem dX12_message_125 : decode cX12_message 125 = .ok (.aload_n 0, 1) := by decide +kernel
theorem dX12_message_126 : decode cX12_message 126 = .ok (.getfield 87, 3) := by decide +kernel
theorem dX12_message_129 : decode cX12_message 129 = .ok (.aload_n 0, 1) := by decide +kernel
theorem dX12_message_130 : decode cX12_message 130 = .ok (.getfield 359, 3) := by decide +kernel
theorem dX12_message_133 : decode cX12_message 133 = .ok (.iload_n 2, 1) := by decide +kernel
theorem dX12_message_134 : decode cX12_message 134 = .ok (.bipush 100, 2) := by decide +kernel
theorem dX12_message_136 : decode cX12_message 136 = .ok (.idiv, 1) := by decide +kernel
theorem dX12_message_137 : decode cX12_message 137 = .ok (.iastore, 1) := by decide +kernel
theorem dX12_message_138 : decode cX12_message 138 = .ok (.aload_n 0, 1) := by decide +kernel
theorem dX12_message_139 : decode cX12_message 139 = .ok (.getfield 90, 3) := by decide +kernel
theorem dX12_message_142 : decode cX12_message 142 = .ok (.aload_n 0, 1) := by decide +kernel
theorem dX12_message_143 : decode cX12_message 143 = .ok (.getfield 359, 3) := by decide +kernel
theorem dX12_message_146 : decode cX12_message 146 = .ok (.iload_n 2, 1) := by decide +kernel
theorem dX12_message_147 : decode cX12_message 147 = .ok (.bipush 100, 2) := by decide +kernel
theorem dX12_message_149 : decode cX12_message 149 = .ok (.irem, 1) := by decide +kernel
theorem dX12_message_150 : decode cX12_message 150 = .ok (.iastore, 1) := by decide +kernel
theorem dX12_message_151 : decode cX12_message 151 = .ok (.aload_n 0, 1) := by decide +kernel
theorem dX12_message_152 : decode cX12_message 152 = .ok (.getfield 93, 3) := by decide +kernel
theorem dX12_message_155 : decode cX12_message 155 = .ok (.aload_n 0, 1) := by decide +kernel
theorem dX12_message_156 : decode cX12_message 156 = .ok (.getfield 359, 3) := by decide +kernel
theorem dX12_message_159 : decode cX12_message 159 = .ok (.iload_n 3, 1) := by decide +kernel
theorem dX12_message_160 : decode cX12_message 160 = .ok (.iastore, 1) := by decide +kernel
theorem dX12_message_161 : decode cX12_message 161 = .ok (.aload_n 0, 1) := by decide +kernel
theorem dX12_message_162 : decode cX12_message 162 = .ok (.dup, 1) := by decide +kernel
theorem dX12_message_163 : decode cX12_message 163 = .ok (.getfield 359, 3) := by decide +kernel
theorem dX12_message_166 : decode cX12_message 166 = .ok (.iconst 1, 1) := by decide +kernel
theorem dX12_message_167 : decode cX12_message 167 = .ok (.iadd, 1) := by decide +kernel
theorem dX12_message_168 : decode cX12_message 168 = .ok (.putfield 359, 3) := by decide +kernel
theorem dX12_message_171 : decode cX12_message 171 = .ok (.aload_n 0, 1) := by decide +kernel
theorem dX12_message_172 : decode cX12_message 172 = .ok (.getfield 359, 3) := by decide +kernel
theorem dX12_message_175 : decode cX12_message 175 = .ok (.iconst 1, 1) := by decide +kernel
theorem dX12_message_176 : decode cX12_message 176 = .ok (.isub, 1) := by decide +kernel
theorem dX12_message_177 : decode cX12_message 177 = .ok (.ireturn, 1) := by decide +kernel
theorem dX12_chosen_0 : decode cX12_chosen 0 = .ok (.iconst (-1), 1) := by decide +kernel
theorem dX12_chosen_1 : decode cX12_chosen 1 = .ok (.istore_n 3, 1) := by decide +kernel
theorem dX12_chosen_2 : decode cX12_chosen 2 = .ok (.iconst 0, 1) := by decide +kernel
theorem dX12_chosen_3 : decode cX12_chosen 3 = .ok (.istore 4, 2) := by decide +kernel
theorem dX12_chosen_5 : decode cX12_chosen 5 = .ok (.iload 4, 2) := by decide +kernel
theorem dX12_chosen_7 : decode cX12_chosen 7 = .ok (.aload_n 0, 1) := by decide +kernel
theorem dX12_chosen_8 : decode cX12_chosen 8 = .ok (.getfield 359, 3) := by decide +kernel
theorem dX12_chosen_11 : decode cX12_chosen 11 = .ok (.if_icmp .ge 112, 3) := by decide +kernel
theorem dX12_chosen_14 : decode cX12_chosen 14 = .ok (.aload_n 0, 1) := by decide +kernel
theorem dX12_chosen_15 : decode cX12_chosen 15 = .ok (.getfield 99, 3) := by decide +kernel
theorem dX12_chosen_18 : decode cX12_chosen 18 = .ok (.iload 4, 2) := by decide +kernel
theorem dX12_chosen_20 : decode cX12_chosen 20 = .ok (.iaload, 1) := by decide +kernel
theorem dX12_chosen_21 : decode cX12_chosen 21 = .ok (.aload_n 0, 1) := by decide +kernel
theorem dX12_chosen_22 : decode cX12_chosen 22 = .ok (.getfield 51, 3) := by decide +kernel
theorem dX12_chosen_25 : decode cX12_chosen 25 = .ok (.iload_n 1, 1) := by decide +kernel
theorem dX12_chosen_26 : decode cX12_chosen 26 = .ok (.iaload, 1) := by decide +kernel
theorem dX12_chosen_27 : decode cX12_chosen 27 = .ok (.if_icmp .ne 90, 3) := by decide +kernel
theorem dX12_chosen_30 : decode cX12_chosen 30 = .ok (.aload_n 0, 1) := by decide +kernel
theorem dX12_chosen_31 : decode cX12_chosen 31 = .ok (.getfield 99, 3) := by decide +kernel
theorem dX12_chosen_34 : decode cX12_chosen 34 = .ok (.iload 4, 2) := by decide +kernel
theorem dX12_chosen_36 : decode cX12_chosen 36 = .ok (.iaload, 1) := by decide +kernel
theorem dX12_chosen_37 : decode cX12_chosen 37 = .ok (.aload_n 0, 1) := by decide +kernel
theorem dX12_chosen_38 : decode cX12_chosen 38 = .ok (.getfield 84, 3) := by decide +kernel
theorem dX12_chosen_41 : decode cX12_chosen 41 = .ok (.iload 4, 2) := by decide +kernel
theorem dX12_chosen_43 : decode cX12_chosen 43 = .ok (.iaload, 1) := by decide +kernel
theorem dX12_chosen_44 : decode cX12_chosen 44 = .ok (.if_icmp .eq 73, 3) := by decide +kernel
theorem dX12_chosen_47 : decode cX12_chosen 47 = .ok (.aload_n 0, 1) := by decide +kernel
theorem dX12_chosen_48 : decode cX12_chosen 48 = .ok (.getfield 120, 3) := by decide +kernel
theorem dX12_chosen_51 : decode cX12_chosen 51 = .ok (.iload 4, 2) := by decide +kernel
theorem dX12_chosen_53 : decode cX12_chosen 53 = .ok (.iaload, 1) := by decide +kernel
theorem dX12_chosen_54 : decode cX12_chosen 54 = .ok (.iload_n 1, 1) := by decide +kernel
theorem dX12_chosen_55 : decode cX12_chosen 55 = .ok (.if_icmp .eq 6, 3) := by decide +kernel
theorem dX12_chosen_58 : decode cX12_chosen 58 = .ok (.goto 59, 3) := by decide +kernel
theorem dX12_chosen_61 : decode cX12_chosen 61 = .ok (.iload_n 3, 1) := by decide +kernel
theorem dX12_chosen_62 : decode cX12_chosen 62 = .ok (.iconst (-1), 1) := by decide +kernel
theorem dX12_chosen_63 : decode cX12_chosen 63 = .ok (.if_icmp .eq 51, 3) := by decide +kernel
theorem dX12_chosen_66 : decode cX12_chosen 66 = .ok (.aload_n 0, 1) := by decide +kernel
theorem dX12_chosen_67 : decode cX12_chosen 67 = .ok (.getfield 93, 3) := by decide +kernel
theorem dX12_chosen_70 : decode cX12_chosen 70 = .ok (.iload 4, 2) := by decide +kernel
theorem dX12_chosen_72 : decode cX12_chosen 72 = .ok (.iaload, 1) := by decide +kernel
theorem dX12_chosen_73 : decode cX12_chosen 73 = .ok (.aload_n 0, 1) := by decide +kernel
theorem dX12_chosen_74 : decode cX12_chosen 74 = .ok (.getfield 93, 3) := by decide +kernel
theorem dX12_chosen_77 : decode cX12_chosen 77 = .ok (.iload_n 3, 1) := by decide +kernel
theorem dX12_chosen_78 : decode cX12_chosen 78 = .ok (.iaload, 1) := by decide +kernel
theorem dX12_chosen_79 : decode cX12_chosen 79 = .ok (.if_icmp .gt 35, 3) := by decide +kernel
theorem dX12_chosen_82 : decode cX12_chosen 82 = .ok (.aload_n 0, 1) := by decide +kernel
theorem dX12_chosen_83 : decode cX12_chosen 83 = .ok (.getfield 93, 3) := by decide +kernel
theorem dX12_chosen_86 : decode cX12_chosen 86 = .ok (.iload 4, 2) := by decide +kernel
theorem dX12_chosen_88 : decode cX12_chosen 88 = .ok (.iaload, 1) := by decide +kernel
theorem dX12_chosen_89 : decode cX12_chosen 89 = .ok (.aload_n 0, 1) := by decide +kernel
theorem dX12_chosen_90 : decode cX12_chosen 90 = .ok (.getfield 93, 3) := by decide +kernel
theorem dX12_chosen_93 : decode cX12_chosen 93 = .ok (.iload_n 3, 1) := by decide +kernel
theorem dX12_chosen_94 : decode cX12_chosen 94 = .ok (.iaload, 1) := by decide +kernel
theorem dX12_chosen_95 : decode cX12_chosen 95 = .ok (.if_icmp .ne 22, 3) := by decide +kernel
theorem dX12_chosen_98 : decode cX12_chosen 98 = .ok (.aload_n 0, 1) := by decide +kernel
theorem dX12_chosen_99 : decode cX12_chosen 99 = .ok (.getfield 102, 3) := by decide +kernel
theorem dX12_chosen_102 : decode cX12_chosen 102 = .ok (.iload 4, 2) := by decide +kernel
theorem dX12_chosen_104 : decode cX12_chosen 104 = .ok (.iaload, 1) := by decide +kernel
theorem dX12_chosen_105 : decode cX12_chosen 105 = .ok (.aload_n 0, 1) := by decide +kernel
theorem dX12_chosen_106 : decode cX12_chosen 106 = .ok (.getfield 102, 3) := by decide +kernel
theorem dX12_chosen_109 : decode cX12_chosen 109 = .ok (.iload_n 3, 1) := by decide +kernel
theorem dX12_chosen_110 : decode cX12_chosen 110 = .ok (.iaload, 1) := by decide +kernel
theorem dX12_chosen_111 : decode cX12_chosen 111 = .ok (.if_icmp .ge 6, 3) := by decide +kernel
theorem dX12_chosen_114 : decode cX12_chosen 114 = .ok (.iload 4, 2) := by decide +kernel
theorem dX12_chosen_116 : decode cX12_chosen 116 = .ok (.istore_n 3, 1) := by decide +kernel
theorem dX12_chosen_117 : decode cX12_chosen 117 = .ok (.iinc 4 1, 3) := by decide +kernel
theorem dX12_chosen_120 : decode cX12_chosen 120 = .ok (.goto (-115), 3) := by decide +kernel
theorem dX12_chosen_123 : decode cX12_chosen 123 = .ok (.iload_n 3, 1) := by decide +kernel
theorem dX12_chosen_124 : decode cX12_chosen 124 = .ok (.ireturn, 1) := by decide +kernel
theorem dX12_comesTo_0 : decode cX12_comesTo 0 = .ok (.aload_n 0, 1) := by decide +kernel
theorem dX12_comesTo_1 : decode cX12_comesTo 1 = .ok (.getfield 99, 3) := by decide +kernel
theorem dX12_comesTo_4 : decode cX12_comesTo 4 = .ok (.iload_n 1, 1) := by decide +kernel
theorem dX12_comesTo_5 : decode cX12_comesTo 5 = .ok (.iload_n 2, 1) := by decide +kernel
theorem dX12_comesTo_6 : decode cX12_comesTo 6 = .ok (.iastore, 1) := by decide +kernel
theorem dX12_comesTo_7 : decode cX12_comesTo 7 = .ok (.aload_n 0, 1) := by decide +kernel
theorem dX12_comesTo_8 : decode cX12_comesTo 8 = .ok (.getfield 102, 3) := by decide +kernel
theorem dX12_comesTo_11 : decode cX12_comesTo 11 = .ok (.iload_n 1, 1) := by decide +kernel
theorem dX12_comesTo_12 : decode cX12_comesTo 12 = .ok (.iload_n 3, 1) := by decide +kernel
theorem dX12_comesTo_13 : decode cX12_comesTo 13 = .ok (.iastore, 1) := by decide +kernel
theorem dX12_comesTo_14 : decode cX12_comesTo 14 = .ok (.iload_n 2, 1) := by decide +kernel
theorem dX12_comesTo_15 : decode cX12_comesTo 15 = .ok (.aload_n 0, 1) := by decide +kernel
theorem dX12_comesTo_16 : decode cX12_comesTo 16 = .ok (.getfield 84, 3) := by decide +kernel
theorem dX12_comesTo_19 : decode cX12_comesTo 19 = .ok (.iload_n 1, 1) := by decide +kernel
theorem dX12_comesTo_20 : decode cX12_comesTo 20 = .ok (.iaload, 1) := by decide +kernel
theorem dX12_comesTo_21 : decode cX12_comesTo 21 = .ok (.if_icmp .ne 13, 3) := by decide +kernel
theorem dX12_comesTo_24 : decode cX12_comesTo 24 = .ok (.aload_n 0, 1) := by decide +kernel
theorem dX12_comesTo_25 : decode cX12_comesTo 25 = .ok (.getfield 108, 3) := by decide +kernel
theorem dX12_comesTo_28 : decode cX12_comesTo 28 = .ok (.iload_n 1, 1) := by decide +kernel
theorem dX12_comesTo_29 : decode cX12_comesTo 29 = .ok (.iload_n 3, 1) := by decide +kernel
theorem dX12_comesTo_30 : decode cX12_comesTo 30 = .ok (.iastore, 1) := by decide +kernel
theorem dX12_comesTo_31 : decode cX12_comesTo 31 = .ok (.goto 20, 3) := by decide +kernel
theorem dX12_comesTo_34 : decode cX12_comesTo 34 = .ok (.aload_n 0, 1) := by decide +kernel
theorem dX12_comesTo_35 : decode cX12_comesTo 35 = .ok (.getfield 120, 3) := by decide +kernel
theorem dX12_comesTo_38 : decode cX12_comesTo 38 = .ok (.iload_n 1, 1) := by decide +kernel
theorem dX12_comesTo_39 : decode cX12_comesTo 39 = .ok (.aload_n 0, 1) := by decide +kernel
theorem dX12_comesTo_40 : decode cX12_comesTo 40 = .ok (.iload_n 2, 1) := by decide +kernel
theorem dX12_comesTo_41 : decode cX12_comesTo 41 = .ok (.aload_n 0, 1) := by decide +kernel
theorem dX12_comesTo_42 : decode cX12_comesTo 42 = .ok (.getfield 84, 3) := by decide +kernel
theorem dX12_comesTo_45 : decode cX12_comesTo 45 = .ok (.iload_n 1, 1) := by decide +kernel
theorem dX12_comesTo_46 : decode cX12_comesTo 46 = .ok (.iaload, 1) := by decide +kernel
theorem dX12_comesTo_47 : decode cX12_comesTo 47 = .ok (.invokevirtual 352, 3) := by decide +kernel
theorem dX12_comesTo_50 : decode cX12_comesTo 50 = .ok (.iastore, 1) := by decide +kernel
theorem dX12_comesTo_51 : decode cX12_comesTo 51 = .ok (.return_, 1) := by decide +kernel
theorem dX12_runs_0 : decode cX12_runs 0 = .ok (.aload_n 0, 1) := by decide +kernel
theorem dX12_runs_1 : decode cX12_runs 1 = .ok (.iconst 0, 1) := by decide +kernel
theorem dX12_runs_2 : decode cX12_runs 2 = .ok (.putfield 362, 3) := by decide +kernel
theorem dX12_runs_5 : decode cX12_runs 5 = .ok (.iconst 0, 1) := by decide +kernel
theorem dX12_runs_6 : decode cX12_runs 6 = .ok (.istore_n 3, 1) := by decide +kernel
theorem dX12_runs_7 : decode cX12_runs 7 = .ok (.iload_n 3, 1) := by decide +kernel
theorem dX12_runs_8 : decode cX12_runs 8 = .ok (.aload_n 0, 1) := by decide +kernel
theorem dX12_runs_9 : decode cX12_runs 9 = .ok (.getfield 359, 3) := by decide +kernel
theorem dX12_runs_12 : decode cX12_runs 12 = .ok (.if_icmp .ge 30, 3) := by decide +kernel
theorem dX12_runs_15 : decode cX12_runs 15 = .ok (.aload_n 0, 1) := by decide +kernel
theorem dX12_runs_16 : decode cX12_runs 16 = .ok (.getfield 99, 3) := by decide +kernel
theorem dX12_runs_19 : decode cX12_runs 19 = .ok (.iload_n 3, 1) := by decide +kernel
theorem dX12_runs_20 : decode cX12_runs 20 = .ok (.iconst (-1), 1) := by decide +kernel
theorem dX12_runs_21 : decode cX12_runs 21 = .ok (.iastore, 1) := by decide +kernel
theorem dX12_runs_22 : decode cX12_runs 22 = .ok (.aload_n 0, 1) := by decide +kernel
theorem dX12_runs_23 : decode cX12_runs 23 = .ok (.getfield 108, 3) := by decide +kernel
theorem dX12_runs_26 : decode cX12_runs 26 = .ok (.iload_n 3, 1) := by decide +kernel
theorem dX12_runs_27 : decode cX12_runs 27 = .ok (.iconst (-1), 1) := by decide +kernel
theorem dX12_runs_28 : decode cX12_runs 28 = .ok (.iastore, 1) := by decide +kernel
theorem dX12_runs_29 : decode cX12_runs 29 = .ok (.aload_n 0, 1) := by decide +kernel
theorem dX12_runs_30 : decode cX12_runs 30 = .ok (.getfield 111, 3) := by decide +kernel
theorem dX12_runs_33 : decode cX12_runs 33 = .ok (.iload_n 3, 1) := by decide +kernel
theorem dX12_runs_34 : decode cX12_runs 34 = .ok (.iconst 0, 1) := by decide +kernel
theorem dX12_runs_35 : decode cX12_runs 35 = .ok (.iastore, 1) := by decide +kernel
theorem dX12_runs_36 : decode cX12_runs 36 = .ok (.iinc 3 1, 3) := by decide +kernel
theorem dX12_runs_39 : decode cX12_runs 39 = .ok (.goto (-32), 3) := by decide +kernel
theorem dX12_runs_42 : decode cX12_runs 42 = .ok (.iconst 0, 1) := by decide +kernel
theorem dX12_runs_43 : decode cX12_runs 43 = .ok (.istore_n 3, 1) := by decide +kernel
theorem dX12_runs_44 : decode cX12_runs 44 = .ok (.iload_n 3, 1) := by decide +kernel
theorem dX12_runs_45 : decode cX12_runs 45 = .ok (.aload_n 0, 1) := by decide +kernel
theorem dX12_runs_46 : decode cX12_runs 46 = .ok (.getfield 243, 3) := by decide +kernel
theorem dX12_runs_49 : decode cX12_runs 49 = .ok (.if_icmp .ge 16, 3) := by decide +kernel
theorem dX12_runs_52 : decode cX12_runs 52 = .ok (.aload_n 0, 1) := by decide +kernel
theorem dX12_runs_53 : decode cX12_runs 53 = .ok (.getfield 114, 3) := by decide +kernel
theorem dX12_runs_56 : decode cX12_runs 56 = .ok (.iload_n 3, 1) := by decide +kernel
theorem dX12_runs_57 : decode cX12_runs 57 = .ok (.iconst (-1), 1) := by decide +kernel
theorem dX12_runs_58 : decode cX12_runs 58 = .ok (.iastore, 1) := by decide +kernel
theorem dX12_runs_59 : decode cX12_runs 59 = .ok (.iinc 3 1, 3) := by decide +kernel
theorem dX12_runs_62 : decode cX12_runs 62 = .ok (.goto (-18), 3) := by decide +kernel
theorem dX12_runs_65 : decode cX12_runs 65 = .ok (.iconst 0, 1) := by decide +kernel
theorem dX12_runs_66 : decode cX12_runs 66 = .ok (.istore_n 3, 1) := by decide +kernel
theorem dX12_runs_67 : decode cX12_runs 67 = .ok (.iload_n 3, 1) := by decide +kernel
theorem dX12_runs_68 : decode cX12_runs 68 = .ok (.iload_n 1, 1) := by decide +kernel
theorem dX12_runs_69 : decode cX12_runs 69 = .ok (.if_icmp .gt 255, 3) := by decide +kernel
theorem dX12_runs_72 : decode cX12_runs 72 = .ok (.iconst 0, 1) := by decide +kernel
theorem dX12_runs_73 : decode cX12_runs 73 = .ok (.istore 4, 2) := by decide +kernel
theorem dX12_runs_75 : decode cX12_runs 75 = .ok (.iload 4, 2) := by decide +kernel
theorem dX12_runs_77 : decode cX12_runs 77 = .ok (.aload_n 0, 1) := by decide +kernel
theorem dX12_runs_78 : decode cX12_runs 78 = .ok (.getfield 243, 3) := by decide +kernel
theorem dX12_runs_81 : decode cX12_runs 81 = .ok (.if_icmp .ge 60, 3) := by decide +kernel
theorem dX12_runs_84 : decode cX12_runs 84 = .ok (.aload_n 0, 1) := by decide +kernel
theorem dX12_runs_85 : decode cX12_runs 85 = .ok (.getfield 114, 3) := by decide +kernel
theorem dX12_runs_88 : decode cX12_runs 88 = .ok (.iload 4, 2) := by decide +kernel
theorem dX12_runs_90 : decode cX12_runs 90 = .ok (.iaload, 1) := by decide +kernel
theorem dX12_runs_91 : decode cX12_runs 91 = .ok (.istore 5, 2) := by decide +kernel
theorem dX12_runs_93 : decode cX12_runs 93 = .ok (.iload 5, 2) := by decide +kernel
theorem dX12_runs_95 : decode cX12_runs 95 = .ok (.iconst (-1), 1) := by decide +kernel
theorem dX12_runs_96 : decode cX12_runs 96 = .ok (.if_icmp .eq 39, 3) := by decide +kernel
theorem dX12_runs_99 : decode cX12_runs 99 = .ok (.aload_n 0, 1) := by decide +kernel
theorem dX12_runs_100 : decode cX12_runs 100 = .ok (.getfield 105, 3) := by decide +kernel
theorem dX12_runs_103 : decode cX12_runs 103 = .ok (.iload 5, 2) := by decide +kernel
theorem dX12_runs_105 : decode cX12_runs 105 = .ok (.iaload, 1) := by decide +kernel
theorem dX12_runs_106 : decode cX12_runs 106 = .ok (.iload_n 3, 1) := by decide +kernel
theorem dX12_runs_107 : decode cX12_runs 107 = .ok (.if_icmp .eq 6, 3) := by decide +kernel
theorem dX12_runs_110 : decode cX12_runs 110 = .ok (.goto 25, 3) := by decide +kernel
theorem dX12_runs_113 : decode cX12_runs 113 = .ok (.aload_n 0, 1) := by decide +kernel
theorem dX12_runs_114 : decode cX12_runs 114 = .ok (.getfield 114, 3) := by decide +kernel
theorem dX12_runs_117 : decode cX12_runs 117 = .ok (.iload 4, 2) := by decide +kernel
theorem dX12_runs_119 : decode cX12_runs 119 = .ok (.iconst (-1), 1) := by decide +kernel
theorem dX12_runs_120 : decode cX12_runs 120 = .ok (.iastore, 1) := by decide +kernel
theorem dX12_runs_121 : decode cX12_runs 121 = .ok (.aload_n 0, 1) := by decide +kernel
theorem dX12_runs_122 : decode cX12_runs 122 = .ok (.iload 5, 2) := by decide +kernel
theorem dX12_runs_124 : decode cX12_runs 124 = .ok (.aload_n 0, 1) := by decide +kernel
theorem dX12_runs_125 : decode cX12_runs 125 = .ok (.getfield 54, 3) := by decide +kernel
theorem dX12_runs_128 : decode cX12_runs 128 = .ok (.iload 4, 2) := by decide +kernel
theorem dX12_runs_130 : decode cX12_runs 130 = .ok (.iaload, 1) := by decide +kernel
theorem dX12_runs_131 : decode cX12_runs 131 = .ok (.iload_n 3, 1) := by decide +kernel
theorem dX12_runs_132 : decode cX12_runs 132 = .ok (.invokevirtual 365, 3) := by decide +kernel
theorem dX12_runs_135 : decode cX12_runs 135 = .ok (.iinc 4 1, 3) := by decide +kernel
theorem dX12_runs_138 : decode cX12_runs 138 = .ok (.goto (-63), 3) := by decide +kernel
theorem dX12_runs_141 : decode cX12_runs 141 = .ok (.iconst 0, 1) := by decide +kernel
theorem dX12_runs_142 : decode cX12_runs 142 = .ok (.istore 4, 2) := by decide +kernel
theorem dX12_runs_144 : decode cX12_runs 144 = .ok (.iload 4, 2) := by decide +kernel
theorem dX12_runs_146 : decode cX12_runs 146 = .ok (.aload_n 0, 1) := by decide +kernel
theorem dX12_runs_147 : decode cX12_runs 147 = .ok (.getfield 359, 3) := by decide +kernel
theorem dX12_runs_150 : decode cX12_runs 150 = .ok (.if_icmp .ge 34, 3) := by decide +kernel
theorem dX12_runs_153 : decode cX12_runs 153 = .ok (.aload_n 0, 1) := by decide +kernel
theorem dX12_runs_154 : decode cX12_runs 154 = .ok (.getfield 87, 3) := by decide +kernel
theorem dX12_runs_157 : decode cX12_runs 157 = .ok (.iload 4, 2) := by decide +kernel
theorem dX12_runs_159 : decode cX12_runs 159 = .ok (.iaload, 1) := by decide +kernel
theorem dX12_runs_160 : decode cX12_runs 160 = .ok (.iload_n 3, 1) := by decide +kernel
theorem dX12_runs_161 : decode cX12_runs 161 = .ok (.if_icmp .ne 17, 3) := by decide +kernel
theorem dX12_runs_164 : decode cX12_runs 164 = .ok (.aload_n 0, 1) := by decide +kernel
theorem dX12_runs_165 : decode cX12_runs 165 = .ok (.iload 4, 2) := by decide +kernel
theorem dX12_runs_167 : decode cX12_runs 167 = .ok (.aload_n 0, 1) := by decide +kernel
theorem dX12_runs_168 : decode cX12_runs 168 = .ok (.getfield 81, 3) := by decide +kernel
theorem dX12_runs_171 : decode cX12_runs 171 = .ok (.iload 4, 2) := by decide +kernel
theorem dX12_runs_173 : decode cX12_runs 173 = .ok (.iaload, 1) := by decide +kernel
theorem dX12_runs_174 : decode cX12_runs 174 = .ok (.iload_n 3, 1) := by decide +kernel
theorem dX12_runs_175 : decode cX12_runs 175 = .ok (.invokevirtual 365, 3) := by decide +kernel
theorem dX12_runs_178 : decode cX12_runs 178 = .ok (.iinc 4 1, 3) := by decide +kernel
theorem dX12_runs_181 : decode cX12_runs 181 = .ok (.goto (-37), 3) := by decide +kernel
theorem dX12_runs_184 : decode cX12_runs 184 = .ok (.iconst 0, 1) := by decide +kernel
theorem dX12_runs_185 : decode cX12_runs 185 = .ok (.istore 4, 2) := by decide +kernel
theorem dX12_runs_187 : decode cX12_runs 187 = .ok (.iload 4, 2) := by decide +kernel
theorem dX12_runs_189 : decode cX12_runs 189 = .ok (.aload_n 0, 1) := by decide +kernel
theorem dX12_runs_190 : decode cX12_runs 190 = .ok (.getfield 243, 3) := by decide +kernel
theorem dX12_runs_193 : decode cX12_runs 193 = .ok (.if_icmp .ge 125, 3) := by decide +kernel
theorem dX12_runs_196 : decode cX12_runs 196 = .ok (.aload_n 0, 1) := by decide +kernel
theorem dX12_runs_197 : decode cX12_runs 197 = .ok (.getfield 114, 3) := by decide +kernel
theorem dX12_runs_200 : decode cX12_runs 200 = .ok (.iload 4, 2) := by decide +kernel
theorem dX12_runs_202 : decode cX12_runs 202 = .ok (.iaload, 1) := by decide +kernel
theorem dX12_runs_203 : decode cX12_runs 203 = .ok (.iconst (-1), 1) := by decide +kernel
theorem dX12_runs_204 : decode cX12_runs 204 = .ok (.if_icmp .eq 6, 3) := by decide +kernel
theorem dX12_runs_207 : decode cX12_runs 207 = .ok (.goto 105, 3) := by decide +kernel
theorem dX12_runs_210 : decode cX12_runs 210 = .ok (.aload_n 0, 1) := by decide +kernel
theorem dX12_runs_211 : decode cX12_runs 211 = .ok (.iload 4, 2) := by decide +kernel
theorem dX12_runs_213 : decode cX12_runs 213 = .ok (.iload_n 3, 1) := by decide +kernel
theorem dX12_runs_214 : decode cX12_runs 214 = .ok (.invokevirtual 369, 3) := by decide +kernel
theorem dX12_runs_217 : decode cX12_runs 217 = .ok (.istore 5, 2) := by decide +kernel
theorem dX12_runs_219 : decode cX12_runs 219 = .ok (.iload 5, 2) := by decide +kernel
theorem dX12_runs_221 : decode cX12_runs 221 = .ok (.iconst (-1), 1) := by decide +kernel
theorem dX12_runs_222 : decode cX12_runs 222 = .ok (.if_icmp .ne 6, 3) := by decide +kernel
theorem dX12_runs_225 : decode cX12_runs 225 = .ok (.goto 87, 3) := by decide +kernel
theorem dX12_runs_228 : decode cX12_runs 228 = .ok (.aload_n 0, 1) := by decide +kernel
theorem dX12_runs_229 : decode cX12_runs 229 = .ok (.getfield 114, 3) := by decide +kernel
theorem dX12_runs_232 : decode cX12_runs 232 = .ok (.iload 4, 2) := by decide +kernel
theorem dX12_runs_234 : decode cX12_runs 234 = .ok (.iload 5, 2) := by decide +kernel
theorem dX12_runs_236 : decode cX12_runs 236 = .ok (.iastore, 1) := by decide +kernel
theorem dX12_runs_237 : decode cX12_runs 237 = .ok (.aload_n 0, 1) := by decide +kernel
theorem dX12_runs_238 : decode cX12_runs 238 = .ok (.getfield 99, 3) := by decide +kernel
theorem dX12_runs_241 : decode cX12_runs 241 = .ok (.iload 5, 2) := by decide +kernel
theorem dX12_runs_243 : decode cX12_runs 243 = .ok (.bipush 10, 2) := by decide +kernel
theorem dX12_runs_245 : decode cX12_runs 245 = .ok (.iload 4, 2) := by decide +kernel
theorem dX12_runs_247 : decode cX12_runs 247 = .ok (.iadd, 1) := by decide +kernel
theorem dX12_runs_248 : decode cX12_runs 248 = .ok (.iastore, 1) := by decide +kernel
theorem dX12_runs_249 : decode cX12_runs 249 = .ok (.aload_n 0, 1) := by decide +kernel
theorem dX12_runs_250 : decode cX12_runs 250 = .ok (.getfield 105, 3) := by decide +kernel
theorem dX12_runs_253 : decode cX12_runs 253 = .ok (.iload 5, 2) := by decide +kernel
theorem dX12_runs_255 : decode cX12_runs 255 = .ok (.iload_n 3, 1) := by decide +kernel
theorem dX12_runs_256 : decode cX12_runs 256 = .ok (.aload_n 0, 1) := by decide +kernel
theorem dX12_runs_257 : decode cX12_runs 257 = .ok (.getfield 90, 3) := by decide +kernel
theorem dX12_runs_260 : decode cX12_runs 260 = .ok (.iload 5, 2) := by decide +kernel
theorem dX12_runs_262 : decode cX12_runs 262 = .ok (.iaload, 1) := by decide +kernel
theorem dX12_runs_263 : decode cX12_runs 263 = .ok (.iadd, 1) := by decide +kernel
theorem dX12_runs_264 : decode cX12_runs 264 = .ok (.iastore, 1) := by decide +kernel
theorem dX12_runs_265 : decode cX12_runs 265 = .ok (.aload_n 0, 1) := by decide +kernel
theorem dX12_runs_266 : decode cX12_runs 266 = .ok (.getfield 111, 3) := by decide +kernel
theorem dX12_runs_269 : decode cX12_runs 269 = .ok (.iload 5, 2) := by decide +kernel
theorem dX12_runs_271 : decode cX12_runs 271 = .ok (.dup2, 1) := by decide +kernel
theorem dX12_runs_272 : decode cX12_runs 272 = .ok (.iaload, 1) := by decide +kernel
theorem dX12_runs_273 : decode cX12_runs 273 = .ok (.aload_n 0, 1) := by decide +kernel
theorem dX12_runs_274 : decode cX12_runs 274 = .ok (.getfield 90, 3) := by decide +kernel
theorem dX12_runs_277 : decode cX12_runs 277 = .ok (.iload 5, 2) := by decide +kernel
theorem dX12_runs_279 : decode cX12_runs 279 = .ok (.iaload, 1) := by decide +kernel
theorem dX12_runs_280 : decode cX12_runs 280 = .ok (.iadd, 1) := by decide +kernel
theorem dX12_runs_281 : decode cX12_runs 281 = .ok (.iastore, 1) := by decide +kernel
theorem dX12_runs_282 : decode cX12_runs 282 = .ok (.iload 4, 2) := by decide +kernel
theorem dX12_runs_284 : decode cX12_runs 284 = .ok (.iload_n 2, 1) := by decide +kernel
theorem dX12_runs_285 : decode cX12_runs 285 = .ok (.if_icmp .eq 6, 3) := by decide +kernel
theorem dX12_runs_288 : decode cX12_runs 288 = .ok (.goto 24, 3) := by decide +kernel
theorem dX12_runs_291 : decode cX12_runs 291 = .ok (.aload_n 0, 1) := by decide +kernel
theorem dX12_runs_292 : decode cX12_runs 292 = .ok (.getfield 117, 3) := by decide +kernel
theorem dX12_runs_295 : decode cX12_runs 295 = .ok (.aload_n 0, 1) := by decide +kernel
theorem dX12_runs_296 : decode cX12_runs 296 = .ok (.getfield 362, 3) := by decide +kernel
theorem dX12_runs_299 : decode cX12_runs 299 = .ok (.iload 5, 2) := by decide +kernel
theorem dX12_runs_301 : decode cX12_runs 301 = .ok (.iastore, 1) := by decide +kernel
theorem dX12_runs_302 : decode cX12_runs 302 = .ok (.aload_n 0, 1) := by decide +kernel
theorem dX12_runs_303 : decode cX12_runs 303 = .ok (.dup, 1) := by decide +kernel
theorem dX12_runs_304 : decode cX12_runs 304 = .ok (.getfield 362, 3) := by decide +kernel
theorem dX12_runs_307 : decode cX12_runs 307 = .ok (.iconst 1, 1) := by decide +kernel
theorem dX12_runs_308 : decode cX12_runs 308 = .ok (.iadd, 1) := by decide +kernel
theorem dX12_runs_309 : decode cX12_runs 309 = .ok (.putfield 362, 3) := by decide +kernel
theorem dX12_runs_312 : decode cX12_runs 312 = .ok (.iinc 4 1, 3) := by decide +kernel
theorem dX12_runs_315 : decode cX12_runs 315 = .ok (.goto (-128), 3) := by decide +kernel
theorem dX12_runs_318 : decode cX12_runs 318 = .ok (.iinc 3 1, 3) := by decide +kernel
theorem dX12_runs_321 : decode cX12_runs 321 = .ok (.goto (-254), 3) := by decide +kernel
theorem dX12_runs_324 : decode cX12_runs 324 = .ok (.return_, 1) := by decide +kernel
theorem dX12_sent_0 : decode cX12_sent 0 = .ok (.iload_n 1, 1) := by decide +kernel
theorem dX12_sent_1 : decode cX12_sent 1 = .ok (.i2l, 1) := by decide +kernel
theorem dX12_sent_2 : decode cX12_sent 2 = .ok (.lconst 0, 1) := by decide +kernel
theorem dX12_sent_3 : decode cX12_sent 3 = .ok (.aload_n 0, 1) := by decide +kernel
theorem dX12_sent_4 : decode cX12_sent 4 = .ok (.getfield 359, 3) := by decide +kernel
theorem dX12_sent_7 : decode cX12_sent 7 = .ok (.iconst 1, 1) := by decide +kernel
theorem dX12_sent_8 : decode cX12_sent 8 = .ok (.isub, 1) := by decide +kernel
theorem dX12_sent_9 : decode cX12_sent 9 = .ok (.i2l, 1) := by decide +kernel
theorem dX12_sent_10 : decode cX12_sent 10 = .ok (.invokestatic 155, 3) := by decide +kernel
theorem dX12_sent_13 : decode cX12_sent 13 = .ok (.ifCond .eq 32, 3) := by decide +kernel
theorem dX12_sent_16 : decode cX12_sent 16 = .ok (.iload_n 2, 1) := by decide +kernel
theorem dX12_sent_17 : decode cX12_sent 17 = .ok (.i2l, 1) := by decide +kernel
theorem dX12_sent_18 : decode cX12_sent 18 = .ok (.lconst 0, 1) := by decide +kernel
theorem dX12_sent_19 : decode cX12_sent 19 = .ok (.ldc2_w 372, 3) := by decide +kernel
theorem dX12_sent_22 : decode cX12_sent 22 = .ok (.invokestatic 155, 3) := by decide +kernel
theorem dX12_sent_25 : decode cX12_sent 25 = .ok (.ifCond .eq 20, 3) := by decide +kernel
theorem dX12_sent_28 : decode cX12_sent 28 = .ok (.iload_n 2, 1) := by decide +kernel
theorem dX12_sent_29 : decode cX12_sent 29 = .ok (.iconst 2, 1) := by decide +kernel
theorem dX12_sent_30 : decode cX12_sent 30 = .ok (.if_icmp .ne 17, 3) := by decide +kernel
theorem dX12_sent_33 : decode cX12_sent 33 = .ok (.iload_n 3, 1) := by decide +kernel
theorem dX12_sent_34 : decode cX12_sent 34 = .ok (.i2l, 1) := by decide +kernel
theorem dX12_sent_35 : decode cX12_sent 35 = .ok (.lconst 0, 1) := by decide +kernel
theorem dX12_sent_36 : decode cX12_sent 36 = .ok (.ldc2_w 374, 3) := by decide +kernel
theorem dX12_sent_39 : decode cX12_sent 39 = .ok (.invokestatic 155, 3) := by decide +kernel
theorem dX12_sent_42 : decode cX12_sent 42 = .ok (.ifCond .ne 5, 3) := by decide +kernel
theorem dX12_sent_45 : decode cX12_sent 45 = .ok (.iconst (-1), 1) := by decide +kernel
theorem dX12_sent_46 : decode cX12_sent 46 = .ok (.ireturn, 1) := by decide +kernel
theorem dX12_sent_47 : decode cX12_sent 47 = .ok (.aload_n 0, 1) := by decide +kernel
theorem dX12_sent_48 : decode cX12_sent 48 = .ok (.iload_n 2, 1) := by decide +kernel
theorem dX12_sent_49 : decode cX12_sent 49 = .ok (.iconst 2, 1) := by decide +kernel
theorem dX12_sent_50 : decode cX12_sent 50 = .ok (.if_icmp .ne 7, 3) := by decide +kernel
theorem dX12_sent_53 : decode cX12_sent 53 = .ok (.iload_n 3, 1) := by decide +kernel
theorem dX12_sent_54 : decode cX12_sent 54 = .ok (.goto 6, 3) := by decide +kernel
theorem dX12_sent_57 : decode cX12_sent 57 = .ok (.sipush 8000, 3) := by decide +kernel
theorem dX12_sent_60 : decode cX12_sent 60 = .ok (.iconst (-1), 1) := by decide +kernel
theorem dX12_sent_61 : decode cX12_sent 61 = .ok (.invokevirtual 376, 3) := by decide +kernel
theorem dX12_sent_64 : decode cX12_sent 64 = .ok (.iload_n 2, 1) := by decide +kernel
theorem dX12_sent_65 : decode cX12_sent 65 = .ok (.iconst 2, 1) := by decide +kernel
theorem dX12_sent_66 : decode cX12_sent 66 = .ok (.if_icmp .ne 12, 3) := by decide +kernel
theorem dX12_sent_69 : decode cX12_sent 69 = .ok (.aload_n 0, 1) := by decide +kernel
theorem dX12_sent_70 : decode cX12_sent 70 = .ok (.getfield 99, 3) := by decide +kernel
theorem dX12_sent_73 : decode cX12_sent 73 = .ok (.iload_n 1, 1) := by decide +kernel
theorem dX12_sent_74 : decode cX12_sent 74 = .ok (.iaload, 1) := by decide +kernel
theorem dX12_sent_75 : decode cX12_sent 75 = .ok (.goto 36, 3) := by decide +kernel
theorem dX12_sent_78 : decode cX12_sent 78 = .ok (.iload_n 2, 1) := by decide +kernel
theorem dX12_sent_79 : decode cX12_sent 79 = .ok (.ifCond .ne 12, 3) := by decide +kernel
theorem dX12_sent_82 : decode cX12_sent 82 = .ok (.aload_n 0, 1) := by decide +kernel
theorem dX12_sent_83 : decode cX12_sent 83 = .ok (.getfield 108, 3) := by decide +kernel
theorem dX12_sent_86 : decode cX12_sent 86 = .ok (.iload_n 1, 1) := by decide +kernel
theorem dX12_sent_87 : decode cX12_sent 87 = .ok (.iaload, 1) := by decide +kernel
theorem dX12_sent_88 : decode cX12_sent 88 = .ok (.goto 23, 3) := by decide +kernel
theorem dX12_sent_91 : decode cX12_sent 91 = .ok (.aload_n 0, 1) := by decide +kernel
theorem dX12_sent_92 : decode cX12_sent 92 = .ok (.getfield 108, 3) := by decide +kernel
theorem dX12_sent_95 : decode cX12_sent 95 = .ok (.iload_n 1, 1) := by decide +kernel
theorem dX12_sent_96 : decode cX12_sent 96 = .ok (.iaload, 1) := by decide +kernel
theorem dX12_sent_97 : decode cX12_sent 97 = .ok (.aload_n 0, 1) := by decide +kernel
theorem dX12_sent_98 : decode cX12_sent 98 = .ok (.getfield 87, 3) := by decide +kernel
theorem dX12_sent_101 : decode cX12_sent 101 = .ok (.iload_n 1, 1) := by decide +kernel
theorem dX12_sent_102 : decode cX12_sent 102 = .ok (.iaload, 1) := by decide +kernel
theorem dX12_sent_103 : decode cX12_sent 103 = .ok (.isub, 1) := by decide +kernel
theorem dX12_sent_104 : decode cX12_sent 104 = .ok (.aload_n 0, 1) := by decide +kernel
theorem dX12_sent_105 : decode cX12_sent 105 = .ok (.getfield 111, 3) := by decide +kernel
theorem dX12_sent_108 : decode cX12_sent 108 = .ok (.iload_n 1, 1) := by decide +kernel
theorem dX12_sent_109 : decode cX12_sent 109 = .ok (.iaload, 1) := by decide +kernel
theorem dX12_sent_110 : decode cX12_sent 110 = .ok (.isub, 1) := by decide +kernel
theorem dX12_sent_111 : decode cX12_sent 111 = .ok (.ireturn, 1) := by decide +kernel
theorem dX12_tap_0 : decode cX12_tap 0 = .ok (.aload_n 0, 1) := by decide +kernel
theorem dX12_tap_1 : decode cX12_tap 1 = .ok (.iload_n 1, 1) := by decide +kernel
theorem dX12_tap_2 : decode cX12_tap 2 = .ok (.invokevirtual 251, 3) := by decide +kernel
theorem dX12_tap_5 : decode cX12_tap 5 = .ok (.ifCond .ne 5, 3) := by decide +kernel
theorem dX12_tap_8 : decode cX12_tap 8 = .ok (.iconst (-1), 1) := by decide +kernel
theorem dX12_tap_9 : decode cX12_tap 9 = .ok (.ireturn, 1) := by decide +kernel
theorem dX12_tap_10 : decode cX12_tap 10 = .ok (.aload_n 0, 1) := by decide +kernel
theorem dX12_tap_11 : decode cX12_tap 11 = .ok (.sipush 8000, 3) := by decide +kernel
theorem dX12_tap_14 : decode cX12_tap 14 = .ok (.iload_n 1, 1) := by decide +kernel
theorem dX12_tap_15 : decode cX12_tap 15 = .ok (.invokevirtual 376, 3) := by decide +kernel
theorem dX12_tap_18 : decode cX12_tap 18 = .ok (.iload_n 2, 1) := by decide +kernel
theorem dX12_tap_19 : decode cX12_tap 19 = .ok (.iconst (-1), 1) := by decide +kernel
theorem dX12_tap_20 : decode cX12_tap 20 = .ok (.if_icmp .ne 10, 3) := by decide +kernel
theorem dX12_tap_23 : decode cX12_tap 23 = .ok (.aload_n 0, 1) := by decide +kernel
theorem dX12_tap_24 : decode cX12_tap 24 = .ok (.getfield 362, 3) := by decide +kernel
theorem dX12_tap_27 : decode cX12_tap 27 = .ok (.goto 29, 3) := by decide +kernel
theorem dX12_tap_30 : decode cX12_tap 30 = .ok (.iload_n 2, 1) := by decide +kernel
theorem dX12_tap_31 : decode cX12_tap 31 = .ok (.i2l, 1) := by decide +kernel
theorem dX12_tap_32 : decode cX12_tap 32 = .ok (.lconst 0, 1) := by decide +kernel
theorem dX12_tap_33 : decode cX12_tap 33 = .ok (.aload_n 0, 1) := by decide +kernel
theorem dX12_tap_34 : decode cX12_tap 34 = .ok (.getfield 362, 3) := by decide +kernel
theorem dX12_tap_37 : decode cX12_tap 37 = .ok (.iconst 1, 1) := by decide +kernel
theorem dX12_tap_38 : decode cX12_tap 38 = .ok (.isub, 1) := by decide +kernel
theorem dX12_tap_39 : decode cX12_tap 39 = .ok (.i2l, 1) := by decide +kernel
theorem dX12_tap_40 : decode cX12_tap 40 = .ok (.invokestatic 155, 3) := by decide +kernel
theorem dX12_tap_43 : decode cX12_tap 43 = .ok (.ifCond .eq 12, 3) := by decide +kernel
theorem dX12_tap_46 : decode cX12_tap 46 = .ok (.aload_n 0, 1) := by decide +kernel
theorem dX12_tap_47 : decode cX12_tap 47 = .ok (.getfield 117, 3) := by decide +kernel
theorem dX12_tap_50 : decode cX12_tap 50 = .ok (.iload_n 2, 1) := by decide +kernel
theorem dX12_tap_51 : decode cX12_tap 51 = .ok (.iaload, 1) := by decide +kernel
theorem dX12_tap_52 : decode cX12_tap 52 = .ok (.goto 4, 3) := by decide +kernel
theorem dX12_tap_55 : decode cX12_tap 55 = .ok (.iconst (-1), 1) := by decide +kernel
theorem dX12_tap_56 : decode cX12_tap 56 = .ok (.ireturn, 1) := by decide +kernel
theorem dX12_clock_0 : decode cX12_clock 0 = .ok (.iload_n 1, 1) := by decide +kernel
theorem dX12_clock_1 : decode cX12_clock 1 = .ok (.invokestatic 236, 3) := by decide +kernel
theorem dX12_clock_4 : decode cX12_clock 4 = .ok (.ifCond .eq 30, 3) := by decide +kernel
theorem dX12_clock_7 : decode cX12_clock 7 = .ok (.iload_n 2, 1) := by decide +kernel
theorem dX12_clock_8 : decode cX12_clock 8 = .ok (.i2l, 1) := by decide +kernel
theorem dX12_clock_9 : decode cX12_clock 9 = .ok (.ldc2_w 379, 3) := by decide +kernel
theorem dX12_clock_12 : decode cX12_clock 12 = .ok (.ldc2_w 357, 3) := by decide +kernel
theorem dX12_clock_15 : decode cX12_clock 15 = .ok (.invokestatic 155, 3) := by decide +kernel
theorem dX12_clock_18 : decode cX12_clock 18 = .ok (.ifCond .eq 16, 3) := by decide +kernel
theorem dX12_clock_21 : decode cX12_clock 21 = .ok (.iload_n 3, 1) := by decide +kernel
theorem dX12_clock_22 : decode cX12_clock 22 = .ok (.i2l, 1) := by decide +kernel
theorem dX12_clock_23 : decode cX12_clock 23 = .ok (.iload_n 2, 1) := by decide +kernel
theorem dX12_clock_24 : decode cX12_clock 24 = .ok (.i2l, 1) := by decide +kernel
theorem dX12_clock_25 : decode cX12_clock 25 = .ok (.ldc2_w 357, 3) := by decide +kernel
theorem dX12_clock_28 : decode cX12_clock 28 = .ok (.invokestatic 155, 3) := by decide +kernel
theorem dX12_clock_31 : decode cX12_clock 31 = .ok (.ifCond .ne 5, 3) := by decide +kernel
theorem dX12_clock_34 : decode cX12_clock 34 = .ok (.iconst 0, 1) := by decide +kernel
theorem dX12_clock_35 : decode cX12_clock 35 = .ok (.ireturn, 1) := by decide +kernel
theorem dX12_clock_36 : decode cX12_clock 36 = .ok (.aload_n 0, 1) := by decide +kernel
theorem dX12_clock_37 : decode cX12_clock 37 = .ok (.getfield 123, 3) := by decide +kernel
theorem dX12_clock_40 : decode cX12_clock 40 = .ok (.iload_n 1, 1) := by decide +kernel
theorem dX12_clock_41 : decode cX12_clock 41 = .ok (.iload_n 2, 1) := by decide +kernel
theorem dX12_clock_42 : decode cX12_clock 42 = .ok (.iastore, 1) := by decide +kernel
theorem dX12_clock_43 : decode cX12_clock 43 = .ok (.aload_n 0, 1) := by decide +kernel
theorem dX12_clock_44 : decode cX12_clock 44 = .ok (.getfield 126, 3) := by decide +kernel
theorem dX12_clock_47 : decode cX12_clock 47 = .ok (.iload_n 1, 1) := by decide +kernel
theorem dX12_clock_48 : decode cX12_clock 48 = .ok (.iload_n 3, 1) := by decide +kernel
theorem dX12_clock_49 : decode cX12_clock 49 = .ok (.iastore, 1) := by decide +kernel
theorem dX12_clock_50 : decode cX12_clock 50 = .ok (.iconst 1, 1) := by decide +kernel
theorem dX12_clock_51 : decode cX12_clock 51 = .ok (.ireturn, 1) := by decide +kernel
theorem dX12_event_0 : decode cX12_event 0 = .ok (.iload_n 1, 1) := by decide +kernel
theorem dX12_event_1 : decode cX12_event 1 = .ok (.invokestatic 236, 3) := by decide +kernel
theorem dX12_event_4 : decode cX12_event 4 = .ok (.ifCond .eq 24, 3) := by decide +kernel
theorem dX12_event_7 : decode cX12_event 7 = .ok (.iload_n 2, 1) := by decide +kernel
theorem dX12_event_8 : decode cX12_event 8 = .ok (.i2l, 1) := by decide +kernel
theorem dX12_event_9 : decode cX12_event 9 = .ok (.lconst 0, 1) := by decide +kernel
theorem dX12_event_10 : decode cX12_event 10 = .ok (.ldc2_w 258, 3) := by decide +kernel
theorem dX12_event_13 : decode cX12_event 13 = .ok (.invokestatic 155, 3) := by decide +kernel
theorem dX12_event_16 : decode cX12_event 16 = .ok (.ifCond .eq 12, 3) := by decide +kernel
theorem dX12_event_19 : decode cX12_event 19 = .ok (.aload_n 0, 1) := by decide +kernel
theorem dX12_event_20 : decode cX12_event 20 = .ok (.getfield 381, 3) := by decide +kernel
theorem dX12_event_23 : decode cX12_event 23 = .ok (.bipush 12, 2) := by decide +kernel
theorem dX12_event_25 : decode cX12_event 25 = .ok (.if_icmp .ne 5, 3) := by decide +kernel
theorem dX12_event_28 : decode cX12_event 28 = .ok (.iconst (-1), 1) := by decide +kernel
theorem dX12_event_29 : decode cX12_event 29 = .ok (.ireturn, 1) := by decide +kernel
theorem dX12_event_30 : decode cX12_event 30 = .ok (.aload_n 0, 1) := by decide +kernel
theorem dX12_event_31 : decode cX12_event 31 = .ok (.getfield 129, 3) := by decide +kernel
theorem dX12_event_34 : decode cX12_event 34 = .ok (.aload_n 0, 1) := by decide +kernel
theorem dX12_event_35 : decode cX12_event 35 = .ok (.getfield 381, 3) := by decide +kernel
theorem dX12_event_38 : decode cX12_event 38 = .ok (.iload_n 1, 1) := by decide +kernel
theorem dX12_event_39 : decode cX12_event 39 = .ok (.iastore, 1) := by decide +kernel
theorem dX12_event_40 : decode cX12_event 40 = .ok (.aload_n 0, 1) := by decide +kernel
theorem dX12_event_41 : decode cX12_event 41 = .ok (.getfield 132, 3) := by decide +kernel
theorem dX12_event_44 : decode cX12_event 44 = .ok (.aload_n 0, 1) := by decide +kernel
theorem dX12_event_45 : decode cX12_event 45 = .ok (.getfield 381, 3) := by decide +kernel
theorem dX12_event_48 : decode cX12_event 48 = .ok (.iload_n 2, 1) := by decide +kernel
theorem dX12_event_49 : decode cX12_event 49 = .ok (.iastore, 1) := by decide +kernel
theorem dX12_event_50 : decode cX12_event 50 = .ok (.aload_n 0, 1) := by decide +kernel
theorem dX12_event_51 : decode cX12_event 51 = .ok (.dup, 1) := by decide +kernel
theorem dX12_event_52 : decode cX12_event 52 = .ok (.getfield 381, 3) := by decide +kernel
theorem dX12_event_55 : decode cX12_event 55 = .ok (.iconst 1, 1) := by decide +kernel
theorem dX12_event_56 : decode cX12_event 56 = .ok (.iadd, 1) := by decide +kernel
theorem dX12_event_57 : decode cX12_event 57 = .ok (.putfield 381, 3) := by decide +kernel
theorem dX12_event_60 : decode cX12_event 60 = .ok (.aload_n 0, 1) := by decide +kernel
theorem dX12_event_61 : decode cX12_event 61 = .ok (.getfield 381, 3) := by decide +kernel
theorem dX12_event_64 : decode cX12_event 64 = .ok (.iconst 1, 1) := by decide +kernel
theorem dX12_event_65 : decode cX12_event 65 = .ok (.isub, 1) := by decide +kernel
theorem dX12_event_66 : decode cX12_event 66 = .ok (.ireturn, 1) := by decide +kernel
theorem dX12_isEvent_0 : decode cX12_isEvent 0 = .ok (.iload_n 1, 1) := by decide +kernel
theorem dX12_isEvent_1 : decode cX12_isEvent 1 = .ok (.i2l, 1) := by decide +kernel
theorem dX12_isEvent_2 : decode cX12_isEvent 2 = .ok (.lconst 0, 1) := by decide +kernel
theorem dX12_isEvent_3 : decode cX12_isEvent 3 = .ok (.aload_n 0, 1) := by decide +kernel
theorem dX12_isEvent_4 : decode cX12_isEvent 4 = .ok (.getfield 381, 3) := by decide +kernel
theorem dX12_isEvent_7 : decode cX12_isEvent 7 = .ok (.iconst 1, 1) := by decide +kernel
theorem dX12_isEvent_8 : decode cX12_isEvent 8 = .ok (.isub, 1) := by decide +kernel
theorem dX12_isEvent_9 : decode cX12_isEvent 9 = .ok (.i2l, 1) := by decide +kernel
theorem dX12_isEvent_10 : decode cX12_isEvent 10 = .ok (.invokestatic 155, 3) := by decide +kernel
theorem dX12_isEvent_13 : decode cX12_isEvent 13 = .ok (.ireturn, 1) := by decide +kernel
theorem dX12_fact_0 : decode cX12_fact 0 = .ok (.aload_n 0, 1) := by decide +kernel
theorem dX12_fact_1 : decode cX12_fact 1 = .ok (.iload_n 1, 1) := by decide +kernel
theorem dX12_fact_2 : decode cX12_fact 2 = .ok (.invokevirtual 384, 3) := by decide +kernel
theorem dX12_fact_5 : decode cX12_fact 5 = .ok (.ifCond .eq 39, 3) := by decide +kernel
theorem dX12_fact_8 : decode cX12_fact 8 = .ok (.aload_n 0, 1) := by decide +kernel
theorem dX12_fact_9 : decode cX12_fact 9 = .ok (.iload_n 2, 1) := by decide +kernel
theorem dX12_fact_10 : decode cX12_fact 10 = .ok (.invokevirtual 384, 3) := by decide +kernel
theorem dX12_fact_13 : decode cX12_fact 13 = .ok (.ifCond .eq 31, 3) := by decide +kernel
theorem dX12_fact_16 : decode cX12_fact 16 = .ok (.iload_n 1, 1) := by decide +kernel
theorem dX12_fact_17 : decode cX12_fact 17 = .ok (.iload_n 2, 1) := by decide +kernel
theorem dX12_fact_18 : decode cX12_fact 18 = .ok (.if_icmp .eq 26, 3) := by decide +kernel
theorem dX12_fact_21 : decode cX12_fact 21 = .ok (.iload_n 3, 1) := by decide +kernel
theorem dX12_fact_22 : decode cX12_fact 22 = .ok (.i2l, 1) := by decide +kernel
theorem dX12_fact_23 : decode cX12_fact 23 = .ok (.ldc2_w 387, 3) := by decide +kernel
theorem dX12_fact_26 : decode cX12_fact 26 = .ok (.ldc2_w 239, 3) := by decide +kernel
theorem dX12_fact_29 : decode cX12_fact 29 = .ok (.invokestatic 155, 3) := by decide +kernel
theorem dX12_fact_32 : decode cX12_fact 32 = .ok (.ifCond .eq 12, 3) := by decide +kernel
theorem dX12_fact_35 : decode cX12_fact 35 = .ok (.aload_n 0, 1) := by decide +kernel
theorem dX12_fact_36 : decode cX12_fact 36 = .ok (.getfield 389, 3) := by decide +kernel
theorem dX12_fact_39 : decode cX12_fact 39 = .ok (.bipush 12, 2) := by decide +kernel
theorem dX12_fact_41 : decode cX12_fact 41 = .ok (.if_icmp .ne 5, 3) := by decide +kernel
theorem dX12_fact_44 : decode cX12_fact 44 = .ok (.iconst (-1), 1) := by decide +kernel
theorem dX12_fact_45 : decode cX12_fact 45 = .ok (.ireturn, 1) := by decide +kernel
theorem dX12_fact_46 : decode cX12_fact 46 = .ok (.aload_n 0, 1) := by decide +kernel
theorem dX12_fact_47 : decode cX12_fact 47 = .ok (.getfield 135, 3) := by decide +kernel
theorem dX12_fact_50 : decode cX12_fact 50 = .ok (.aload_n 0, 1) := by decide +kernel
theorem dX12_fact_51 : decode cX12_fact 51 = .ok (.getfield 389, 3) := by decide +kernel
theorem dX12_fact_54 : decode cX12_fact 54 = .ok (.iload_n 1, 1) := by decide +kernel
theorem dX12_fact_55 : decode cX12_fact 55 = .ok (.iastore, 1) := by decide +kernel
theorem dX12_fact_56 : decode cX12_fact 56 = .ok (.aload_n 0, 1) := by decide +kernel
theorem dX12_fact_57 : decode cX12_fact 57 = .ok (.getfield 138, 3) := by decide +kernel
theorem dX12_fact_60 : decode cX12_fact 60 = .ok (.aload_n 0, 1) := by decide +kernel
theorem dX12_fact_61 : decode cX12_fact 61 = .ok (.getfield 389, 3) := by decide +kernel
theorem dX12_fact_64 : decode cX12_fact 64 = .ok (.iload_n 2, 1) := by decide +kernel
theorem dX12_fact_65 : decode cX12_fact 65 = .ok (.iastore, 1) := by decide +kernel
theorem dX12_fact_66 : decode cX12_fact 66 = .ok (.aload_n 0, 1) := by decide +kernel
theorem dX12_fact_67 : decode cX12_fact 67 = .ok (.getfield 141, 3) := by decide +kernel
theorem dX12_fact_70 : decode cX12_fact 70 = .ok (.aload_n 0, 1) := by decide +kernel
theorem dX12_fact_71 : decode cX12_fact 71 = .ok (.getfield 389, 3) := by decide +kernel
theorem dX12_fact_74 : decode cX12_fact 74 = .ok (.iload_n 3, 1) := by decide +kernel
theorem dX12_fact_75 : decode cX12_fact 75 = .ok (.iastore, 1) := by decide +kernel
theorem dX12_fact_76 : decode cX12_fact 76 = .ok (.aload_n 0, 1) := by decide +kernel
theorem dX12_fact_77 : decode cX12_fact 77 = .ok (.dup, 1) := by decide +kernel
theorem dX12_fact_78 : decode cX12_fact 78 = .ok (.getfield 389, 3) := by decide +kernel
theorem dX12_fact_81 : decode cX12_fact 81 = .ok (.iconst 1, 1) := by decide +kernel
theorem dX12_fact_82 : decode cX12_fact 82 = .ok (.iadd, 1) := by decide +kernel
theorem dX12_fact_83 : decode cX12_fact 83 = .ok (.putfield 389, 3) := by decide +kernel
theorem dX12_fact_86 : decode cX12_fact 86 = .ok (.aload_n 0, 1) := by decide +kernel
theorem dX12_fact_87 : decode cX12_fact 87 = .ok (.getfield 389, 3) := by decide +kernel
theorem dX12_fact_90 : decode cX12_fact 90 = .ok (.ireturn, 1) := by decide +kernel
theorem dX12_undo_0 : decode cX12_undo 0 = .ok (.aload_n 0, 1) := by decide +kernel
theorem dX12_undo_1 : decode cX12_undo 1 = .ok (.getfield 389, 3) := by decide +kernel
theorem dX12_undo_4 : decode cX12_undo 4 = .ok (.ifCond .ne 5, 3) := by decide +kernel
theorem dX12_undo_7 : decode cX12_undo 7 = .ok (.iconst (-1), 1) := by decide +kernel
theorem dX12_undo_8 : decode cX12_undo 8 = .ok (.ireturn, 1) := by decide +kernel
theorem dX12_undo_9 : decode cX12_undo 9 = .ok (.aload_n 0, 1) := by decide +kernel
theorem dX12_undo_10 : decode cX12_undo 10 = .ok (.dup, 1) := by decide +kernel
theorem dX12_undo_11 : decode cX12_undo 11 = .ok (.getfield 389, 3) := by decide +kernel
theorem dX12_undo_14 : decode cX12_undo 14 = .ok (.iconst 1, 1) := by decide +kernel
theorem dX12_undo_15 : decode cX12_undo 15 = .ok (.isub, 1) := by decide +kernel
theorem dX12_undo_16 : decode cX12_undo 16 = .ok (.putfield 389, 3) := by decide +kernel
theorem dX12_undo_19 : decode cX12_undo 19 = .ok (.aload_n 0, 1) := by decide +kernel
theorem dX12_undo_20 : decode cX12_undo 20 = .ok (.getfield 389, 3) := by decide +kernel
theorem dX12_undo_23 : decode cX12_undo 23 = .ok (.ireturn, 1) := by decide +kernel
theorem dX12_bounds_0 : decode cX12_bounds 0 = .ok (.aload_n 0, 1) := by decide +kernel
theorem dX12_bounds_1 : decode cX12_bounds 1 = .ok (.getfield 144, 3) := by decide +kernel
theorem dX12_bounds_4 : decode cX12_bounds 4 = .ok (.bipush 7, 2) := by decide +kernel
theorem dX12_bounds_6 : decode cX12_bounds 6 = .ok (.iload_n 1, 1) := by decide +kernel
theorem dX12_bounds_7 : decode cX12_bounds 7 = .ok (.imul, 1) := by decide +kernel
theorem dX12_bounds_8 : decode cX12_bounds 8 = .ok (.iload_n 2, 1) := by decide +kernel
theorem dX12_bounds_9 : decode cX12_bounds 9 = .ok (.iadd, 1) := by decide +kernel
theorem dX12_bounds_10 : decode cX12_bounds 10 = .ok (.aload_n 0, 1) := by decide +kernel
theorem dX12_bounds_11 : decode cX12_bounds 11 = .ok (.getfield 144, 3) := by decide +kernel
theorem dX12_bounds_14 : decode cX12_bounds 14 = .ok (.bipush 7, 2) := by decide +kernel
theorem dX12_bounds_16 : decode cX12_bounds 16 = .ok (.iload_n 1, 1) := by decide +kernel
theorem dX12_bounds_17 : decode cX12_bounds 17 = .ok (.imul, 1) := by decide +kernel
theorem dX12_bounds_18 : decode cX12_bounds 18 = .ok (.iload_n 2, 1) := by decide +kernel
theorem dX12_bounds_19 : decode cX12_bounds 19 = .ok (.iadd, 1) := by decide +kernel
theorem dX12_bounds_20 : decode cX12_bounds 20 = .ok (.iaload, 1) := by decide +kernel
theorem dX12_bounds_21 : decode cX12_bounds 21 = .ok (.iload_n 3, 1) := by decide +kernel
theorem dX12_bounds_22 : decode cX12_bounds 22 = .ok (.invokestatic 301, 3) := by decide +kernel
theorem dX12_bounds_25 : decode cX12_bounds 25 = .ok (.iastore, 1) := by decide +kernel
theorem dX12_bounds_26 : decode cX12_bounds 26 = .ok (.return_, 1) := by decide +kernel
theorem dX12_canBe_0 : decode cX12_canBe 0 = .ok (.iconst 0, 1) := by decide +kernel
theorem dX12_canBe_1 : decode cX12_canBe 1 = .ok (.istore_n 1, 1) := by decide +kernel
theorem dX12_canBe_2 : decode cX12_canBe 2 = .ok (.iload_n 1, 1) := by decide +kernel
theorem dX12_canBe_3 : decode cX12_canBe 3 = .ok (.bipush 49, 2) := by decide +kernel
theorem dX12_canBe_5 : decode cX12_canBe 5 = .ok (.if_icmp .ge 29, 3) := by decide +kernel
theorem dX12_canBe_8 : decode cX12_canBe 8 = .ok (.aload_n 0, 1) := by decide +kernel
theorem dX12_canBe_9 : decode cX12_canBe 9 = .ok (.getfield 144, 3) := by decide +kernel
theorem dX12_canBe_12 : decode cX12_canBe 12 = .ok (.iload_n 1, 1) := by decide +kernel
theorem dX12_canBe_13 : decode cX12_canBe 13 = .ok (.iload_n 1, 1) := by decide +kernel
theorem dX12_canBe_14 : decode cX12_canBe 14 = .ok (.bipush 8, 2) := by decide +kernel
theorem dX12_canBe_16 : decode cX12_canBe 16 = .ok (.irem, 1) := by decide +kernel
theorem dX12_canBe_17 : decode cX12_canBe 17 = .ok (.ifCond .ne 7, 3) := by decide +kernel
theorem dX12_canBe_20 : decode cX12_canBe 20 = .ok (.iconst 0, 1) := by decide +kernel
theorem dX12_canBe_21 : decode cX12_canBe 21 = .ok (.goto 6, 3) := by decide +kernel
theorem dX12_canBe_24 : decode cX12_canBe 24 = .ok (.ldc_w 392, 3) := by decide +kernel
theorem dX12_canBe_27 : decode cX12_canBe 27 = .ok (.iastore, 1) := by decide +kernel
theorem dX12_canBe_28 : decode cX12_canBe 28 = .ok (.iinc 1 1, 3) := by decide +kernel
theorem dX12_canBe_31 : decode cX12_canBe 31 = .ok (.goto (-29), 3) := by decide +kernel
theorem dX12_canBe_34 : decode cX12_canBe 34 = .ok (.iconst 0, 1) := by decide +kernel
theorem dX12_canBe_35 : decode cX12_canBe 35 = .ok (.istore_n 1, 1) := by decide +kernel
theorem dX12_canBe_36 : decode cX12_canBe 36 = .ok (.iload_n 1, 1) := by decide +kernel
theorem dX12_canBe_37 : decode cX12_canBe 37 = .ok (.bipush 6, 2) := by decide +kernel
theorem dX12_canBe_39 : decode cX12_canBe 39 = .ok (.if_icmp .ge 36, 3) := by decide +kernel
theorem dX12_canBe_42 : decode cX12_canBe 42 = .ok (.aload_n 0, 1) := by decide +kernel
theorem dX12_canBe_43 : decode cX12_canBe 43 = .ok (.iload_n 1, 1) := by decide +kernel
theorem dX12_canBe_44 : decode cX12_canBe 44 = .ok (.bipush 6, 2) := by decide +kernel
theorem dX12_canBe_46 : decode cX12_canBe 46 = .ok (.aload_n 0, 1) := by decide +kernel
theorem dX12_canBe_47 : decode cX12_canBe 47 = .ok (.getfield 126, 3) := by decide +kernel
theorem dX12_canBe_50 : decode cX12_canBe 50 = .ok (.iload_n 1, 1) := by decide +kernel
theorem dX12_canBe_51 : decode cX12_canBe 51 = .ok (.iaload, 1) := by decide +kernel
theorem dX12_canBe_52 : decode cX12_canBe 52 = .ok (.invokevirtual 393, 3) := by decide +kernel
theorem dX12_canBe_55 : decode cX12_canBe 55 = .ok (.aload_n 0, 1) := by decide +kernel
theorem dX12_canBe_56 : decode cX12_canBe 56 = .ok (.bipush 6, 2) := by decide +kernel
theorem dX12_canBe_58 : decode cX12_canBe 58 = .ok (.iload_n 1, 1) := by decide +kernel
theorem dX12_canBe_59 : decode cX12_canBe 59 = .ok (.aload_n 0, 1) := by decide +kernel
theorem dX12_canBe_60 : decode cX12_canBe 60 = .ok (.getfield 123, 3) := by decide +kernel
theorem dX12_canBe_63 : decode cX12_canBe 63 = .ok (.iload_n 1, 1) := by decide +kernel
theorem dX12_canBe_64 : decode cX12_canBe 64 = .ok (.iaload, 1) := by decide +kernel
theorem dX12_canBe_65 : decode cX12_canBe 65 = .ok (.ineg, 1) := by decide +kernel
theorem dX12_canBe_66 : decode cX12_canBe 66 = .ok (.invokevirtual 393, 3) := by decide +kernel
theorem dX12_canBe_69 : decode cX12_canBe 69 = .ok (.iinc 1 1, 3) := by decide +kernel
theorem dX12_canBe_72 : decode cX12_canBe 72 = .ok (.goto (-36), 3) := by decide +kernel
theorem dX12_canBe_75 : decode cX12_canBe 75 = .ok (.iconst 0, 1) := by decide +kernel
theorem dX12_canBe_76 : decode cX12_canBe 76 = .ok (.istore_n 1, 1) := by decide +kernel
theorem dX12_canBe_77 : decode cX12_canBe 77 = .ok (.iload_n 1, 1) := by decide +kernel
theorem dX12_canBe_78 : decode cX12_canBe 78 = .ok (.aload_n 0, 1) := by decide +kernel
theorem dX12_canBe_79 : decode cX12_canBe 79 = .ok (.getfield 389, 3) := by decide +kernel
theorem dX12_canBe_82 : decode cX12_canBe 82 = .ok (.if_icmp .ge 65, 3) := by decide +kernel
theorem dX12_canBe_85 : decode cX12_canBe 85 = .ok (.aload_n 0, 1) := by decide +kernel
theorem dX12_canBe_86 : decode cX12_canBe 86 = .ok (.aload_n 0, 1) := by decide +kernel
theorem dX12_canBe_87 : decode cX12_canBe 87 = .ok (.getfield 129, 3) := by decide +kernel
theorem dX12_canBe_90 : decode cX12_canBe 90 = .ok (.aload_n 0, 1) := by decide +kernel
theorem dX12_canBe_91 : decode cX12_canBe 91 = .ok (.getfield 135, 3) := by decide +kernel
theorem dX12_canBe_94 : decode cX12_canBe 94 = .ok (.iload_n 1, 1) := by decide +kernel
theorem dX12_canBe_95 : decode cX12_canBe 95 = .ok (.iaload, 1) := by decide +kernel
theorem dX12_canBe_96 : decode cX12_canBe 96 = .ok (.iaload, 1) := by decide +kernel
theorem dX12_canBe_97 : decode cX12_canBe 97 = .ok (.aload_n 0, 1) := by decide +kernel
theorem dX12_canBe_98 : decode cX12_canBe 98 = .ok (.getfield 129, 3) := by decide +kernel
theorem dX12_canBe_101 : decode cX12_canBe 101 = .ok (.aload_n 0, 1) := by decide +kernel
theorem dX12_canBe_102 : decode cX12_canBe 102 = .ok (.getfield 138, 3) := by decide +kernel
theorem dX12_canBe_105 : decode cX12_canBe 105 = .ok (.iload_n 1, 1) := by decide +kernel
theorem dX12_canBe_106 : decode cX12_canBe 106 = .ok (.iaload, 1) := by decide +kernel
theorem dX12_canBe_107 : decode cX12_canBe 107 = .ok (.iaload, 1) := by decide +kernel
theorem dX12_canBe_108 : decode cX12_canBe 108 = .ok (.aload_n 0, 1) := by decide +kernel
theorem dX12_canBe_109 : decode cX12_canBe 109 = .ok (.getfield 132, 3) := by decide +kernel
theorem dX12_canBe_112 : decode cX12_canBe 112 = .ok (.aload_n 0, 1) := by decide +kernel
theorem dX12_canBe_113 : decode cX12_canBe 113 = .ok (.getfield 135, 3) := by decide +kernel
theorem dX12_canBe_116 : decode cX12_canBe 116 = .ok (.iload_n 1, 1) := by decide +kernel
theorem dX12_canBe_117 : decode cX12_canBe 117 = .ok (.iaload, 1) := by decide +kernel
theorem dX12_canBe_118 : decode cX12_canBe 118 = .ok (.iaload, 1) := by decide +kernel
theorem dX12_canBe_119 : decode cX12_canBe 119 = .ok (.aload_n 0, 1) := by decide +kernel
theorem dX12_canBe_120 : decode cX12_canBe 120 = .ok (.getfield 132, 3) := by decide +kernel
theorem dX12_canBe_123 : decode cX12_canBe 123 = .ok (.aload_n 0, 1) := by decide +kernel
theorem dX12_canBe_124 : decode cX12_canBe 124 = .ok (.getfield 138, 3) := by decide +kernel
theorem dX12_canBe_127 : decode cX12_canBe 127 = .ok (.iload_n 1, 1) := by decide +kernel
theorem dX12_canBe_128 : decode cX12_canBe 128 = .ok (.iaload, 1) := by decide +kernel
theorem dX12_canBe_129 : decode cX12_canBe 129 = .ok (.iaload, 1) := by decide +kernel
theorem dX12_canBe_130 : decode cX12_canBe 130 = .ok (.isub, 1) := by decide +kernel
theorem dX12_canBe_131 : decode cX12_canBe 131 = .ok (.aload_n 0, 1) := by decide +kernel
theorem dX12_canBe_132 : decode cX12_canBe 132 = .ok (.getfield 141, 3) := by decide +kernel
theorem dX12_canBe_135 : decode cX12_canBe 135 = .ok (.iload_n 1, 1) := by decide +kernel
theorem dX12_canBe_136 : decode cX12_canBe 136 = .ok (.iaload, 1) := by decide +kernel
theorem dX12_canBe_137 : decode cX12_canBe 137 = .ok (.isub, 1) := by decide +kernel
theorem dX12_canBe_138 : decode cX12_canBe 138 = .ok (.invokevirtual 393, 3) := by decide +kernel
theorem dX12_canBe_141 : decode cX12_canBe 141 = .ok (.iinc 1 1, 3) := by decide +kernel
theorem dX12_canBe_144 : decode cX12_canBe 144 = .ok (.goto (-67), 3) := by decide +kernel
theorem dX12_canBe_147 : decode cX12_canBe 147 = .ok (.iconst 0, 1) := by decide +kernel
theorem dX12_canBe_148 : decode cX12_canBe 148 = .ok (.istore_n 1, 1) := by decide +kernel
theorem dX12_canBe_149 : decode cX12_canBe 149 = .ok (.iload_n 1, 1) := by decide +kernel
theorem dX12_canBe_150 : decode cX12_canBe 150 = .ok (.bipush 7, 2) := by decide +kernel
theorem dX12_canBe_152 : decode cX12_canBe 152 = .ok (.if_icmp .ge 66, 3) := by decide +kernel
theorem dX12_canBe_155 : decode cX12_canBe 155 = .ok (.iconst 0, 1) := by decide +kernel
theorem dX12_canBe_156 : decode cX12_canBe 156 = .ok (.istore_n 2, 1) := by decide +kernel
theorem dX12_canBe_157 : decode cX12_canBe 157 = .ok (.iload_n 2, 1) := by decide +kernel
theorem dX12_canBe_158 : decode cX12_canBe 158 = .ok (.bipush 7, 2) := by decide +kernel
theorem dX12_canBe_160 : decode cX12_canBe 160 = .ok (.if_icmp .ge 52, 3) := by decide +kernel
theorem dX12_canBe_163 : decode cX12_canBe 163 = .ok (.iconst 0, 1) := by decide +kernel
theorem dX12_canBe_164 : decode cX12_canBe 164 = .ok (.istore_n 3, 1) := by decide +kernel
theorem dX12_canBe_165 : decode cX12_canBe 165 = .ok (.iload_n 3, 1) := by decide +kernel
theorem dX12_canBe_166 : decode cX12_canBe 166 = .ok (.bipush 7, 2) := by decide +kernel
theorem dX12_canBe_168 : decode cX12_canBe 168 = .ok (.if_icmp .ge 38, 3) := by decide +kernel
theorem dX12_canBe_171 : decode cX12_canBe 171 = .ok (.aload_n 0, 1) := by decide +kernel
theorem dX12_canBe_172 : decode cX12_canBe 172 = .ok (.iload_n 2, 1) := by decide +kernel
theorem dX12_canBe_173 : decode cX12_canBe 173 = .ok (.iload_n 3, 1) := by decide +kernel
theorem dX12_canBe_174 : decode cX12_canBe 174 = .ok (.aload_n 0, 1) := by decide +kernel
theorem dX12_canBe_175 : decode cX12_canBe 175 = .ok (.getfield 144, 3) := by decide +kernel
theorem dX12_canBe_178 : decode cX12_canBe 178 = .ok (.bipush 7, 2) := by decide +kernel
theorem dX12_canBe_180 : decode cX12_canBe 180 = .ok (.iload_n 2, 1) := by decide +kernel
theorem dX12_canBe_181 : decode cX12_canBe 181 = .ok (.imul, 1) := by decide +kernel
theorem dX12_canBe_182 : decode cX12_canBe 182 = .ok (.iload_n 1, 1) := by decide +kernel
theorem dX12_canBe_183 : decode cX12_canBe 183 = .ok (.iadd, 1) := by decide +kernel
theorem dX12_canBe_184 : decode cX12_canBe 184 = .ok (.iaload, 1) := by decide +kernel
theorem dX12_canBe_185 : decode cX12_canBe 185 = .ok (.aload_n 0, 1) := by decide +kernel
theorem dX12_canBe_186 : decode cX12_canBe 186 = .ok (.getfield 144, 3) := by decide +kernel
theorem dX12_canBe_189 : decode cX12_canBe 189 = .ok (.bipush 7, 2) := by decide +kernel
theorem dX12_canBe_191 : decode cX12_canBe 191 = .ok (.iload_n 1, 1) := by decide +kernel
theorem dX12_canBe_192 : decode cX12_canBe 192 = .ok (.imul, 1) := by decide +kernel
theorem dX12_canBe_193 : decode cX12_canBe 193 = .ok (.iload_n 3, 1) := by decide +kernel
theorem dX12_canBe_194 : decode cX12_canBe 194 = .ok (.iadd, 1) := by decide +kernel
theorem dX12_canBe_195 : decode cX12_canBe 195 = .ok (.iaload, 1) := by decide +kernel
theorem dX12_canBe_196 : decode cX12_canBe 196 = .ok (.iadd, 1) := by decide +kernel
theorem dX12_canBe_197 : decode cX12_canBe 197 = .ok (.invokevirtual 393, 3) := by decide +kernel
theorem dX12_canBe_200 : decode cX12_canBe 200 = .ok (.iinc 3 1, 3) := by decide +kernel
theorem dX12_canBe_203 : decode cX12_canBe 203 = .ok (.goto (-38), 3) := by decide +kernel
theorem dX12_canBe_206 : decode cX12_canBe 206 = .ok (.iinc 2 1, 3) := by decide +kernel
theorem dX12_canBe_209 : decode cX12_canBe 209 = .ok (.goto (-52), 3) := by decide +kernel
theorem dX12_canBe_212 : decode cX12_canBe 212 = .ok (.iinc 1 1, 3) := by decide +kernel
theorem dX12_canBe_215 : decode cX12_canBe 215 = .ok (.goto (-66), 3) := by decide +kernel
theorem dX12_canBe_218 : decode cX12_canBe 218 = .ok (.iconst 0, 1) := by decide +kernel
theorem dX12_canBe_219 : decode cX12_canBe 219 = .ok (.istore_n 1, 1) := by decide +kernel
theorem dX12_canBe_220 : decode cX12_canBe 220 = .ok (.iload_n 1, 1) := by decide +kernel
theorem dX12_canBe_221 : decode cX12_canBe 221 = .ok (.bipush 7, 2) := by decide +kernel
theorem dX12_canBe_223 : decode cX12_canBe 223 = .ok (.if_icmp .ge 23, 3) := by decide +kernel
theorem dX12_canBe_226 : decode cX12_canBe 226 = .ok (.aload_n 0, 1) := by decide +kernel
theorem dX12_canBe_227 : decode cX12_canBe 227 = .ok (.getfield 144, 3) := by decide +kernel
theorem dX12_canBe_230 : decode cX12_canBe 230 = .ok (.bipush 8, 2) := by decide +kernel
theorem dX12_canBe_232 : decode cX12_canBe 232 = .ok (.iload_n 1, 1) := by decide +kernel
theorem dX12_canBe_233 : decode cX12_canBe 233 = .ok (.imul, 1) := by decide +kernel
theorem dX12_canBe_234 : decode cX12_canBe 234 = .ok (.iaload, 1) := by decide +kernel
theorem dX12_canBe_235 : decode cX12_canBe 235 = .ok (.ifCond .ge 5, 3) := by decide +kernel
theorem dX12_canBe_238 : decode cX12_canBe 238 = .ok (.iconst 0, 1) := by decide +kernel
theorem dX12_canBe_239 : decode cX12_canBe 239 = .ok (.ireturn, 1) := by decide +kernel
theorem dX12_canBe_240 : decode cX12_canBe 240 = .ok (.iinc 1 1, 3) := by decide +kernel
theorem dX12_canBe_243 : decode cX12_canBe 243 = .ok (.goto (-23), 3) := by decide +kernel
theorem dX12_canBe_246 : decode cX12_canBe 246 = .ok (.iconst 1, 1) := by decide +kernel
theorem dX12_canBe_247 : decode cX12_canBe 247 = .ok (.ireturn, 1) := by decide +kernel
theorem dX12_apart_0 : decode cX12_apart 0 = .ok (.aload_n 0, 1) := by decide +kernel
theorem dX12_apart_1 : decode cX12_apart 1 = .ok (.iload_n 1, 1) := by decide +kernel
theorem dX12_apart_2 : decode cX12_apart 2 = .ok (.invokevirtual 384, 3) := by decide +kernel
theorem dX12_apart_5 : decode cX12_apart 5 = .ok (.ifCond .eq 28, 3) := by decide +kernel
theorem dX12_apart_8 : decode cX12_apart 8 = .ok (.aload_n 0, 1) := by decide +kernel
theorem dX12_apart_9 : decode cX12_apart 9 = .ok (.iload_n 2, 1) := by decide +kernel
theorem dX12_apart_10 : decode cX12_apart 10 = .ok (.invokevirtual 384, 3) := by decide +kernel
theorem dX12_apart_13 : decode cX12_apart 13 = .ok (.ifCond .eq 20, 3) := by decide +kernel
theorem dX12_apart_16 : decode cX12_apart 16 = .ok (.iload_n 3, 1) := by decide +kernel
theorem dX12_apart_17 : decode cX12_apart 17 = .ok (.i2l, 1) := by decide +kernel
theorem dX12_apart_18 : decode cX12_apart 18 = .ok (.lconst 0, 1) := by decide +kernel
theorem dX12_apart_19 : decode cX12_apart 19 = .ok (.lconst 1, 1) := by decide +kernel
theorem dX12_apart_20 : decode cX12_apart 20 = .ok (.invokestatic 155, 3) := by decide +kernel
theorem dX12_apart_23 : decode cX12_apart 23 = .ok (.ifCond .eq 10, 3) := by decide +kernel
theorem dX12_apart_26 : decode cX12_apart 26 = .ok (.aload_n 0, 1) := by decide +kernel
theorem dX12_apart_27 : decode cX12_apart 27 = .ok (.invokevirtual 396, 3) := by decide +kernel
theorem dX12_apart_30 : decode cX12_apart 30 = .ok (.ifCond .ne 7, 3) := by decide +kernel
theorem dX12_apart_33 : decode cX12_apart 33 = .ok (.ldc_w 399, 3) := by decide +kernel
theorem dX12_apart_36 : decode cX12_apart 36 = .ok (.ireturn, 1) := by decide +kernel
theorem dX12_apart_37 : decode cX12_apart 37 = .ok (.aload_n 0, 1) := by decide +kernel
theorem dX12_apart_38 : decode cX12_apart 38 = .ok (.getfield 129, 3) := by decide +kernel
theorem dX12_apart_41 : decode cX12_apart 41 = .ok (.iload_n 1, 1) := by decide +kernel
theorem dX12_apart_42 : decode cX12_apart 42 = .ok (.iaload, 1) := by decide +kernel
theorem dX12_apart_43 : decode cX12_apart 43 = .ok (.istore 4, 2) := by decide +kernel
theorem dX12_apart_45 : decode cX12_apart 45 = .ok (.aload_n 0, 1) := by decide +kernel
theorem dX12_apart_46 : decode cX12_apart 46 = .ok (.getfield 129, 3) := by decide +kernel
theorem dX12_apart_49 : decode cX12_apart 49 = .ok (.iload_n 2, 1) := by decide +kernel
theorem dX12_apart_50 : decode cX12_apart 50 = .ok (.iaload, 1) := by decide +kernel
theorem dX12_apart_51 : decode cX12_apart 51 = .ok (.istore 5, 2) := by decide +kernel
theorem dX12_apart_53 : decode cX12_apart 53 = .ok (.aload_n 0, 1) := by decide +kernel
theorem dX12_apart_54 : decode cX12_apart 54 = .ok (.getfield 132, 3) := by decide +kernel
theorem dX12_apart_57 : decode cX12_apart 57 = .ok (.iload_n 2, 1) := by decide +kernel
theorem dX12_apart_58 : decode cX12_apart 58 = .ok (.iaload, 1) := by decide +kernel
theorem dX12_apart_59 : decode cX12_apart 59 = .ok (.aload_n 0, 1) := by decide +kernel
theorem dX12_apart_60 : decode cX12_apart 60 = .ok (.getfield 132, 3) := by decide +kernel
theorem dX12_apart_63 : decode cX12_apart 63 = .ok (.iload_n 1, 1) := by decide +kernel
theorem dX12_apart_64 : decode cX12_apart 64 = .ok (.iaload, 1) := by decide +kernel
theorem dX12_apart_65 : decode cX12_apart 65 = .ok (.isub, 1) := by decide +kernel
theorem dX12_apart_66 : decode cX12_apart 66 = .ok (.istore 6, 2) := by decide +kernel
theorem dX12_apart_68 : decode cX12_apart 68 = .ok (.iload_n 3, 1) := by decide +kernel
theorem dX12_apart_69 : decode cX12_apart 69 = .ok (.ifCond .ne 22, 3) := by decide +kernel
theorem dX12_apart_72 : decode cX12_apart 72 = .ok (.iload 6, 2) := by decide +kernel
theorem dX12_apart_74 : decode cX12_apart 74 = .ok (.aload_n 0, 1) := by decide +kernel
theorem dX12_apart_75 : decode cX12_apart 75 = .ok (.getfield 144, 3) := by decide +kernel
theorem dX12_apart_78 : decode cX12_apart 78 = .ok (.bipush 7, 2) := by decide +kernel
theorem dX12_apart_80 : decode cX12_apart 80 = .ok (.iload 5, 2) := by decide +kernel
theorem dX12_apart_82 : decode cX12_apart 82 = .ok (.imul, 1) := by decide +kernel
theorem dX12_apart_83 : decode cX12_apart 83 = .ok (.iload 4, 2) := by decide +kernel
theorem dX12_apart_85 : decode cX12_apart 85 = .ok (.iadd, 1) := by decide +kernel
theorem dX12_apart_86 : decode cX12_apart 86 = .ok (.iaload, 1) := by decide +kernel
theorem dX12_apart_87 : decode cX12_apart 87 = .ok (.isub, 1) := by decide +kernel
theorem dX12_apart_88 : decode cX12_apart 88 = .ok (.goto 19, 3) := by decide +kernel
theorem dX12_apart_91 : decode cX12_apart 91 = .ok (.iload 6, 2) := by decide +kernel
theorem dX12_apart_93 : decode cX12_apart 93 = .ok (.aload_n 0, 1) := by decide +kernel
theorem dX12_apart_94 : decode cX12_apart 94 = .ok (.getfield 144, 3) := by decide +kernel
theorem dX12_apart_97 : decode cX12_apart 97 = .ok (.bipush 7, 2) := by decide +kernel
theorem dX12_apart_99 : decode cX12_apart 99 = .ok (.iload 4, 2) := by decide +kernel
theorem dX12_apart_101 : decode cX12_apart 101 = .ok (.imul, 1) := by decide +kernel
theorem dX12_apart_102 : decode cX12_apart 102 = .ok (.iload 5, 2) := by decide +kernel
theorem dX12_apart_104 : decode cX12_apart 104 = .ok (.iadd, 1) := by decide +kernel
theorem dX12_apart_105 : decode cX12_apart 105 = .ok (.iaload, 1) := by decide +kernel
theorem dX12_apart_106 : decode cX12_apart 106 = .ok (.iadd, 1) := by decide +kernel
theorem dX12_apart_107 : decode cX12_apart 107 = .ok (.ireturn, 1) := by decide +kernel
theorem dX12_first_0 : decode cX12_first 0 = .ok (.aload_n 0, 1) := by decide +kernel
theorem dX12_first_1 : decode cX12_first 1 = .ok (.iload_n 1, 1) := by decide +kernel
theorem dX12_first_2 : decode cX12_first 2 = .ok (.invokevirtual 384, 3) := by decide +kernel
theorem dX12_first_5 : decode cX12_first 5 = .ok (.ifCond .eq 18, 3) := by decide +kernel
theorem dX12_first_8 : decode cX12_first 8 = .ok (.aload_n 0, 1) := by decide +kernel
theorem dX12_first_9 : decode cX12_first 9 = .ok (.iload_n 2, 1) := by decide +kernel
theorem dX12_first_10 : decode cX12_first 10 = .ok (.invokevirtual 384, 3) := by decide +kernel
theorem dX12_first_13 : decode cX12_first 13 = .ok (.ifCond .eq 10, 3) := by decide +kernel
theorem dX12_first_16 : decode cX12_first 16 = .ok (.aload_n 0, 1) := by decide +kernel
theorem dX12_first_17 : decode cX12_first 17 = .ok (.invokevirtual 396, 3) := by decide +kernel
theorem dX12_first_20 : decode cX12_first 20 = .ok (.ifCond .ne 5, 3) := by decide +kernel
theorem dX12_first_23 : decode cX12_first 23 = .ok (.iconst (-1), 1) := by decide +kernel
theorem dX12_first_24 : decode cX12_first 24 = .ok (.ireturn, 1) := by decide +kernel
theorem dX12_first_25 : decode cX12_first 25 = .ok (.aload_n 0, 1) := by decide +kernel
theorem dX12_first_26 : decode cX12_first 26 = .ok (.iload_n 1, 1) := by decide +kernel
theorem dX12_first_27 : decode cX12_first 27 = .ok (.iload_n 2, 1) := by decide +kernel
theorem dX12_first_28 : decode cX12_first 28 = .ok (.iconst 0, 1) := by decide +kernel
theorem dX12_first_29 : decode cX12_first 29 = .ok (.invokevirtual 400, 3) := by decide +kernel
theorem dX12_first_32 : decode cX12_first 32 = .ok (.istore_n 3, 1) := by decide +kernel
theorem dX12_first_33 : decode cX12_first 33 = .ok (.aload_n 0, 1) := by decide +kernel
theorem dX12_first_34 : decode cX12_first 34 = .ok (.iload_n 1, 1) := by decide +kernel
theorem dX12_first_35 : decode cX12_first 35 = .ok (.iload_n 2, 1) := by decide +kernel
theorem dX12_first_36 : decode cX12_first 36 = .ok (.iconst 1, 1) := by decide +kernel
theorem dX12_first_37 : decode cX12_first 37 = .ok (.invokevirtual 400, 3) := by decide +kernel
theorem dX12_first_40 : decode cX12_first 40 = .ok (.istore 4, 2) := by decide +kernel
theorem dX12_first_42 : decode cX12_first 42 = .ok (.iload_n 3, 1) := by decide +kernel
theorem dX12_first_43 : decode cX12_first 43 = .ok (.ifCond .le 7, 3) := by decide +kernel
theorem dX12_first_46 : decode cX12_first 46 = .ok (.iconst 1, 1) := by decide +kernel
theorem dX12_first_47 : decode cX12_first 47 = .ok (.goto 26, 3) := by decide +kernel
theorem dX12_first_50 : decode cX12_first 50 = .ok (.iload 4, 2) := by decide +kernel
theorem dX12_first_52 : decode cX12_first 52 = .ok (.ifCond .ge 7, 3) := by decide +kernel
theorem dX12_first_55 : decode cX12_first 55 = .ok (.iconst 2, 1) := by decide +kernel
theorem dX12_first_56 : decode cX12_first 56 = .ok (.goto 17, 3) := by decide +kernel
theorem dX12_first_59 : decode cX12_first 59 = .ok (.iload_n 3, 1) := by decide +kernel
theorem dX12_first_60 : decode cX12_first 60 = .ok (.ifCond .ne 12, 3) := by decide +kernel
theorem dX12_first_63 : decode cX12_first 63 = .ok (.iload 4, 2) := by decide +kernel
theorem dX12_first_65 : decode cX12_first 65 = .ok (.ifCond .ne 7, 3) := by decide +kernel
theorem dX12_first_68 : decode cX12_first 68 = .ok (.iconst 0, 1) := by decide +kernel
theorem dX12_first_69 : decode cX12_first 69 = .ok (.goto 4, 3) := by decide +kernel
theorem dX12_first_72 : decode cX12_first 72 = .ok (.iconst (-1), 1) := by decide +kernel
theorem dX12_first_73 : decode cX12_first 73 = .ok (.ireturn, 1) := by decide +kernel
theorem dX12_count_0 : decode cX12_count 0 = .ok (.iload_n 1, 1) := by decide +kernel
theorem dX12_count_1 : decode cX12_count 1 = .ok (.tableswitch 109 0 9 #[55, 62, 69, 74, 79, 84, 89, 94, 99, 104], 55) := by decide +kernel
theorem dX12_count_56 : decode cX12_count 56 = .ok (.aload_n 0, 1) := by decide +kernel
theorem dX12_count_57 : decode cX12_count 57 = .ok (.getfield 26, 3) := by decide +kernel
theorem dX12_count_60 : decode cX12_count 60 = .ok (.iconst 0, 1) := by decide +kernel
theorem dX12_count_61 : decode cX12_count 61 = .ok (.iaload, 1) := by decide +kernel
theorem dX12_count_62 : decode cX12_count 62 = .ok (.ireturn, 1) := by decide +kernel
theorem dX12_count_63 : decode cX12_count 63 = .ok (.aload_n 0, 1) := by decide +kernel
theorem dX12_count_64 : decode cX12_count 64 = .ok (.getfield 30, 3) := by decide +kernel
theorem dX12_count_67 : decode cX12_count 67 = .ok (.iconst 0, 1) := by decide +kernel
theorem dX12_count_68 : decode cX12_count 68 = .ok (.iaload, 1) := by decide +kernel
theorem dX12_count_69 : decode cX12_count 69 = .ok (.ireturn, 1) := by decide +kernel
theorem dX12_count_70 : decode cX12_count 70 = .ok (.aload_n 0, 1) := by decide +kernel
theorem dX12_count_71 : decode cX12_count 71 = .ok (.getfield 224, 3) := by decide +kernel
theorem dX12_count_74 : decode cX12_count 74 = .ok (.ireturn, 1) := by decide +kernel
theorem dX12_count_75 : decode cX12_count 75 = .ok (.aload_n 0, 1) := by decide +kernel
theorem dX12_count_76 : decode cX12_count 76 = .ok (.getfield 243, 3) := by decide +kernel
theorem dX12_count_79 : decode cX12_count 79 = .ok (.ireturn, 1) := by decide +kernel
theorem dX12_count_80 : decode cX12_count 80 = .ok (.aload_n 0, 1) := by decide +kernel
theorem dX12_count_81 : decode cX12_count 81 = .ok (.getfield 260, 3) := by decide +kernel
theorem dX12_count_84 : decode cX12_count 84 = .ok (.ireturn, 1) := by decide +kernel
theorem dX12_count_85 : decode cX12_count 85 = .ok (.aload_n 0, 1) := by decide +kernel
theorem dX12_count_86 : decode cX12_count 86 = .ok (.getfield 359, 3) := by decide +kernel
theorem dX12_count_89 : decode cX12_count 89 = .ok (.ireturn, 1) := by decide +kernel
theorem dX12_count_90 : decode cX12_count 90 = .ok (.aload_n 0, 1) := by decide +kernel
theorem dX12_count_91 : decode cX12_count 91 = .ok (.getfield 381, 3) := by decide +kernel
theorem dX12_count_94 : decode cX12_count 94 = .ok (.ireturn, 1) := by decide +kernel
theorem dX12_count_95 : decode cX12_count 95 = .ok (.aload_n 0, 1) := by decide +kernel
theorem dX12_count_96 : decode cX12_count 96 = .ok (.getfield 389, 3) := by decide +kernel
theorem dX12_count_99 : decode cX12_count 99 = .ok (.ireturn, 1) := by decide +kernel
theorem dX12_count_100 : decode cX12_count 100 = .ok (.aload_n 0, 1) := by decide +kernel
theorem dX12_count_101 : decode cX12_count 101 = .ok (.getfield 147, 3) := by decide +kernel
theorem dX12_count_104 : decode cX12_count 104 = .ok (.ireturn, 1) := by decide +kernel
theorem dX12_count_105 : decode cX12_count 105 = .ok (.aload_n 0, 1) := by decide +kernel
theorem dX12_count_106 : decode cX12_count 106 = .ok (.getfield 248, 3) := by decide +kernel
theorem dX12_count_109 : decode cX12_count 109 = .ok (.ireturn, 1) := by decide +kernel
theorem dX12_count_110 : decode cX12_count 110 = .ok (.iconst (-1), 1) := by decide +kernel
theorem dX12_count_111 : decode cX12_count 111 = .ok (.ireturn, 1) := by decide +kernel
end
section
/-! ===== the words that go from a caller to its callees ===== -/
def WG : List Cond := lw_tbl.filter goodWord
theorem WG_of {w : Cond} (h : w ∈ lw_tbl) (g : goodWord w = true) : w ∈ WG := List.mem_filter.mpr ⟨h, g⟩
theorem WG_in {w : Cond} (h : w ∈ WG) : w ∈ lw_tbl ∧ goodWord w = true := List.mem_filter.mp h
theorem WG_good : GoodIn WG WG := fun w h => ⟨h, good_of_word (WG_in h).2⟩
theorem tb_in {w : Cond} (h : w ∈ tables_1) : w ∈ lw_tbl := List.mem_append_right _ h
theorem tb1 {w : Cond} (j : Nat) (h : tables_1_1[j]? = some w) (g : goodWord w = true) : w ∈ WG := WG_of (tb_in (List.mem_append_left _ (List.mem_of_getElem? h))) g
theorem tb2 {w : Cond} (j : Nat) (h : tables_1_2[j]? = some w) (g : goodWord w = true) : w ∈ WG := WG_of (tb_in (List.mem_append_right _ (List.mem_append_left _ (List.mem_of_getElem? h)))) g
theorem tb3 {w : Cond} (j : Nat) (h : tables_1_3[j]? = some w) (g : goodWord w = true) : w ∈ WG := WG_of (tb_in (List.mem_append_right _ (List.mem_append_right _ (List.mem_append_left _ (List.mem_of_getElem? h))))) g
theorem tb4 {w : Cond} (j : Nat) (h : tables_1_4[j]? = some w) (g : goodWord w = true) : w ∈ WG := WG_of (tb_in (List.mem_append_right _ (List.mem_append_right _ (List.mem_append_right _ (List.mem_append_left _ (List.mem_of_getElem? h)))))) g
theorem tb5 {w : Cond} (j : Nat) (h : tables_1_5[j]? = some w) (g : goodWord w = true) : w ∈ WG := WG_of (tb_in (List.mem_append_right _ (List.mem_append_right _ (List.mem_append_right _ (List.mem_append_right _ (List.mem_append_left _ (List.mem_of_getElem? h))))))) g
theorem tb6 {w : Cond} (j : Nat) (h : tables_1_6[j]? = some w) (g : goodWord w = true) : w ∈ WG := WG_of (tb_in (List.mem_append_right _ (List.mem_append_right _ (List.mem_append_right _ (List.mem_append_right _ (List.mem_append_right _ (List.mem_append_left _ (List.mem_of_getElem? h)))))))) g
theorem tb7 {w : Cond} (j : Nat) (h : tables_1_7[j]? = some w) (g : goodWord w = true) : w ∈ WG := WG_of (tb_in (List.mem_append_right _ (List.mem_append_right _ (List.mem_append_right _ (List.mem_append_right _ (List.mem_append_right _ (List.mem_append_right _ (List.mem_of_getElem? h)))))))) g
theorem tb0 {w : Cond} (j : Nat) (h : (k2_sels lw_privs)[j]? = some w) (g : goodWord w = true) : w ∈ WG := WG_of (List.mem_append_left _ (List.mem_of_getElem? h)) g
/-! ===== memory, shapes, worlds ===== -/
abbrev kMem : Type := (Nat → Nat → Int32) × (Nat → Nat → Int64)
def up (μ : kMem) (o k : Nat) (x : Int32) : kMem := (fun a b => if a = o ∧ b = k then x else μ.1 a b, μ.2)
def upL (μ : kMem) (o k : Nat) (x : Int64) : kMem := (μ.1, fun a b => if a = o ∧ b = k then x else μ.2 a b)
theorem up_same (μ : kMem) (o k : Nat) (x : Int32) : (up μ o k x).1 o k = x := by simp [up]
theorem up_ne (μ : kMem) {o k a b : Nat} (x : Int32) (h : ¬ (a = o ∧ b = k)) : (up μ o k x).1 a b = μ.1 a b := by simp only [up, if_neg h]
theorem up_neo (μ : kMem) {o k a b : Nat} (x : Int32) (h : a ≠ o) : (up μ o k x).1 a b = μ.1 a b := up_ne μ x (fun q => h q.1)
theorem up_nek (μ : kMem) {o k a b : Nat} (x : Int32) (h : b ≠ k) : (up μ o k x).1 a b = μ.1 a b := up_ne μ x (fun q => h q.2)
theorem up_2 (μ : kMem) (o k : Nat) (x : Int32) : (up μ o k x).2 = μ.2 := rfl
theorem upL_1 (μ : kMem) (o k : Nat) (x : Int64) : (upL μ o k x).1 = μ.1 := rfl
theorem upL_same (μ : kMem) (o k : Nat) (x : Int64) : (upL μ o k x).2 o k = x := by simp [upL]
theorem upL_ne (μ : kMem) {o k a b : Nat} (x : Int64) (h : ¬ (a = o ∧ b = k)) : (upL μ o k x).2 a b = μ.2 a b := by simp only [upL, if_neg h]
/-- what a cell is: an object of the table's number with fields (an int, or a cell that stays), or an array (0 int, 1 byte, 2 long, else of cells that stay) -/
abbrev kSh : Type := (Nat × List (Option Nat)) ⊕ (Nat × Nat × (Nat → Nat))
def cvv (ad : Nat → Nat) : Value → Value
  | .ref a => .ref (ad a)
  | v => v
theorem cvv_cat (ad : Nat → Nat) (v : Value) : (cvv ad v).category = v.category := by cases v <;> rfl
def kfv (ad : Nat → Nat) (g : Nat → Int32) (fs : List (Option Nat)) : List Value := (List.range fs.length).map (fun k => match fs[k]? with | some (some r) => Value.ref (ad r) | _ => Value.int (g k))
def karr (ad : Nat → Nat) (t : Nat) (f : Nat → Nat) (g : Nat → Int32) (gl : Nat → Int64) : (Nat → Int32) ⊕ (Nat → Int64) ⊕ (Nat → UInt32) ⊕ (Nat → UInt64) ⊕ (Nat → Option Nat) :=
  if t ≤ 1 then .inl g else if t = 2 then .inr (.inl gl) else .inr (.inr (.inr (.inr (fun k => some (ad (f k))))))
def kent (sh : Nat → kSh) (ad : Nat → Nat) (τ : Nat → ClassId) (μ : kMem) (i : Nat) : va_E := match sh i with
  | .inl q => .inr (q.1, kfv ad (μ.1 i) q.2)
  | .inr q => .inl (τ q.1, q.2.1, karr ad q.1 q.2.2 (μ.1 i) (μ.2 i))
def wl (sh : Nat → kSh) (N : Nat) (ad : Nat → Nat) (τ : Nat → ClassId) (μ : kMem) : va_W := (List.range N).map (fun i => (ad i, kent sh ad τ μ i))
theorem wl_get {sh : Nat → kSh} {N : Nat} {ad : Nat → Nat} {τ : Nat → ClassId} {μ : kMem} {i : Nat} (h : i < N) : (wl sh N ad τ μ)[i]? = some (ad i, kent sh ad τ μ i) := by
  simp [wl, h]
theorem wl_set {sh : Nat → kSh} {N : Nat} {ad : Nat → Nat} {τ : Nat → ClassId} {μ μ' : kMem} {i : Nat} {e : va_E} (h : i < N) (ho : ∀ j, j ≠ i → kent sh ad τ μ' j = kent sh ad τ μ j) (he : kent sh ad τ μ' i = e) : (wl sh N ad τ μ).set i (ad i, e) = wl sh N ad τ μ' := by
  apply List.ext_getElem?
  intro j
  by_cases hj : j = i
  · subst hj
    rw [wl_get h, he, List.getElem?_set]
    simp [wl, h]
  · rw [List.getElem?_set_ne (Ne.symm hj)]
    by_cases hN : j < N
    · rw [wl_get hN, wl_get hN, ho j hj]
    · simp [wl, hN]
theorem wl_ad {sh : Nat → kSh} {N : Nat} {ad : Nat → Nat} {τ : Nat → ClassId} {μ : kMem} {k : Nat} {q : Nat × va_E} (h : (wl sh N ad τ μ)[k]? = some q) : k < N ∧ q.1 = ad k := by
  by_cases hN : k < N
  · rw [wl_get hN] at h
    cases h
    exact ⟨hN, rfl⟩
  · simp [wl, hN] at h
theorem va_D_wl {A B : Nat → Prop} {sh : Nat → kSh} {N : Nat} {ad : Nat → Nat} {τ : Nat → ClassId} {μ μ' : kMem} (h : va_D A (wl sh N ad τ μ)) (hAB : ∀ i, i < N → A (ad i) → B (ad i)) : va_D B (wl sh N ad τ μ') := by
  refine ⟨fun i j x y hi hj e => ?_, fun k q hk => ?_⟩
  · obtain ⟨h1, e1⟩ := wl_ad hi
    obtain ⟨h2, e2⟩ := wl_ad hj
    exact h.1 i j _ _ (wl_get h1) (wl_get h2) (by rw [← e1, ← e2]; exact e)
  · obtain ⟨h1, e1⟩ := wl_ad hk
    rw [e1]
    exact hAB k h1 (h.2 k _ (wl_get h1))
theorem kfv_int {ad : Nat → Nat} {g : Nat → Int32} {fs : List (Option Nat)} {k : Nat} (h : fs[k]? = some none) : (kfv ad g fs)[k]? = some (.int (g k)) := by
  have hk : k < fs.length := (List.getElem?_eq_some_iff.mp h).1
  unfold kfv
  rw [List.getElem?_map, List.getElem?_range hk]
  show some (match fs[k]? with | some (some r) => Value.ref (ad r) | _ => Value.int (g k)) = _
  rw [h]
theorem kfv_ref {ad : Nat → Nat} {g : Nat → Int32} {fs : List (Option Nat)} {k r : Nat} (h : fs[k]? = some (some r)) : (kfv ad g fs)[k]? = some (.ref (ad r)) := by
  have hk : k < fs.length := (List.getElem?_eq_some_iff.mp h).1
  unfold kfv
  rw [List.getElem?_map, List.getElem?_range hk]
  show some (match fs[k]? with | some (some r) => Value.ref (ad r) | _ => Value.int (g k)) = _
  rw [h]
theorem kfv_len {ad : Nat → Nat} {g : Nat → Int32} {fs : List (Option Nat)} : (kfv ad g fs).length = fs.length := by simp [kfv]
theorem kfv_set {ad : Nat → Nat} {g : Nat → Int32} {fs : List (Option Nat)} {k : Nat} {x : Int32} (h : fs[k]? = some none) : (kfv ad g fs).set k (.int x) = kfv ad (fun b => if b = k then x else g b) fs := by
  have hk : k < fs.length := (List.getElem?_eq_some_iff.mp h).1
  apply List.ext_getElem?
  intro j
  by_cases hj : j = k
  · subst hj
    rw [List.getElem?_set]
    rw [kfv_int (g := fun b => if b = j then x else g b) h]
    simp [kfv, hk]
  · rw [List.getElem?_set_ne (Ne.symm hj)]
    by_cases hl : j < fs.length
    · cases hv : fs[j]? with
      | none => rw [List.getElem?_eq_none_iff] at hv; omega
      | some v =>
        cases v with
        | none => rw [kfv_int hv, kfv_int hv, if_neg hj]
        | some r => rw [kfv_ref hv, kfv_ref hv]
    · simp [kfv, hl]
/-! ===== what a state has beside the world: the tables of the arrays, three texts, two links, two statics ===== -/
abbrev kty (τ : Nat → ClassId) : List (ClassId × FieldType) := [(τ 0, .int), (τ 1, .byte), (τ 2, .long), (τ 3, .array .int), (τ 4, .array .long), (τ 5, .object "java/lang/String")]
def klen : List Nat := [6, 4, 2]
def kbyt : List (List Int32) := [[108, 101, 116, 116, 101, 114], [119, 111, 114, 100], [105, 115]]
def kE (ad : Nat → Nat) (τ : Nat → ClassId) (D : va_G) (A : Nat → Prop) (U : State) (H : Heap) : Prop :=
  va_K D vwCl (kty τ) U ∧ vk_S 3 klen kbyt (fun i => ad (1000 + i)) (fun i => ad (2000 + i)) A U H ∧
  vk_R "KeyFists$Grammar" 50 "letter" (ad 1000) U ∧ vk_R "KeyFists$Grammar" 59 "word" (ad 1001) U ∧ vk_R "KeyFists$Grammar" 99 "is" (ad 1002) U ∧
  va_Nw (.methodLinkNest "KeyFists$Lines" 44 yX11_areTwoStations "KeyFists") U ∧ va_Nw (.methodLinkNest "KeyFists$Clocks" 45 yX11_isStation "KeyFists") U ∧
  va_Z "java/lang/String" "COMPACT_STRINGS" "Z" (.int 1) A U H ∧ ∃ v : Value, (v = .null ∨ v = .ref 3000) ∧ va_Z "jdk/internal/util/Preconditions" "SIOOBE_FORMATTER" "Ljava/util/function/BiFunction;" (cvv ad v) A U H
theorem kE.warm {ad : Nat → Nat} {τ : Nat → ClassId} {D : va_G} {A : Nat → Prop} {s U : State} {H : Heap} (hW : s.WarmedH U.vm) (h : kE ad τ D A s H) : kE ad τ D A U H := by
  obtain ⟨h1, h2, h3, h4, h5, h6, h7, h8, v, hv, h9⟩ := h
  exact ⟨va_K.moved hW.alike h1, vk_S.moved hW.alike h2, vk_R.warm hW h3, vk_R.warm hW h4, vk_R.warm hW h5, va_Nw.warmM hW h6, va_Nw.warmM hW h7, va_Z.moved hW.alike h8, v, hv, va_Z.moved hW.alike h9⟩
theorem kE.same {ad : Nat → Nat} {τ : Nat → ClassId} {D : va_G} {A : Nat → Prop} {u U : State} {H : Heap} (hv : U.vm = u.vm) (h : kE ad τ D A u H) : kE ad τ D A U H := by
  obtain ⟨h1, h2, h3, h4, h5, h6, h7, h8, v, hv2, h9⟩ := h
  have ha : u.vm.Alike U.vm := by rw [hv]; exact Vm.Alike.refl _
  exact ⟨va_K.moved ha h1, vk_S.moved ha h2, vk_R.same hv h3, vk_R.same hv h4, vk_R.same hv h5, va_Nw.same rfl hv.symm h6, va_Nw.same rfl hv.symm h7, va_Z.moved ha h8, v, hv2, va_Z.moved ha h9⟩
theorem kE.kept {ad : Nat → Nat} {τ : Nat → ClassId} {D : va_G} {A : Nat → Prop} {U : State} {H H1 : Heap} (h : kE ad τ D A U H) (hq : ∀ a : Nat, a < H.size → ¬ A a → H1[a]? = H[a]?) : kE ad τ D A U H1 := by
  obtain ⟨h1, h2, h3, h4, h5, h6, h7, h8, v, hv, h9⟩ := h
  exact ⟨h1, h2.kept hq, h3, h4, h5, h6, h7, h8.kept hq, v, hv, h9.kept hq⟩
theorem kE.narrow {ad : Nat → Nat} {τ : Nat → ClassId} {D : va_G} {A B : Nat → Prop} {U : State} {H : Heap} (h : kE ad τ D A U H) (hAB : ∀ q, B q → A q) : kE ad τ D B U H := by
  obtain ⟨h1, h2, h3, h4, h5, h6, h7, h8, v, hv, h9⟩ := h
  exact ⟨h1, h2.narrow hAB, h3, h4, h5, h6, h7, h8.narrow hAB, v, hv, h9.narrow hAB⟩
/-! ===== locals ===== -/
def lg : List (Option Value) → Nat → Option Value
  | [], _ => none
  | a :: _, 0 => a
  | _ :: t, i + 1 => lg t i
def lclr : Option Value → Option Value
  | some (.long _) => none
  | some (.double _) => none
  | a => a
def lset : List (Option Value) → Nat → Value → List (Option Value)
  | [], _, _ => []
  | _ :: t, 0, v => some v :: t
  | a :: t, i + 1, v => (match i with | 0 => lclr a | _ => a) :: lset t i v
def lcut : List (Option Value) → Nat → List (Option Value)
  | [], _ => []
  | _ :: t, 0 => none :: t
  | a :: t, i + 1 => a :: lcut t i
/-- a long at i: its second half stands behind it -/
def lset2 (L : List (Option Value)) (i : Nat) (v : Value) : List (Option Value) := lcut (lset L i v) (i + 1)
def lpairs (ad : Nat → Nat) : Nat → List (Option Value) → List (Nat × Value)
  | _, [] => []
  | i, none :: t => lpairs ad (i + 1) t
  | i, some v :: t => (i, cvv ad v) :: lpairs ad (i + 1) t
theorem lpairs_lg {ad : Nat → Nat} : ∀ {L : List (Option Value)} {i b : Nat} {v : Value}, lg L i = some v → (b + i, cvv ad v) ∈ lpairs ad b L := by
  intro L
  induction L with
  | nil => intro i b v h; cases h
  | cons a t ih =>
    intro i b v h
    cases i with
    | zero =>
      have h : a = some v := h
      subst h
      exact List.mem_cons_self
    | succ i =>
      have h : lg t i = some v := h
      have h2 := ih (b := b + 1) h
      rw [show b + (i + 1) = b + 1 + i by omega]
      cases a with
      | none => exact h2
      | some w => exact List.mem_cons_of_mem _ h2
theorem lpairs_ge {ad : Nat → Nat} : ∀ {L : List (Option Value)} {b : Nat} {q : Nat × Value}, q ∈ lpairs ad b L → b ≤ q.1 := by
  intro L
  induction L with
  | nil => intro b q h; cases h
  | cons a t ih =>
    intro b q h
    cases a with
    | none => have := ih (b := b + 1) h; omega
    | some w =>
      rcases List.mem_cons.mp h with h | h
      · subst h; exact Nat.le_refl _
      · have := ih (b := b + 1) h; omega
theorem lpairs_lset {ad : Nat → Nat} {v : Value} : ∀ {L : List (Option Value)} {i b : Nat} {q : Nat × Value}, q ∈ lpairs ad b (lset L i v) → q = (b + i, cvv ad v) ∨ (q ∈ lpairs ad b L ∧ q.1 ≠ b + i ∧ ¬ (q.1 + 1 = b + i ∧ q.2.category = 2)) := by
  intro L
  induction L with
  | nil => intro i b q h; cases h
  | cons a t ih =>
    intro i b q h
    cases i with
    | zero =>
      rcases List.mem_cons.mp h with h9 | h9
      · exact Or.inl h9
      · have hg := lpairs_ge h9
        refine Or.inr ⟨?_, by omega, by omega⟩
        clear h
        cases a with
        | none => exact h9
        | some w => exact List.mem_cons_of_mem _ h9
    | succ i =>
      have key : ∀ (a' : Option Value), (∀ w, a' = some w → a = some w ∧ ¬ (i = 0 ∧ w.category = 2)) → q ∈ lpairs ad b (a' :: lset t i v) → q = (b + (i + 1), cvv ad v) ∨ (q ∈ lpairs ad b (a :: t) ∧ q.1 ≠ b + (i + 1) ∧ ¬ (q.1 + 1 = b + (i + 1) ∧ q.2.category = 2)) := by
        intro a' ha h
        have tail : q ∈ lpairs ad (b + 1) (lset t i v) → q = (b + (i + 1), cvv ad v) ∨ (q ∈ lpairs ad b (a :: t) ∧ q.1 ≠ b + (i + 1) ∧ ¬ (q.1 + 1 = b + (i + 1) ∧ q.2.category = 2)) := by
          intro h
          rcases ih h with h | ⟨h1, h2, h3⟩
          · left; rw [h, show b + 1 + i = b + (i + 1) by omega]
          · right
            refine ⟨?_, by omega, fun z => h3 ⟨by omega, z.2⟩⟩
            cases a with
            | none => exact h1
            | some w => exact List.mem_cons_of_mem _ h1
        cases a' with
        | none => exact tail h
        | some w =>
          obtain ⟨e1, e2⟩ := ha w rfl
          rcases List.mem_cons.mp h with h | h
          · right
            subst h
            subst e1
            refine ⟨List.mem_cons_self, by show b ≠ _; omega, fun z => e2 ⟨?_, ?_⟩⟩
            · have := z.1
              have : b + 1 = b + (i + 1) := this
              omega
            · have := z.2
              rwa [show ((b, cvv ad w) : Nat × Value).2 = cvv ad w from rfl, cvv_cat] at this
          · exact tail h
      cases i with
      | zero =>
        refine key (lclr a) (fun w hw => ?_) h
        cases a with
        | none => cases hw
        | some u => cases u <;> first | (cases hw; exact ⟨rfl, fun z => by cases z.2⟩) | cases hw
      | succ i => exact key a (fun w hw => ⟨hw, fun z => by cases z.1⟩) h
theorem lpairs_lcut {ad : Nat → Nat} : ∀ {L : List (Option Value)} {i b : Nat} {q : Nat × Value}, q ∈ lpairs ad b (lcut L i) → q ∈ lpairs ad b L ∧ q.1 ≠ b + i := by
  intro L
  induction L with
  | nil => intro i b q h; cases h
  | cons a t ih =>
    intro i b q h
    cases i with
    | zero =>
      have hg := lpairs_ge (b := b + 1) (L := t) h
      refine ⟨?_, by omega⟩
      cases a with
      | none => exact h
      | some w => exact List.mem_cons_of_mem _ h
    | succ i =>
      cases a with
      | none =>
        obtain ⟨h1, h2⟩ := ih (b := b + 1) h
        exact ⟨h1, by omega⟩
      | some w =>
        rcases List.mem_cons.mp h with h | h
        · subst h
          exact ⟨List.mem_cons_self, by show b ≠ _; omega⟩
        · obtain ⟨h1, h2⟩ := ih (b := b + 1) h
          exact ⟨List.mem_cons_of_mem _ h1, by omega⟩
theorem lh_sub {ls : Array Slot} {nL : Nat} {l l' : List (Nat × Value)} (h : lv_has ls nL l) (hs : ∀ q ∈ l', q ∈ l) : lv_has ls nL l' := ⟨h.1, h.2.1, fun q hq => h.2.2 q (hs q hq)⟩
theorem lh_set {ad : Nat → Nat} {ls : Array Slot} {nL i : Nat} {L : List (Option Value)} {v : Value} {l' : List (Nat × Value)} (h : lv_has ls nL ((i, cvv ad v) :: (lpairs ad 0 L).filter (fun q => !(q.1 == i) && !(q.1 + 1 == i && q.2.category == 2)))) : lv_has ls nL (lpairs ad 0 (lset L i v)) := by
  refine lh_sub h fun q hq => ?_
  rcases lpairs_lset hq with e | ⟨h1, h2, h3⟩
  · rw [e, Nat.zero_add]; exact List.mem_cons_self
  · refine List.mem_cons_of_mem _ (List.mem_filter.mpr ⟨h1, ?_⟩)
    simp only [Nat.zero_add] at h2 h3
    simp only [Bool.and_eq_true, Bool.not_eq_true', beq_eq_false_iff_ne, Bool.and_eq_false_imp, beq_iff_eq, ne_eq]
    exact ⟨h2, fun a hb => h3 ⟨a, hb⟩⟩
theorem lh_set2 {ad : Nat → Nat} {ls : Array Slot} {nL i : Nat} {L : List (Option Value)} {v : Value} (h : lv_has ls nL ((i, cvv ad v) :: (lpairs ad 0 L).filter (fun q => !(q.1 == i) && (!(q.1 == i + 1) && !(q.1 + 1 == i && q.2.category == 2))))) : lv_has ls nL (lpairs ad 0 (lset2 L i v)) := by
  refine lh_sub h fun q hq => ?_
  obtain ⟨hq, hc⟩ := lpairs_lcut hq
  rcases lpairs_lset hq with e | ⟨h1, h2, h3⟩
  · rw [e, Nat.zero_add]; exact List.mem_cons_self
  · refine List.mem_cons_of_mem _ (List.mem_filter.mpr ⟨h1, ?_⟩)
    simp only [Nat.zero_add] at h2 h3 hc
    simp only [Bool.and_eq_true, Bool.not_eq_true', beq_eq_false_iff_ne, Bool.and_eq_false_imp, beq_iff_eq, ne_eq]
    exact ⟨h2, hc, fun a hb => h3 ⟨a, hb⟩⟩
/-- the locals at a method's entry -/
def lentA : List Value → List (Option Value)
  | [] => []
  | .long x :: t => some (.long x) :: none :: lentA t
  | .double x :: t => some (.double x) :: none :: lentA t
  | v :: t => some v :: lentA t
def lpad (n : Nat) (L : List (Option Value)) : List (Option Value) := L ++ List.replicate (n - L.length) none
theorem lpairs_none {ad : Nat → Nat} : ∀ {k b : Nat}, lpairs ad b (List.replicate k none) = [] := by
  intro k
  induction k with
  | zero => intro b; rfl
  | succ k ih => intro b; exact ih
theorem lpairs_app {ad : Nat → Nat} : ∀ {L M : List (Option Value)} {b : Nat}, lpairs ad b (L ++ M) = lpairs ad b L ++ lpairs ad (b + L.length) M := by
  intro L
  induction L with
  | nil => intro M b; rfl
  | cons a t ih =>
    intro M b
    have e : b + 1 + t.length = b + (a :: t).length := by simp only [List.length_cons]; omega
    cases a with
    | none =>
      show lpairs ad (b + 1) (t ++ M) = lpairs ad (b + 1) t ++ _
      rw [ih, e]
    | some v =>
      show (b, cvv ad v) :: lpairs ad (b + 1) (t ++ M) = (b, cvv ad v) :: lpairs ad (b + 1) t ++ _
      rw [ih, e]; rfl
theorem lentA_args {ad : Nat → Nat} : ∀ {As : List Value} {b : Nat}, lpairs ad b (lentA As) = lv_args b (As.map (cvv ad)) := by
  intro As
  induction As with
  | nil => intro b; rfl
  | cons v t ih =>
    intro b
    cases v <;> (first | (show (b, _) :: lpairs ad (b + 1) (lentA t) = (b, _) :: lv_args (b + 1) _; rw [ih]) | (show (b, _) :: lpairs ad (b + 2) (lentA t) = (b, _) :: lv_args (b + 2) _; rw [ih]))
theorem lentA_len {ad : Nat → Nat} : ∀ {As : List Value}, (lg_sl (As.map (cvv ad))).length = (lentA As).length := by
  intro As
  induction As with
  | nil => rfl
  | cons v t ih =>
    have e : lg_sl ((v :: t).map (cvv ad)) = (if (cvv ad v).category = 2 then [.val (cvv ad v), .second] else [.val (cvv ad v)]) ++ lg_sl (t.map (cvv ad)) := by
      simp [lg_sl]
    rw [e, List.length_append, ih, cvv_cat]
    cases v <;> simp [lentA, Value.category] <;> omega
/-! ===== contracts ===== -/
def kQ (sh : Nat → kSh) (N : Nat) (D : va_G) (ad : Nat → Nat) (τ : Nat → ClassId) (A : Nat → Prop) (Φ : Option Value → kMem → Prop) : Array Value → State → Outcome → State → Prop := fun _ st o t =>
  (∃ (v : Option Value) (μ : kMem), o = .returned v ∧ Φ v μ ∧ va_P D vwCl (wl sh N ad τ μ) t.heap) ∧ va_F A st t
def kB (sh : Nat → kSh) (N : Nat) (D : va_G) (ad : Nat → Nat) (τ : Nat → ClassId) (sz : Nat) (μ : kMem) : State → Prop := fun U =>
  U.heap.size = sz ∧ va_P D vwCl (wl sh N ad τ μ) U.heap ∧ va_D (fun _ => True) (wl sh N ad τ μ) ∧ kE ad τ D (va_A (wl sh N ad τ μ) sz) U U.heap
/-- method y, called with the values As in the memory μ, returns, and Φ holds of its answer and the memory behind it -/
def kOk (y : MethodName) (bytes : ByteArray) (maxL : Nat) (ret : Option FieldType) (rm : Room) (sh : Nat → kSh) (N : Nat) (As : List Value) (μ : kMem) (Φ : Option Value → kMem → Prop) : Prop :=
  ∀ (l : Launch) (D : va_G) (ad : Nat → Nat) (τ : Nat → ClassId) (sz : Nat), Met l y (.code y bytes maxL ret :: WG) rm (va_Pc (As.map (cvv ad)) (kB sh N D ad τ sz μ)) (kQ sh N D ad τ (va_A (wl sh N ad τ μ) sz) Φ) 0 0 (va_A (wl sh N ad τ μ) sz)
abbrev kJ : Type := Nat → List (Option Value) → List Value → kMem → Prop
def kC (p : Program) (s : State) (m : MethodId) (args : Array Value) (meth : Method) (c : Code) (cc : ByteArray) (own : String) (nL : Nat) (sh : Nat → kSh) (N : Nat) (ret : Option FieldType) (D : va_G) (ad : Nat → Nat) (τ : Nat → ClassId) (A : Nat → Prop) : Prop :=
  p.tables.exec = Jvm.exec ∧ c.code = cc ∧ c.maxLocals = nL ∧ meth.sig.returnType = ret ∧ meth.locks = false ∧ s.vm.findClass own = some m.cls ∧ (∀ w ∈ WG, w.before args s = true) ∧ (∀ μ : kMem, va_D A (wl sh N ad τ μ)) ∧ kE ad τ D A s s.heap ∧ ∀ q, s.heap.size ≤ q → A q
/-- J says of a place, locals, stack and memory that the method comes from there to a return of which Φ holds -/
def kR (cc : ByteArray) (own : String) (nL : Nat) (R : Room) (sh : Nat → kSh) (N : Nat) (ret : Option FieldType) (Φ : Option Value → kMem → Prop) (J : kJ) : Prop :=
  ∃ (p : Program) (l : Launch) (e : Env) (s : State) (m : MethodId) (args : Array Value) (below : List Frame) (meth : Method) (c : Code) (D : va_G) (ad : Nat → Nat) (τ : Nat → ClassId) (A : Nat → Prop),
    kC p s m args meth c cc own nL sh N ret D ad τ A ∧
    J = fun pc L st μ => ∀ (H : Heap) (locs : List Loc) (ls : Array Slot), va_P D vwCl (wl sh N ad τ μ) H → va_S A s.heap H locs → lv_has ls nL (lpairs ad 0 L) → W p l e R s m args below meth c H locs 0 0 (MQ below (kQ sh N D ad τ A Φ) args s 0 0 A) (F0 m pc ls (st.map (cvv ad)))
theorem kOk.of {y : MethodName} {bytes : ByteArray} {maxL : Nat} {ret : Option FieldType} {rm : Room} {sh : Nat → kSh} {N : Nat} {As : List Value} {μ : kMem} {Φ : Option Value → kMem → Prop} (hy : plainName y.cls = true) (hn : (lentA As).length ≤ maxL)
    (body : ∀ J : kJ, kR bytes y.cls maxL rm sh N ret Φ J → J 0 (lpad maxL (lentA As)) [] μ) : kOk y bytes maxL ret rm sh N As μ Φ := by
  intro l D ad τ sz
  refine Met.ofW (cc := bytes) (maxL := maxL) (ret := ret) hy rfl ?_
  intro p e s m args below meth c s₁ B hml hv
  obtain ⟨rfl, hsz, hP, hD0, hE⟩ := hv
  subst hsz
  have hts := atoms_spec (ws := Cond.code y bytes maxL ret :: WG) B.pre
  have hown : s.vm.findClass y.cls = some m.cls := findClass_of_methodNamed B.named
  have hD : ∀ μ' : kMem, va_D (va_A (wl sh N ad τ μ) s.heap.size) (wl sh N ad τ μ') := fun μ' => va_D_wl hD0 (fun i hi _ => va_A.in (wl_get hi))
  have hA : ∀ q : Nat, s.heap.size ≤ q → va_A (wl sh N ad τ μ) s.heap.size q := fun q h => Or.inr h
  have hl := lv_entry (As.map (cvv ad)) (n := maxL) (by rw [lentA_len]; exact hn)
  rw [lg_entry_eq]
  have K := body _ ⟨p, l, e, s, m, (As.map (cvv ad)).toArray, below, meth, c, D, ad, τ, _, ⟨B.exec, B.bytes, hml, B.returns, B.notSynchronized, hown, fun w hw => hts w (List.mem_cons_of_mem _ hw), hD, hE, hA⟩, rfl⟩
  refine K s.heap [] _ hP va_S.rf ?_
  rw [← lentA_args] at hl
  refine lh_sub hl fun q hq => ?_
  rw [lpad, lpairs_app, lpairs_none, List.append_nil] at hq
  exact hq
def kI (Ψ : Int32 → kMem → Prop) : Option Value → kMem → Prop := fun v μ => ∃ x : Int32, v = some (.int x) ∧ Ψ x μ
def kL (Ψ : Int64 → kMem → Prop) : Option Value → kMem → Prop := fun v μ => ∃ x : Int64, v = some (.long x) ∧ Ψ x μ
def kN (Ψ : kMem → Prop) : Option Value → kMem → Prop := fun v μ => v = none ∧ Ψ μ
abbrev kP (x : Int32) (μ0 : kMem) : Option Value → kMem → Prop := kI (fun r μ => r = x ∧ μ = μ0)
abbrev kPL (x : Int64) (μ0 : kMem) : Option Value → kMem → Prop := kL (fun r μ => r = x ∧ μ = μ0)
/-- a method of an object, as the tables have it -/
def kYv (y : MethodName) (bytes : ByteArray) (maxL : Nat) (ret : Option FieldType) (n : Nat) : Prop :=
  Cond.instanceMethod y ∈ WG ∧ Cond.selects y.cls y y ∈ WG ∧ Cond.initialized y.cls ∈ WG ∧ Cond.code y bytes maxL ret ∈ WG ∧ y.cls ≠ "java/lang/invoke/MethodHandle" ∧ y.cls ≠ "java/lang/invoke/VarHandle" ∧ (parseMethodDescriptor y.desc).map (fun d => d.parameters.length) = some n
/-- a static one -/
def kYs (y : MethodName) (bytes : ByteArray) (maxL : Nat) (ret : Option FieldType) (n : Nat) : Prop :=
  Cond.static y ∈ WG ∧ Cond.initialized y.cls ∈ WG ∧ Cond.code y bytes maxL ret ∈ WG ∧ y.cls ≠ "java/lang/invoke/MethodHandle" ∧ y.cls ≠ "java/lang/invoke/VarHandle" ∧ (parseMethodDescriptor y.desc).map (fun d => d.parameters.length) = some n
/-- a field, as the tables have it -/
def kFd (own : String) (idx ci k : Nat) : Prop :=
  ∃ (C : String) (T : u_T) (n : Nat), vwCl[ci]? = some (C, T, n) ∧ k < n ∧ (∀ w ∈ u_ws C T n, w ∈ WG) ∧ Cond.fieldLink own idx (T k).1 (T k).2.1 (T k).2.2.1 ∈ WG
/-- .. an int that isn't final -/
def kFw (own : String) (idx ci k : Nat) : Prop :=
  ∃ (C : String) (T : u_T) (n : Nat) (ty : Nat → FieldType), vwCl[ci]? = some (C, T, n) ∧ k < n ∧ (∀ w ∈ u_ws C T n, w ∈ WG) ∧ Cond.fieldLink own idx (T k).1 (T k).2.1 (T k).2.2.1 ∈ WG ∧ (∀ k, k < n → parseFieldDescriptor (T k).2.2.1 = some (ty k)) ∧ (∀ a, a < n → ∀ b, b < n → a ≠ b → (T a).2.1 ≠ (T b).2.1) ∧ (T k).2.2.2 = false ∧ (T k).2.2.1 = "I"
def kroom (rm R : Room) (maxL : Nat) : Bool := rm.cells == 0 && rm.slots == 0 && Nat.ble (rm.frames + 1) R.frames && Nat.ble (8 + (maxL + 11) + rm.locals) R.locals
theorem kroom_of {rm R : Room} {maxL : Nat} (h : kroom rm R maxL = true) : rm.cells = 0 ∧ rm.slots = 0 ∧ rm.frames + 1 ≤ R.frames ∧ 8 + (maxL + 11) + rm.locals ≤ R.locals := by
  simp only [kroom, Bool.and_eq_true, beq_iff_eq, Nat.ble_eq] at h
  exact ⟨h.1.1.1, h.1.1.2, h.1.2, h.2⟩
def krem (x y : Int32) : Int32 := x - x / y * y
def kremL (x y : Int64) : Int64 := x - x / y * y
def kushr (x y : Int32) : Int32 := (x.toUInt32 >>> (y.toUInt32 &&& Int32.toUInt32 31)).toInt32
end
section
/-! ===== a row an instruction, over kR ===== -/
theorem ti_eq {x y : Int32} : x = y ↔ x.toInt = y.toInt := Int32.toInt_inj.symm
theorem ti_eq0 {x : Int32} : x = 0 ↔ x.toInt = 0 := by rw [ti_eq, Int32.toInt_zero]
theorem ti_lt0 {x : Int32} : x < 0 ↔ x.toInt < 0 := by rw [Int32.lt_iff_toInt_lt, Int32.toInt_zero]
theorem ti_le0 {x : Int32} : x ≤ 0 ↔ x.toInt ≤ 0 := by rw [Int32.le_iff_toInt_le, Int32.toInt_zero]
theorem ti_0lt {x : Int32} : 0 < x ↔ 0 < x.toInt := by rw [Int32.lt_iff_toInt_lt, Int32.toInt_zero]
theorem ti_0le {x : Int32} : 0 ≤ x ↔ 0 ≤ x.toInt := by rw [Int32.le_iff_toInt_le, Int32.toInt_zero]
section KR
variable {cc : ByteArray} {own : String} {nL : Nat} {R : Room} {sh : Nat → kSh} {N : Nat} {ret : Option FieldType} {Φ : Option Value → kMem → Prop} {J : kJ} {pc : Nat} {L : List (Option Value)} {st : List Value} {μ : kMem}
theorem r_iconst (C : kR cc own nL R sh N ret Φ J) {n : Int} (hd : decode cc pc = .ok (.iconst n, 1)) (k : J (pc + 1) L (.int (Int32.ofInt n) :: st) μ) : J pc L (st) μ := by
  obtain ⟨p, l, e, s, m, args, below, meth, c, D, ad, τ, A, ⟨hx, hb, hml, hr, hlk, hown, hw, hD, hE, hA⟩, rfl⟩ := C
  intro H locs ls hP hS hl
  exact lv_iconst hx hb hd rfl (k H locs ls hP hS hl)
theorem r_bipush (C : kR cc own nL R sh N ret Φ J) {n : Int} (hv : (Int8.ofInt n).toInt32 = Int32.ofInt n) (hd : decode cc pc = .ok (.bipush n, 2)) (k : J (pc + 2) L (.int (Int32.ofInt n) :: st) μ) : J pc L (st) μ := by
  obtain ⟨p, l, e, s, m, args, below, meth, c, D, ad, τ, A, ⟨hx, hb, hml, hr, hlk, hown, hw, hD, hE, hA⟩, rfl⟩ := C
  intro H locs ls hP hS hl
  exact lv_bipush hx hb hd hv (k H locs ls hP hS hl)
theorem r_sipush (C : kR cc own nL R sh N ret Φ J) {n : Int} (hv : (Int16.ofInt n).toInt32 = Int32.ofInt n) (hd : decode cc pc = .ok (.sipush n, 3)) (k : J (pc + 3) L (.int (Int32.ofInt n) :: st) μ) : J pc L (st) μ := by
  obtain ⟨p, l, e, s, m, args, below, meth, c, D, ad, τ, A, ⟨hx, hb, hml, hr, hlk, hown, hw, hD, hE, hA⟩, rfl⟩ := C
  intro H locs ls hP hS hl
  exact lv_sipush hx hb hd hv (k H locs ls hP hS hl)
theorem r_lconst (C : kR cc own nL R sh N ret Φ J) {n : Fin 2} {v : Int64} (hv : Int64.ofNat (n : Nat) = v) (hd : decode cc pc = .ok (.lconst n, 1)) (k : J (pc + 1) L (.long v :: st) μ) : J pc L (st) μ := by
  obtain ⟨p, l, e, s, m, args, below, meth, c, D, ad, τ, A, ⟨hx, hb, hml, hr, hlk, hown, hw, hD, hE, hA⟩, rfl⟩ := C
  intro H locs ls hP hS hl
  exact lv_lconst hx hb hd hv (k H locs ls hP hS hl)
theorem r_ldc (C : kR cc own nL R sh N ret Φ J) {i : Nat} {v : Int32} (hc : Cond.constant own i v ∈ WG) (hd : decode cc pc = .ok (.ldc i, 2)) (k : J (pc + 2) L (.int v :: st) μ) : J pc L (st) μ := by
  obtain ⟨p, l, e, s, m, args, below, meth, c, D, ad, τ, A, ⟨hx, hb, hml, hr, hlk, hown, hw, hD, hE, hA⟩, rfl⟩ := C
  intro H locs ls hP hS hl
  exact lv_ldc hx hb hown (hw _ hc) hd (k H locs ls hP hS hl)
theorem r_ldcw (C : kR cc own nL R sh N ret Φ J) {i : Nat} {v : Int32} (hc : Cond.constant own i v ∈ WG) (hd : decode cc pc = .ok (.ldc_w i, 3)) (k : J (pc + 3) L (.int v :: st) μ) : J pc L (st) μ := by
  obtain ⟨p, l, e, s, m, args, below, meth, c, D, ad, τ, A, ⟨hx, hb, hml, hr, hlk, hown, hw, hD, hE, hA⟩, rfl⟩ := C
  intro H locs ls hP hS hl
  exact lv_ldcw hx hb hown (hw _ hc) hd (k H locs ls hP hS hl)
theorem r_ldc2 (C : kR cc own nL R sh N ret Φ J) {i : Nat} {v : Int64} (hc : Cond.constantLong own i v ∈ WG) (hd : decode cc pc = .ok (.ldc2_w i, 3)) (k : J (pc + 3) L (.long v :: st) μ) : J pc L (st) μ := by
  obtain ⟨p, l, e, s, m, args, below, meth, c, D, ad, τ, A, ⟨hx, hb, hml, hr, hlk, hown, hw, hD, hE, hA⟩, rfl⟩ := C
  intro H locs ls hP hS hl
  exact lv_ldc2 hx hb hown (hw _ hc) hd (k H locs ls hP hS hl)
theorem r_iload_n (C : kR cc own nL R sh N ret Φ J) {q : Fin 4} {i : Nat} {x : Int32} (hi : (q : Nat) = i) (hg : lg L i = some (.int x)) (hd : decode cc pc = .ok (.iload_n q, 1)) (k : J (pc + 1) L (.int x :: st) μ) : J pc L (st) μ := by
  obtain ⟨p, l, e, s, m, args, below, meth, c, D, ad, τ, A, ⟨hx, hb, hml, hr, hlk, hown, hw, hD, hE, hA⟩, rfl⟩ := C
  intro H locs ls hP hS hl
  exact lv_iload_n hx hb hd hi (hl.2.2 _ (by have h9 := lpairs_lg (ad := ad) (b := 0) hg; rw [Nat.zero_add] at h9; exact h9)) (k H locs ls hP hS hl)
theorem r_iload (C : kR cc own nL R sh N ret Φ J) {i : Nat} {x : Int32} (hg : lg L i = some (.int x)) (hd : decode cc pc = .ok (.iload i, 2)) (k : J (pc + 2) L (.int x :: st) μ) : J pc L (st) μ := by
  obtain ⟨p, l, e, s, m, args, below, meth, c, D, ad, τ, A, ⟨hx, hb, hml, hr, hlk, hown, hw, hD, hE, hA⟩, rfl⟩ := C
  intro H locs ls hP hS hl
  exact lv_iload hx hb hd (hl.2.2 _ (by have h9 := lpairs_lg (ad := ad) (b := 0) hg; rw [Nat.zero_add] at h9; exact h9)) (k H locs ls hP hS hl)
theorem r_lload_n (C : kR cc own nL R sh N ret Φ J) {q : Fin 4} {i : Nat} {x : Int64} (hi : (q : Nat) = i) (hg : lg L i = some (.long x)) (hd : decode cc pc = .ok (.lload_n q, 1)) (k : J (pc + 1) L (.long x :: st) μ) : J pc L (st) μ := by
  obtain ⟨p, l, e, s, m, args, below, meth, c, D, ad, τ, A, ⟨hx, hb, hml, hr, hlk, hown, hw, hD, hE, hA⟩, rfl⟩ := C
  intro H locs ls hP hS hl
  exact lv_lload_n hx hb hd hi (hl.2.2 _ (by have h9 := lpairs_lg (ad := ad) (b := 0) hg; rw [Nat.zero_add] at h9; exact h9)) (k H locs ls hP hS hl)
theorem r_lload (C : kR cc own nL R sh N ret Φ J) {i : Nat} {x : Int64} (hg : lg L i = some (.long x)) (hd : decode cc pc = .ok (.lload i, 2)) (k : J (pc + 2) L (.long x :: st) μ) : J pc L (st) μ := by
  obtain ⟨p, l, e, s, m, args, below, meth, c, D, ad, τ, A, ⟨hx, hb, hml, hr, hlk, hown, hw, hD, hE, hA⟩, rfl⟩ := C
  intro H locs ls hP hS hl
  exact lv_lload hx hb hd (hl.2.2 _ (by have h9 := lpairs_lg (ad := ad) (b := 0) hg; rw [Nat.zero_add] at h9; exact h9)) (k H locs ls hP hS hl)
theorem r_aload_n (C : kR cc own nL R sh N ret Φ J) {q : Fin 4} {i : Nat} {x : Nat} (hi : (q : Nat) = i) (hg : lg L i = some (.ref x)) (hd : decode cc pc = .ok (.aload_n q, 1)) (k : J (pc + 1) L (.ref x :: st) μ) : J pc L (st) μ := by
  obtain ⟨p, l, e, s, m, args, below, meth, c, D, ad, τ, A, ⟨hx, hb, hml, hr, hlk, hown, hw, hD, hE, hA⟩, rfl⟩ := C
  intro H locs ls hP hS hl
  exact lv_aload_n hx hb hd hi (hl.2.2 _ (by have h9 := lpairs_lg (ad := ad) (b := 0) hg; rw [Nat.zero_add] at h9; exact h9)) (k H locs ls hP hS hl)
theorem r_aload (C : kR cc own nL R sh N ret Φ J) {i : Nat} {x : Nat} (hg : lg L i = some (.ref x)) (hd : decode cc pc = .ok (.aload i, 2)) (k : J (pc + 2) L (.ref x :: st) μ) : J pc L (st) μ := by
  obtain ⟨p, l, e, s, m, args, below, meth, c, D, ad, τ, A, ⟨hx, hb, hml, hr, hlk, hown, hw, hD, hE, hA⟩, rfl⟩ := C
  intro H locs ls hP hS hl
  exact lv_aload hx hb hd (hl.2.2 _ (by have h9 := lpairs_lg (ad := ad) (b := 0) hg; rw [Nat.zero_add] at h9; exact h9)) (k H locs ls hP hS hl)
theorem r_istore_n (C : kR cc own nL R sh N ret Φ J) {q : Fin 4} {i : Nat} {x : Int32} (hi : (q : Nat) = i) (hn : i < nL) (hd : decode cc pc = .ok (.istore_n q, 1)) (k : J (pc + 1) (lset L i (.int x)) st μ) : J pc L (.int x :: st) μ := by
  obtain ⟨p, l, e, s, m, args, below, meth, c, D, ad, τ, A, ⟨hx, hb, hml, hr, hlk, hown, hw, hD, hE, hA⟩, rfl⟩ := C
  intro H locs ls hP hS hl
  exact lv_istore_n hx hb hd hi hl hn rfl (fun ls1 hl1 => k H locs ls1 hP hS (lh_set (l' := []) hl1))
theorem r_istore (C : kR cc own nL R sh N ret Φ J) {i : Nat} {x : Int32} (hn : i < nL) (hd : decode cc pc = .ok (.istore i, 2)) (k : J (pc + 2) (lset L i (.int x)) st μ) : J pc L (.int x :: st) μ := by
  obtain ⟨p, l, e, s, m, args, below, meth, c, D, ad, τ, A, ⟨hx, hb, hml, hr, hlk, hown, hw, hD, hE, hA⟩, rfl⟩ := C
  intro H locs ls hP hS hl
  exact lv_istore hx hb hd hl hn rfl (fun ls1 hl1 => k H locs ls1 hP hS (lh_set (l' := []) hl1))
theorem r_astore_n (C : kR cc own nL R sh N ret Φ J) {q : Fin 4} {i : Nat} {x : Nat} (hi : (q : Nat) = i) (hn : i < nL) (hd : decode cc pc = .ok (.astore_n q, 1)) (k : J (pc + 1) (lset L i (.ref x)) st μ) : J pc L (.ref x :: st) μ := by
  obtain ⟨p, l, e, s, m, args, below, meth, c, D, ad, τ, A, ⟨hx, hb, hml, hr, hlk, hown, hw, hD, hE, hA⟩, rfl⟩ := C
  intro H locs ls hP hS hl
  exact lv_astore_n hx hb hd hi hl hn rfl (fun ls1 hl1 => k H locs ls1 hP hS (lh_set (l' := []) hl1))
theorem r_astore (C : kR cc own nL R sh N ret Φ J) {i : Nat} {x : Nat} (hn : i < nL) (hd : decode cc pc = .ok (.astore i, 2)) (k : J (pc + 2) (lset L i (.ref x)) st μ) : J pc L (.ref x :: st) μ := by
  obtain ⟨p, l, e, s, m, args, below, meth, c, D, ad, τ, A, ⟨hx, hb, hml, hr, hlk, hown, hw, hD, hE, hA⟩, rfl⟩ := C
  intro H locs ls hP hS hl
  exact lv_astore hx hb hd hl hn rfl (fun ls1 hl1 => k H locs ls1 hP hS (lh_set (l' := []) hl1))
theorem r_lstore_n (C : kR cc own nL R sh N ret Φ J) {q : Fin 4} {i : Nat} {x : Int64} (hi : (q : Nat) = i) (hn : i + 1 < nL) (hd : decode cc pc = .ok (.lstore_n q, 1)) (k : J (pc + 1) (lset2 L i (.long x)) st μ) : J pc L (.long x :: st) μ := by
  obtain ⟨p, l, e, s, m, args, below, meth, c, D, ad, τ, A, ⟨hx, hb, hml, hr, hlk, hown, hw, hD, hE, hA⟩, rfl⟩ := C
  intro H locs ls hP hS hl
  exact lv_lstore_n hx hb hd hi hl hn rfl (fun ls1 hl1 => k H locs ls1 hP hS (lh_set2 hl1))
theorem r_lstore (C : kR cc own nL R sh N ret Φ J) {i : Nat} {x : Int64} (hn : i + 1 < nL) (hd : decode cc pc = .ok (.lstore i, 2)) (k : J (pc + 2) (lset2 L i (.long x)) st μ) : J pc L (.long x :: st) μ := by
  obtain ⟨p, l, e, s, m, args, below, meth, c, D, ad, τ, A, ⟨hx, hb, hml, hr, hlk, hown, hw, hD, hE, hA⟩, rfl⟩ := C
  intro H locs ls hP hS hl
  exact lv_lstore hx hb hd hl hn rfl (fun ls1 hl1 => k H locs ls1 hP hS (lh_set2 hl1))
theorem r_iinc (C : kR cc own nL R sh N ret Φ J) {i : Nat} {n : Int} {x : Int32} (hg : lg L i = some (.int x)) (hn : i < nL) (hd : decode cc pc = .ok (.iinc i n, 3)) (k : J (pc + 3) (lset L i (.int (x + Int32.ofInt n))) st μ) : J pc L st μ := by
  obtain ⟨p, l, e, s, m, args, below, meth, c, D, ad, τ, A, ⟨hx, hb, hml, hr, hlk, hown, hw, hD, hE, hA⟩, rfl⟩ := C
  intro H locs ls hP hS hl
  have h9 := lpairs_lg (ad := ad) (b := 0) hg
  rw [Nat.zero_add] at h9
  obtain ⟨j, hj⟩ := List.getElem?_of_mem h9
  exact lv_iinc (k := j) hx hb hd hl hj rfl hn rfl (fun ls1 hl1 => k H locs ls1 hP hS (lh_set (l' := []) hl1))
theorem r_iadd (C : kR cc own nL R sh N ret Φ J) {x y : Int32} (hd : decode cc pc = .ok (.iadd, 1)) (k : J (pc + 1) L (.int (x + y) :: st) μ) : J pc L (.int y :: .int x :: st) μ := by
  obtain ⟨p, l, e, s, m, args, below, meth, c, D, ad, τ, A, ⟨hx, hb, hml, hr, hlk, hown, hw, hD, hE, hA⟩, rfl⟩ := C
  intro H locs ls hP hS hl
  exact lv_iadd hx hb hd (k H locs ls hP hS hl)
theorem r_isub (C : kR cc own nL R sh N ret Φ J) {x y : Int32} (hd : decode cc pc = .ok (.isub, 1)) (k : J (pc + 1) L (.int (x - y) :: st) μ) : J pc L (.int y :: .int x :: st) μ := by
  obtain ⟨p, l, e, s, m, args, below, meth, c, D, ad, τ, A, ⟨hx, hb, hml, hr, hlk, hown, hw, hD, hE, hA⟩, rfl⟩ := C
  intro H locs ls hP hS hl
  exact lv_isub hx hb hd (k H locs ls hP hS hl)
theorem r_imul (C : kR cc own nL R sh N ret Φ J) {x y : Int32} (hd : decode cc pc = .ok (.imul, 1)) (k : J (pc + 1) L (.int (x * y) :: st) μ) : J pc L (.int y :: .int x :: st) μ := by
  obtain ⟨p, l, e, s, m, args, below, meth, c, D, ad, τ, A, ⟨hx, hb, hml, hr, hlk, hown, hw, hD, hE, hA⟩, rfl⟩ := C
  intro H locs ls hP hS hl
  exact lv_imul hx hb hd (k H locs ls hP hS hl)
theorem r_iand (C : kR cc own nL R sh N ret Φ J) {x y : Int32} (hd : decode cc pc = .ok (.iand, 1)) (k : J (pc + 1) L (.int (x &&& y) :: st) μ) : J pc L (.int y :: .int x :: st) μ := by
  obtain ⟨p, l, e, s, m, args, below, meth, c, D, ad, τ, A, ⟨hx, hb, hml, hr, hlk, hown, hw, hD, hE, hA⟩, rfl⟩ := C
  intro H locs ls hP hS hl
  exact lv_iand hx hb hd (k H locs ls hP hS hl)
theorem r_ior (C : kR cc own nL R sh N ret Φ J) {x y : Int32} (hd : decode cc pc = .ok (.ior, 1)) (k : J (pc + 1) L (.int (x ||| y) :: st) μ) : J pc L (.int y :: .int x :: st) μ := by
  obtain ⟨p, l, e, s, m, args, below, meth, c, D, ad, τ, A, ⟨hx, hb, hml, hr, hlk, hown, hw, hD, hE, hA⟩, rfl⟩ := C
  intro H locs ls hP hS hl
  exact lv_ior hx hb hd (k H locs ls hP hS hl)
theorem r_ixor (C : kR cc own nL R sh N ret Φ J) {x y : Int32} (hd : decode cc pc = .ok (.ixor, 1)) (k : J (pc + 1) L (.int (x ^^^ y) :: st) μ) : J pc L (.int y :: .int x :: st) μ := by
  obtain ⟨p, l, e, s, m, args, below, meth, c, D, ad, τ, A, ⟨hx, hb, hml, hr, hlk, hown, hw, hD, hE, hA⟩, rfl⟩ := C
  intro H locs ls hP hS hl
  exact lv_ixor hx hb hd (k H locs ls hP hS hl)
theorem r_idiv (C : kR cc own nL R sh N ret Φ J) {x y : Int32} (hne : ¬ y = 0) (hd : decode cc pc = .ok (.idiv, 1)) (k : J (pc + 1) L (.int (x / y) :: st) μ) : J pc L (.int y :: .int x :: st) μ := by
  obtain ⟨p, l, e, s, m, args, below, meth, c, D, ad, τ, A, ⟨hx, hb, hml, hr, hlk, hown, hw, hD, hE, hA⟩, rfl⟩ := C
  intro H locs ls hP hS hl
  exact lv_idiv hx hb hd hne (k H locs ls hP hS hl)
theorem r_irem (C : kR cc own nL R sh N ret Φ J) {x y : Int32} (hne : ¬ y = 0) (hd : decode cc pc = .ok (.irem, 1)) (k : J (pc + 1) L (.int (krem x y) :: st) μ) : J pc L (.int y :: .int x :: st) μ := by
  obtain ⟨p, l, e, s, m, args, below, meth, c, D, ad, τ, A, ⟨hx, hb, hml, hr, hlk, hown, hw, hD, hE, hA⟩, rfl⟩ := C
  intro H locs ls hP hS hl
  exact lv_irem hx hb hd hne (k H locs ls hP hS hl)
theorem r_ineg (C : kR cc own nL R sh N ret Φ J) {x : Int32} (hd : decode cc pc = .ok (.ineg, 1)) (k : J (pc + 1) L (.int (-x) :: st) μ) : J pc L (.int x :: st) μ := by
  obtain ⟨p, l, e, s, m, args, below, meth, c, D, ad, τ, A, ⟨hx, hb, hml, hr, hlk, hown, hw, hD, hE, hA⟩, rfl⟩ := C
  intro H locs ls hP hS hl
  exact lv_ineg hx hb hd (k H locs ls hP hS hl)
theorem r_ishl (C : kR cc own nL R sh N ret Φ J) {x y : Int32} (hd : decode cc pc = .ok (.ishl, 1)) (k : J (pc + 1) L (.int (x <<< (y &&& 31)) :: st) μ) : J pc L (.int y :: .int x :: st) μ := by
  obtain ⟨p, l, e, s, m, args, below, meth, c, D, ad, τ, A, ⟨hx, hb, hml, hr, hlk, hown, hw, hD, hE, hA⟩, rfl⟩ := C
  intro H locs ls hP hS hl
  exact lv_ishl hx hb hd (k H locs ls hP hS hl)
theorem r_ishr (C : kR cc own nL R sh N ret Φ J) {x y : Int32} (hd : decode cc pc = .ok (.ishr, 1)) (k : J (pc + 1) L (.int (x >>> (y &&& 31)) :: st) μ) : J pc L (.int y :: .int x :: st) μ := by
  obtain ⟨p, l, e, s, m, args, below, meth, c, D, ad, τ, A, ⟨hx, hb, hml, hr, hlk, hown, hw, hD, hE, hA⟩, rfl⟩ := C
  intro H locs ls hP hS hl
  exact lv_ishr hx hb hd (k H locs ls hP hS hl)
theorem r_iushr (C : kR cc own nL R sh N ret Φ J) {x y : Int32} (hd : decode cc pc = .ok (.iushr, 1)) (k : J (pc + 1) L (.int (kushr x y) :: st) μ) : J pc L (.int y :: .int x :: st) μ := by
  obtain ⟨p, l, e, s, m, args, below, meth, c, D, ad, τ, A, ⟨hx, hb, hml, hr, hlk, hown, hw, hD, hE, hA⟩, rfl⟩ := C
  intro H locs ls hP hS hl
  exact lv_iushr hx hb hd rfl (k H locs ls hP hS hl)
theorem r_ladd (C : kR cc own nL R sh N ret Φ J) {x y : Int64} (hd : decode cc pc = .ok (.ladd, 1)) (k : J (pc + 1) L (.long (x + y) :: st) μ) : J pc L (.long y :: .long x :: st) μ := by
  obtain ⟨p, l, e, s, m, args, below, meth, c, D, ad, τ, A, ⟨hx, hb, hml, hr, hlk, hown, hw, hD, hE, hA⟩, rfl⟩ := C
  intro H locs ls hP hS hl
  exact lv_ladd hx hb hd (k H locs ls hP hS hl)
theorem r_lsub (C : kR cc own nL R sh N ret Φ J) {x y : Int64} (hd : decode cc pc = .ok (.lsub, 1)) (k : J (pc + 1) L (.long (x - y) :: st) μ) : J pc L (.long y :: .long x :: st) μ := by
  obtain ⟨p, l, e, s, m, args, below, meth, c, D, ad, τ, A, ⟨hx, hb, hml, hr, hlk, hown, hw, hD, hE, hA⟩, rfl⟩ := C
  intro H locs ls hP hS hl
  exact lv_lsub hx hb hd (k H locs ls hP hS hl)
theorem r_lmul (C : kR cc own nL R sh N ret Φ J) {x y : Int64} (hd : decode cc pc = .ok (.lmul, 1)) (k : J (pc + 1) L (.long (x * y) :: st) μ) : J pc L (.long y :: .long x :: st) μ := by
  obtain ⟨p, l, e, s, m, args, below, meth, c, D, ad, τ, A, ⟨hx, hb, hml, hr, hlk, hown, hw, hD, hE, hA⟩, rfl⟩ := C
  intro H locs ls hP hS hl
  exact lv_lmul hx hb hd (k H locs ls hP hS hl)
theorem r_land (C : kR cc own nL R sh N ret Φ J) {x y : Int64} (hd : decode cc pc = .ok (.land, 1)) (k : J (pc + 1) L (.long (x &&& y) :: st) μ) : J pc L (.long y :: .long x :: st) μ := by
  obtain ⟨p, l, e, s, m, args, below, meth, c, D, ad, τ, A, ⟨hx, hb, hml, hr, hlk, hown, hw, hD, hE, hA⟩, rfl⟩ := C
  intro H locs ls hP hS hl
  exact lv_land hx hb hd (k H locs ls hP hS hl)
theorem r_ldiv (C : kR cc own nL R sh N ret Φ J) {x y : Int64} (hne : ¬ y = 0) (hd : decode cc pc = .ok (.ldiv, 1)) (k : J (pc + 1) L (.long (x / y) :: st) μ) : J pc L (.long y :: .long x :: st) μ := by
  obtain ⟨p, l, e, s, m, args, below, meth, c, D, ad, τ, A, ⟨hx, hb, hml, hr, hlk, hown, hw, hD, hE, hA⟩, rfl⟩ := C
  intro H locs ls hP hS hl
  exact lv_ldiv hx hb hd hne (k H locs ls hP hS hl)
theorem r_lrem (C : kR cc own nL R sh N ret Φ J) {x y : Int64} (hne : ¬ y = 0) (hd : decode cc pc = .ok (.lrem, 1)) (k : J (pc + 1) L (.long (kremL x y) :: st) μ) : J pc L (.long y :: .long x :: st) μ := by
  obtain ⟨p, l, e, s, m, args, below, meth, c, D, ad, τ, A, ⟨hx, hb, hml, hr, hlk, hown, hw, hD, hE, hA⟩, rfl⟩ := C
  intro H locs ls hP hS hl
  exact lv_lrem hx hb hd hne (k H locs ls hP hS hl)
theorem r_i2l (C : kR cc own nL R sh N ret Φ J) {x : Int32} (hd : decode cc pc = .ok (.i2l, 1)) (k : J (pc + 1) L (.long x.toInt64 :: st) μ) : J pc L (.int x :: st) μ := by
  obtain ⟨p, l, e, s, m, args, below, meth, c, D, ad, τ, A, ⟨hx, hb, hml, hr, hlk, hown, hw, hD, hE, hA⟩, rfl⟩ := C
  intro H locs ls hP hS hl
  exact lv_i2l hx hb hd rfl (k H locs ls hP hS hl)
theorem r_l2i (C : kR cc own nL R sh N ret Φ J) {x : Int64} (hd : decode cc pc = .ok (.l2i, 1)) (k : J (pc + 1) L (.int x.toInt32 :: st) μ) : J pc L (.long x :: st) μ := by
  obtain ⟨p, l, e, s, m, args, below, meth, c, D, ad, τ, A, ⟨hx, hb, hml, hr, hlk, hown, hw, hD, hE, hA⟩, rfl⟩ := C
  intro H locs ls hP hS hl
  exact lv_l2i hx hb hd rfl (k H locs ls hP hS hl)
theorem r_i2b (C : kR cc own nL R sh N ret Φ J) {x : Int32} (hd : decode cc pc = .ok (.i2b, 1)) (k : J (pc + 1) L (.int x.toInt8.toInt32 :: st) μ) : J pc L (.int x :: st) μ := by
  obtain ⟨p, l, e, s, m, args, below, meth, c, D, ad, τ, A, ⟨hx, hb, hml, hr, hlk, hown, hw, hD, hE, hA⟩, rfl⟩ := C
  intro H locs ls hP hS hl
  exact lv_i2b hx hb hd rfl (k H locs ls hP hS hl)
theorem r_i2c (C : kR cc own nL R sh N ret Φ J) {x : Int32} (hd : decode cc pc = .ok (.i2c, 1)) (k : J (pc + 1) L (.int (x.toUInt32 % 65536).toInt32 :: st) μ) : J pc L (.int x :: st) μ := by
  obtain ⟨p, l, e, s, m, args, below, meth, c, D, ad, τ, A, ⟨hx, hb, hml, hr, hlk, hown, hw, hD, hE, hA⟩, rfl⟩ := C
  intro H locs ls hP hS hl
  exact lv_i2c hx hb hd rfl (k H locs ls hP hS hl)
theorem r_lcmp (C : kR cc own nL R sh N ret Φ J) {x y : Int64} (hd : decode cc pc = .ok (.lcmp, 1)) (k : J (pc + 1) L (.int (lg_cmp x y) :: st) μ) : J pc L (.long y :: .long x :: st) μ := by
  obtain ⟨p, l, e, s, m, args, below, meth, c, D, ad, τ, A, ⟨hx, hb, hml, hr, hlk, hown, hw, hD, hE, hA⟩, rfl⟩ := C
  intro H locs ls hP hS hl
  exact W.lcmp hx hb hd (k H locs ls hP hS hl)
theorem r_dup (C : kR cc own nL R sh N ret Φ J) {v : Value} (hv : v.category = 1) (hd : decode cc pc = .ok (.dup, 1)) (k : J (pc + 1) L (v :: v :: st) μ) : J pc L (v :: st) μ := by
  obtain ⟨p, l, e, s, m, args, below, meth, c, D, ad, τ, A, ⟨hx, hb, hml, hr, hlk, hown, hw, hD, hE, hA⟩, rfl⟩ := C
  intro H locs ls hP hS hl
  exact lv_dup hx hb hd (by rw [cvv_cat]; exact hv) (k H locs ls hP hS hl)
theorem r_pop (C : kR cc own nL R sh N ret Φ J) {v : Value} (hv : v.category = 1) (hd : decode cc pc = .ok (.pop, 1)) (k : J (pc + 1) L (st) μ) : J pc L (v :: st) μ := by
  obtain ⟨p, l, e, s, m, args, below, meth, c, D, ad, τ, A, ⟨hx, hb, hml, hr, hlk, hown, hw, hD, hE, hA⟩, rfl⟩ := C
  intro H locs ls hP hS hl
  exact lv_pop hx hb hd (by rw [cvv_cat]; exact hv) (k H locs ls hP hS hl)
theorem r_dup2 (C : kR cc own nL R sh N ret Φ J) {v w : Value} (hv : v.category = 1) (hw2 : w.category = 1) (hd : decode cc pc = .ok (.dup2, 1)) (k : J (pc + 1) L (v :: w :: v :: w :: st) μ) : J pc L (v :: w :: st) μ := by
  obtain ⟨p, l, e, s, m, args, below, meth, c, D, ad, τ, A, ⟨hx, hb, hml, hr, hlk, hown, hw, hD, hE, hA⟩, rfl⟩ := C
  intro H locs ls hP hS hl
  exact lv_dup2_11 hx hb hd (by rw [cvv_cat]; exact hv) (by rw [cvv_cat]; exact hw2) (k H locs ls hP hS hl)
theorem r_if_eq (C : kR cc own nL R sh N ret Φ J) {x : Int32} {off : Int} {tgt : Nat} (ht : (pc : Int) + off = (tgt : Int)) (hd : decode cc pc = .ok (.ifCond .eq off, 3)) (kt : x.toInt = 0 → J tgt L st μ) (kf : ¬ x.toInt = 0 → J (pc + 3) L st μ) : J pc L (.int x :: st) μ := by
  obtain ⟨p, l, e, s, m, args, below, meth, c, D, ad, τ, A, ⟨hx, hb, hml, hr, hlk, hown, hw, hD, hE, hA⟩, rfl⟩ := C
  intro H locs ls hP hS hl
  exact lv_if_eq hx hb hd ht (fun h9 => kt (ti_eq0.mp h9) H locs ls hP hS hl) (fun h9 => kf (fun z => h9 (ti_eq0.mpr z)) H locs ls hP hS hl)
theorem r_icmp_eq (C : kR cc own nL R sh N ret Φ J) {x y : Int32} {off : Int} {tgt : Nat} (ht : (pc : Int) + off = (tgt : Int)) (hd : decode cc pc = .ok (.if_icmp .eq off, 3)) (kt : x.toInt = y.toInt → J tgt L st μ) (kf : ¬ x.toInt = y.toInt → J (pc + 3) L st μ) : J pc L (.int y :: .int x :: st) μ := by
  obtain ⟨p, l, e, s, m, args, below, meth, c, D, ad, τ, A, ⟨hx, hb, hml, hr, hlk, hown, hw, hD, hE, hA⟩, rfl⟩ := C
  intro H locs ls hP hS hl
  exact lv_icmp_eq hx hb hd ht (fun h9 => kt (ti_eq.mp h9) H locs ls hP hS hl) (fun h9 => kf (fun z => h9 (ti_eq.mpr z)) H locs ls hP hS hl)
theorem r_if_ne (C : kR cc own nL R sh N ret Φ J) {x : Int32} {off : Int} {tgt : Nat} (ht : (pc : Int) + off = (tgt : Int)) (hd : decode cc pc = .ok (.ifCond .ne off, 3)) (kt : ¬ x.toInt = 0 → J tgt L st μ) (kf : x.toInt = 0 → J (pc + 3) L st μ) : J pc L (.int x :: st) μ := by
  obtain ⟨p, l, e, s, m, args, below, meth, c, D, ad, τ, A, ⟨hx, hb, hml, hr, hlk, hown, hw, hD, hE, hA⟩, rfl⟩ := C
  intro H locs ls hP hS hl
  exact lv_if_ne hx hb hd ht (fun h9 => kt (fun z => h9 (ti_eq0.mpr z)) H locs ls hP hS hl) (fun h9 => kf (ti_eq0.mp h9) H locs ls hP hS hl)
theorem r_icmp_ne (C : kR cc own nL R sh N ret Φ J) {x y : Int32} {off : Int} {tgt : Nat} (ht : (pc : Int) + off = (tgt : Int)) (hd : decode cc pc = .ok (.if_icmp .ne off, 3)) (kt : ¬ x.toInt = y.toInt → J tgt L st μ) (kf : x.toInt = y.toInt → J (pc + 3) L st μ) : J pc L (.int y :: .int x :: st) μ := by
  obtain ⟨p, l, e, s, m, args, below, meth, c, D, ad, τ, A, ⟨hx, hb, hml, hr, hlk, hown, hw, hD, hE, hA⟩, rfl⟩ := C
  intro H locs ls hP hS hl
  exact lv_icmp_ne hx hb hd ht (fun h9 => kt (fun z => h9 (ti_eq.mpr z)) H locs ls hP hS hl) (fun h9 => kf (ti_eq.mp h9) H locs ls hP hS hl)
theorem r_if_lt (C : kR cc own nL R sh N ret Φ J) {x : Int32} {off : Int} {tgt : Nat} (ht : (pc : Int) + off = (tgt : Int)) (hd : decode cc pc = .ok (.ifCond .lt off, 3)) (kt : x.toInt < 0 → J tgt L st μ) (kf : 0 ≤ x.toInt → J (pc + 3) L st μ) : J pc L (.int x :: st) μ := by
  obtain ⟨p, l, e, s, m, args, below, meth, c, D, ad, τ, A, ⟨hx, hb, hml, hr, hlk, hown, hw, hD, hE, hA⟩, rfl⟩ := C
  intro H locs ls hP hS hl
  exact lv_if_lt hx hb hd ht (fun h9 => kt (ti_lt0.mp h9) H locs ls hP hS hl) (fun h9 => kf (by rw [ti_lt0] at h9; omega) H locs ls hP hS hl)
theorem r_icmp_lt (C : kR cc own nL R sh N ret Φ J) {x y : Int32} {off : Int} {tgt : Nat} (ht : (pc : Int) + off = (tgt : Int)) (hd : decode cc pc = .ok (.if_icmp .lt off, 3)) (kt : x.toInt < y.toInt → J tgt L st μ) (kf : y.toInt ≤ x.toInt → J (pc + 3) L st μ) : J pc L (.int y :: .int x :: st) μ := by
  obtain ⟨p, l, e, s, m, args, below, meth, c, D, ad, τ, A, ⟨hx, hb, hml, hr, hlk, hown, hw, hD, hE, hA⟩, rfl⟩ := C
  intro H locs ls hP hS hl
  exact lv_icmp_lt hx hb hd ht (fun h9 => kt (Int32.lt_iff_toInt_lt.mp h9) H locs ls hP hS hl) (fun h9 => kf (by rw [Int32.lt_iff_toInt_lt] at h9; omega) H locs ls hP hS hl)
theorem r_if_ge (C : kR cc own nL R sh N ret Φ J) {x : Int32} {off : Int} {tgt : Nat} (ht : (pc : Int) + off = (tgt : Int)) (hd : decode cc pc = .ok (.ifCond .ge off, 3)) (kt : 0 ≤ x.toInt → J tgt L st μ) (kf : x.toInt < 0 → J (pc + 3) L st μ) : J pc L (.int x :: st) μ := by
  obtain ⟨p, l, e, s, m, args, below, meth, c, D, ad, τ, A, ⟨hx, hb, hml, hr, hlk, hown, hw, hD, hE, hA⟩, rfl⟩ := C
  intro H locs ls hP hS hl
  exact lv_if_ge hx hb hd ht (fun h9 => kt (ti_0le.mp h9) H locs ls hP hS hl) (fun h9 => kf (by rw [ti_0le] at h9; omega) H locs ls hP hS hl)
theorem r_icmp_ge (C : kR cc own nL R sh N ret Φ J) {x y : Int32} {off : Int} {tgt : Nat} (ht : (pc : Int) + off = (tgt : Int)) (hd : decode cc pc = .ok (.if_icmp .ge off, 3)) (kt : y.toInt ≤ x.toInt → J tgt L st μ) (kf : x.toInt < y.toInt → J (pc + 3) L st μ) : J pc L (.int y :: .int x :: st) μ := by
  obtain ⟨p, l, e, s, m, args, below, meth, c, D, ad, τ, A, ⟨hx, hb, hml, hr, hlk, hown, hw, hD, hE, hA⟩, rfl⟩ := C
  intro H locs ls hP hS hl
  exact lv_icmp_ge hx hb hd ht (fun h9 => kt (Int32.le_iff_toInt_le.mp h9) H locs ls hP hS hl) (fun h9 => kf (by rw [Int32.le_iff_toInt_le] at h9; omega) H locs ls hP hS hl)
theorem r_if_gt (C : kR cc own nL R sh N ret Φ J) {x : Int32} {off : Int} {tgt : Nat} (ht : (pc : Int) + off = (tgt : Int)) (hd : decode cc pc = .ok (.ifCond .gt off, 3)) (kt : 0 < x.toInt → J tgt L st μ) (kf : x.toInt ≤ 0 → J (pc + 3) L st μ) : J pc L (.int x :: st) μ := by
  obtain ⟨p, l, e, s, m, args, below, meth, c, D, ad, τ, A, ⟨hx, hb, hml, hr, hlk, hown, hw, hD, hE, hA⟩, rfl⟩ := C
  intro H locs ls hP hS hl
  exact lv_if_gt hx hb hd ht (fun h9 => kt (ti_0lt.mp h9) H locs ls hP hS hl) (fun h9 => kf (by rw [ti_0lt] at h9; omega) H locs ls hP hS hl)
theorem r_icmp_gt (C : kR cc own nL R sh N ret Φ J) {x y : Int32} {off : Int} {tgt : Nat} (ht : (pc : Int) + off = (tgt : Int)) (hd : decode cc pc = .ok (.if_icmp .gt off, 3)) (kt : y.toInt < x.toInt → J tgt L st μ) (kf : x.toInt ≤ y.toInt → J (pc + 3) L st μ) : J pc L (.int y :: .int x :: st) μ := by
  obtain ⟨p, l, e, s, m, args, below, meth, c, D, ad, τ, A, ⟨hx, hb, hml, hr, hlk, hown, hw, hD, hE, hA⟩, rfl⟩ := C
  intro H locs ls hP hS hl
  exact lv_icmp_gt hx hb hd ht (fun h9 => kt (Int32.lt_iff_toInt_lt.mp h9) H locs ls hP hS hl) (fun h9 => kf (by rw [Int32.lt_iff_toInt_lt] at h9; omega) H locs ls hP hS hl)
theorem r_if_le (C : kR cc own nL R sh N ret Φ J) {x : Int32} {off : Int} {tgt : Nat} (ht : (pc : Int) + off = (tgt : Int)) (hd : decode cc pc = .ok (.ifCond .le off, 3)) (kt : x.toInt ≤ 0 → J tgt L st μ) (kf : 0 < x.toInt → J (pc + 3) L st μ) : J pc L (.int x :: st) μ := by
  obtain ⟨p, l, e, s, m, args, below, meth, c, D, ad, τ, A, ⟨hx, hb, hml, hr, hlk, hown, hw, hD, hE, hA⟩, rfl⟩ := C
  intro H locs ls hP hS hl
  exact lv_if_le hx hb hd ht (fun h9 => kt (ti_le0.mp h9) H locs ls hP hS hl) (fun h9 => kf (by rw [ti_le0] at h9; omega) H locs ls hP hS hl)
theorem r_icmp_le (C : kR cc own nL R sh N ret Φ J) {x y : Int32} {off : Int} {tgt : Nat} (ht : (pc : Int) + off = (tgt : Int)) (hd : decode cc pc = .ok (.if_icmp .le off, 3)) (kt : x.toInt ≤ y.toInt → J tgt L st μ) (kf : y.toInt < x.toInt → J (pc + 3) L st μ) : J pc L (.int y :: .int x :: st) μ := by
  obtain ⟨p, l, e, s, m, args, below, meth, c, D, ad, τ, A, ⟨hx, hb, hml, hr, hlk, hown, hw, hD, hE, hA⟩, rfl⟩ := C
  intro H locs ls hP hS hl
  exact lv_icmp_le hx hb hd ht (fun h9 => kt (Int32.le_iff_toInt_le.mp h9) H locs ls hP hS hl) (fun h9 => kf (by rw [Int32.le_iff_toInt_le] at h9; omega) H locs ls hP hS hl)
theorem r_goto (C : kR cc own nL R sh N ret Φ J) {off : Int} {tgt : Nat} (ht : (pc : Int) + off = (tgt : Int)) (hd : decode cc pc = .ok (.goto off, 3)) (k : J tgt L st μ) : J pc L st μ := by
  obtain ⟨p, l, e, s, m, args, below, meth, c, D, ad, τ, A, ⟨hx, hb, hml, hr, hlk, hown, hw, hD, hE, hA⟩, rfl⟩ := C
  intro H locs ls hP hS hl
  exact lv_goto hx hb hd ht (k H locs ls hP hS hl)
theorem r_table (C : kR cc own nL R sh N ret Φ J) {dflt lo hi : Int} {offs : Array Int} {len : Nat} {x : Int32} {tg : Nat} (hd : decode cc pc = .ok (.tableswitch dflt lo hi offs, len)) (ht : (pc : Int) + dflt = (tg : Int)) (hsz : (hi - lo + 1).toNat ≤ offs.size) (hge : ∀ i, i < offs.size → 0 ≤ (pc : Int) + offs.getD i 0) (kin : ∀ i : Nat, (i : Int) = x.toInt - lo → lo ≤ x.toInt → x.toInt ≤ hi → J ((pc : Int) + offs.getD i 0).toNat L st μ) (kout : x.toInt < lo ∨ hi < x.toInt → J tg L st μ) : J pc L (.int x :: st) μ := by
  obtain ⟨p, l, e, s, m, args, below, meth, c, D, ad, τ, A, ⟨hx, hb, hml, hr, hlk, hown, hw, hD, hE, hA⟩, rfl⟩ := C
  intro H locs ls hP hS hl
  by_cases h1 : x.toInt < lo
  · exact lv_tableOut hx hb hd (Or.inl h1) ht (kout (Or.inl h1) H locs ls hP hS hl)
  · by_cases h2 : hi < x.toInt
    · exact lv_tableOut hx hb hd (Or.inr h2) ht (kout (Or.inr h2) H locs ls hP hS hl)
    · have hlt : (x.toInt - lo).toNat < offs.size := by omega
      exact lv_tableIn (off := offs.getD (x.toInt - lo).toNat 0) hx hb hd h1 h2 (by simp [hlt]) (by have := hge _ hlt; omega) (kin (x.toInt - lo).toNat (by omega) (by omega) (by omega) H locs ls hP hS hl)
theorem r_getI (C : kR cc own nL R sh N ret Φ J) {o idx ci k : Nat} {fs : List (Option Nat)} (f : kFd own idx ci k) (ho : o < N) (hs : sh o = .inl (ci, fs)) (hk : fs[k]? = some none) (hd : decode cc pc = .ok (.getfield idx, 3)) (kk : J (pc + 3) L (.int (μ.1 o k) :: st) μ) : J pc L (.ref o :: st) μ := by
  obtain ⟨p, l, e, s, m, args, below, meth, c, D, ad, τ, A, ⟨hx, hb, hml, hr, hlk, hown, hw, hD, hE, hA⟩, rfl⟩ := C
  intro H locs ls hP hS hl
  obtain ⟨Cn, T, n, h1, h2, h3, h4⟩ := f
  exact va_get (v := .int (μ.1 o k)) hx hb hw h3 hown hE.1 hP o (by rw [wl_get ho]; simp only [kent, hs]; rfl) h1 k h2 (hw _ h4) (fun _ h9 => h9) (kfv_int hk) hd (kk H locs ls hP hS hl)
theorem r_getR (C : kR cc own nL R sh N ret Φ J) {o idx ci k r : Nat} {fs : List (Option Nat)} (f : kFd own idx ci k) (ho : o < N) (hs : sh o = .inl (ci, fs)) (hk : fs[k]? = some (some r)) (hd : decode cc pc = .ok (.getfield idx, 3)) (kk : J (pc + 3) L (.ref r :: st) μ) : J pc L (.ref o :: st) μ := by
  obtain ⟨p, l, e, s, m, args, below, meth, c, D, ad, τ, A, ⟨hx, hb, hml, hr, hlk, hown, hw, hD, hE, hA⟩, rfl⟩ := C
  intro H locs ls hP hS hl
  obtain ⟨Cn, T, n, h1, h2, h3, h4⟩ := f
  exact va_get (v := .ref (ad r)) hx hb hw h3 hown hE.1 hP o (by rw [wl_get ho]; simp only [kent, hs]; rfl) h1 k h2 (hw _ h4) (fun _ h9 => h9) (kfv_ref hk) hd (kk H locs ls hP hS hl)
theorem r_putI (C : kR cc own nL R sh N ret Φ J) {o idx ci k : Nat} {fs : List (Option Nat)} {x : Int32} (f : kFw own idx ci k) (ho : o < N) (hs : sh o = .inl (ci, fs)) (hk : fs[k]? = some none) (hd : decode cc pc = .ok (.putfield idx, 3)) (kk : J (pc + 3) L st (up μ o k x)) : J pc L (.int x :: .ref o :: st) μ := by
  obtain ⟨p, l, e, s, m, args, below, meth, c, D, ad, τ, A, ⟨hx, hb, hml, hr, hlk, hown, hw, hD, hE, hA⟩, rfl⟩ := C
  intro H locs ls hP hS hl
  obtain ⟨Cn, T, n, ty, h1, h2, h3, h4, h5, h6, h7, h8⟩ := f
  refine va_put (v := .int x) (ty := .int) (fs := kfv ad (μ.1 o) fs) hx hb hw h3 ty h5 h6 hown hE.1 hP (hD μ) hS o (by rw [wl_get ho]; simp only [kent, hs]) h1 k h2 (hw _ h4) (fun _ h9 => h9) h7 (by rw [h8]; rfl) rfl rfl (by rw [kfv_len]; exact (List.getElem?_eq_some_iff.mp hk).1) hd (fun H1 locs1 hP1 _ hS1 => ?_)
  have e1 : ∀ j, j ≠ o → kent sh ad τ (up μ o k x) j = kent sh ad τ μ j := fun j hj => by simp only [kent, up, hj, false_and, if_false]
  have e2 : kent sh ad τ (up μ o k x) o = .inr (ci, (kfv ad (μ.1 o) fs).set k (.int x)) := by
    simp only [kent, hs]
    rw [kfv_set hk]
    simp only [up, true_and]
  rw [wl_set ho e1 e2] at hP1
  exact kk H1 locs1 ls hP1 hS1 hl
theorem vp_of {i : Int32} {n : Nat} (h : 0 ≤ i.toInt ∧ i.toInt < (n : Int)) : vp_in i n := by
  intro q
  rcases q with q | q
  · rw [ti_lt0] at q; omega
  · have h3 : n ≤ i.toInt.toNat := q
    omega
theorem r_iald (C : kR cc own nL R sh N ret Φ J) {o n : Nat} {f : Nat → Nat} {i : Int32} (ho : o < N) (hs : sh o = .inr (0, n, f)) (hin : 0 ≤ i.toInt ∧ i.toInt < (n : Int)) (hd : decode cc pc = .ok (.iaload, 1)) (kk : J (pc + 1) L (.int (μ.1 o i.toInt.toNat) :: st) μ) : J pc L (.int i :: .ref o :: st) μ := by
  obtain ⟨p, l, e, s, m, args, below, meth, c, D, ad, τ, A, ⟨hx, hb, hml, hr, hlk, hown, hw, hD, hE, hA⟩, rfl⟩ := C
  intro H locs ls hP hS hl
  exact va_iald (f := μ.1 o) hx hb hE.1 hP o 0 (by rw [wl_get ho]; simp only [kent, hs]; rfl) rfl (vp_of hin) hd (kk H locs ls hP hS hl)
theorem r_bald (C : kR cc own nL R sh N ret Φ J) {o n : Nat} {f : Nat → Nat} {i : Int32} (ho : o < N) (hs : sh o = .inr (1, n, f)) (hin : 0 ≤ i.toInt ∧ i.toInt < (n : Int)) (hd : decode cc pc = .ok (.baload, 1)) (kk : J (pc + 1) L (.int (μ.1 o i.toInt.toNat) :: st) μ) : J pc L (.int i :: .ref o :: st) μ := by
  obtain ⟨p, l, e, s, m, args, below, meth, c, D, ad, τ, A, ⟨hx, hb, hml, hr, hlk, hown, hw, hD, hE, hA⟩, rfl⟩ := C
  intro H locs ls hP hS hl
  exact va_bald (f := μ.1 o) hx hb hE.1 hP o 1 (by rw [wl_get ho]; simp only [kent, hs]; rfl) rfl (vp_of hin) hd (kk H locs ls hP hS hl)
theorem r_lald (C : kR cc own nL R sh N ret Φ J) {o n : Nat} {f : Nat → Nat} {i : Int32} (ho : o < N) (hs : sh o = .inr (2, n, f)) (hin : 0 ≤ i.toInt ∧ i.toInt < (n : Int)) (hd : decode cc pc = .ok (.laload, 1)) (kk : J (pc + 1) L (.long (μ.2 o i.toInt.toNat) :: st) μ) : J pc L (.int i :: .ref o :: st) μ := by
  obtain ⟨p, l, e, s, m, args, below, meth, c, D, ad, τ, A, ⟨hx, hb, hml, hr, hlk, hown, hw, hD, hE, hA⟩, rfl⟩ := C
  intro H locs ls hP hS hl
  exact va_lald (f := μ.2 o) hx hb hE.1 hP o 2 (by rw [wl_get ho]; simp only [kent, hs]; rfl) rfl (vp_of hin) hd (kk H locs ls hP hS hl)
theorem r_aald (C : kR cc own nL R sh N ret Φ J) {o n t : Nat} {f : Nat → Nat} {i : Int32} (ho : o < N) (ht : 3 ≤ t ∧ t ≤ 5) (hs : sh o = .inr (t, n, f)) (hin : 0 ≤ i.toInt ∧ i.toInt < (n : Int)) (hd : decode cc pc = .ok (.aaload, 1)) (kk : J (pc + 1) L (.ref (f i.toInt.toNat) :: st) μ) : J pc L (.int i :: .ref o :: st) μ := by
  obtain ⟨p, l, e, s, m, args, below, meth, c, D, ad, τ, A, ⟨hx, hb, hml, hr, hlk, hown, hw, hD, hE, hA⟩, rfl⟩ := C
  intro H locs ls hP hS hl
  have hlt : i.toNatClampNeg < n := by
    show i.toInt.toNat < n
    omega
  have hc : (wl sh N ad τ μ)[o]? = some (ad o, .inl (τ t, n, .inr (.inr (.inr (.inr (fun k => some (ad (f k)))))))) := by
    rw [wl_get ho]
    simp only [kent, hs, karr, if_neg (show ¬ t ≤ 1 by omega), if_neg (show ¬ t = 2 by omega)]
  obtain ⟨ty, hty, href⟩ : ∃ ty : FieldType, (kty τ)[t]? = some (τ t, ty) ∧ ty.isReference = true := by
    rcases (show t = 3 ∨ t = 4 ∨ t = 5 by omega) with rfl | rfl | rfl
    · exact ⟨_, rfl, rfl⟩
    · exact ⟨_, rfl, rfl⟩
    · exact ⟨_, rfl, rfl⟩
  exact W.aald (v := .ref (ad (f i.toInt.toNat))) (ty := ty) hx hb (hP o _ hc) ((hE.1.2 t _ hty).1 n (fun j => va_rf (some (ad (f j))))) href (fun q => by cases q) (by show ¬ (i < 0 ∨ (arrV _ _ _).slots.size ≤ _); rw [arrV_size]; exact vp_of hin) (by show (arrV _ _ _).slots[_]? = _; rw [arrV_read _ _ hlt]; rfl) rfl rfl hd (kk H locs ls hP hS hl)
theorem r_alen (C : kR cc own nL R sh N ret Φ J) {o t n : Nat} {f : Nat → Nat} (ho : o < N) (ht : t ≤ 5) (hs : sh o = .inr (t, n, f)) (hd : decode cc pc = .ok (.arraylength, 1)) (kk : J (pc + 1) L (.int (Int32.ofNat n) :: st) μ) : J pc L (.ref o :: st) μ := by
  obtain ⟨p, l, e, s, m, args, below, meth, c, D, ad, τ, A, ⟨hx, hb, hml, hr, hlk, hown, hw, hD, hE, hA⟩, rfl⟩ := C
  intro H locs ls hP hS hl
  have hty : ∃ ty : FieldType, (kty τ)[t]? = some (τ t, ty) := by
    rcases (show t = 0 ∨ t = 1 ∨ t = 2 ∨ t = 3 ∨ t = 4 ∨ t = 5 by omega) with rfl | rfl | rfl | rfl | rfl | rfl <;> exact ⟨_, rfl⟩
  obtain ⟨ty, hty⟩ := hty
  exact va_alen hx hb hE.1 hP o t (x := (n, _)) (by rw [wl_get ho]; simp only [kent, hs]; rfl) hty rfl hd (kk H locs ls hP hS hl)
theorem r_iast (C : kR cc own nL R sh N ret Φ J) {o n : Nat} {f : Nat → Nat} {i x : Int32} (ho : o < N) (hs : sh o = .inr (0, n, f)) (hin : 0 ≤ i.toInt ∧ i.toInt < (n : Int)) (hd : decode cc pc = .ok (.iastore, 1)) (kk : J (pc + 1) L st (up μ o i.toInt.toNat x)) : J pc L (.int x :: .int i :: .ref o :: st) μ := by
  obtain ⟨p, l, e, s, m, args, below, meth, c, D, ad, τ, A, ⟨hx, hb, hml, hr, hlk, hown, hw, hD, hE, hA⟩, rfl⟩ := C
  intro H locs ls hP hS hl
  refine va_iast (f := μ.1 o) hx hb hE.1 hP (hD μ) hS o 0 (by rw [wl_get ho]; simp only [kent, hs]; rfl) rfl (vp_of hin) hd (fun H1 locs1 hP1 _ hS1 => ?_)
  have e1 : ∀ j, j ≠ o → kent sh ad τ (up μ o i.toInt.toNat x) j = kent sh ad τ μ j := fun j hj => by simp only [kent, up, hj, false_and, if_false]
  rw [wl_set ho e1 (by simp only [kent, hs, karr, up, true_and]; rfl)] at hP1
  exact kk H1 locs1 ls hP1 hS1 hl
theorem r_bast (C : kR cc own nL R sh N ret Φ J) {o n : Nat} {f : Nat → Nat} {i x : Int32} (ho : o < N) (hs : sh o = .inr (1, n, f)) (hin : 0 ≤ i.toInt ∧ i.toInt < (n : Int)) (hd : decode cc pc = .ok (.bastore, 1)) (kk : J (pc + 1) L st (up μ o i.toInt.toNat x.toInt8.toInt32)) : J pc L (.int x :: .int i :: .ref o :: st) μ := by
  obtain ⟨p, l, e, s, m, args, below, meth, c, D, ad, τ, A, ⟨hx, hb, hml, hr, hlk, hown, hw, hD, hE, hA⟩, rfl⟩ := C
  intro H locs ls hP hS hl
  refine va_bast (f := μ.1 o) hx hb hE.1 hP (hD μ) hS o 1 (by rw [wl_get ho]; simp only [kent, hs]; rfl) rfl (vp_of hin) hd (fun H1 locs1 hP1 _ hS1 => ?_)
  have e1 : ∀ j, j ≠ o → kent sh ad τ (up μ o i.toInt.toNat x.toInt8.toInt32) j = kent sh ad τ μ j := fun j hj => by simp only [kent, up, hj, false_and, if_false]
  rw [wl_set ho e1 (by simp only [kent, hs, karr, up, true_and]; rfl)] at hP1
  exact kk H1 locs1 ls hP1 hS1 hl
theorem r_last (C : kR cc own nL R sh N ret Φ J) {o n : Nat} {f : Nat → Nat} {i : Int32} {x : Int64} (ho : o < N) (hs : sh o = .inr (2, n, f)) (hin : 0 ≤ i.toInt ∧ i.toInt < (n : Int)) (hd : decode cc pc = .ok (.lastore, 1)) (kk : J (pc + 1) L st (upL μ o i.toInt.toNat x)) : J pc L (.long x :: .int i :: .ref o :: st) μ := by
  obtain ⟨p, l, e, s, m, args, below, meth, c, D, ad, τ, A, ⟨hx, hb, hml, hr, hlk, hown, hw, hD, hE, hA⟩, rfl⟩ := C
  intro H locs ls hP hS hl
  refine va_last (f := μ.2 o) hx hb hE.1 hP (hD μ) hS o 2 (by rw [wl_get ho]; simp only [kent, hs]; rfl) rfl (vp_of hin) hd (fun H1 locs1 hP1 _ hS1 => ?_)
  have e1 : ∀ j, j ≠ o → kent sh ad τ (upL μ o i.toInt.toNat x) j = kent sh ad τ μ j := fun j hj => by simp only [kent, upL, hj, false_and, if_false]
  rw [wl_set ho e1 (by simp only [kent, hs, karr, upL, true_and]; rfl)] at hP1
  exact kk H1 locs1 ls hP1 hS1 hl
end KR
section KRET
variable {cc : ByteArray} {own : String} {nL : Nat} {R : Room} {sh : Nat → kSh} {N : Nat} {J : kJ} {pc : Nat} {L : List (Option Value)} {st : List Value} {μ : kMem}
theorem r_ret {Ψ : kMem → Prop} (C : kR cc own nL R sh N none (kN Ψ) J) (hd : decode cc pc = .ok (.return_, 1)) (k : Ψ μ) : J pc L [] μ := by
  obtain ⟨p, l, e, s, m, args, below, meth, c, D, ad, τ, A, ⟨hx, hb, hml, hr, hlk, hown, hw, hD, hE, hA⟩, rfl⟩ := C
  intro H locs ls hP hS hl
  exact W.vret hx hb hr (fun t ht hW => ⟨⟨_, μ, rfl, ⟨rfl, k⟩, by rw [ht]; exact hP⟩, hS.F ht⟩) hS.2.2 hd hlk
theorem r_iret {Ψ : Int32 → kMem → Prop} {v : Int32} (C : kR cc own nL R sh N (some .int) (kI Ψ) J) (hd : decode cc pc = .ok (.ireturn, 1)) (k : Ψ v μ) : J pc L [.int v] μ := by
  obtain ⟨p, l, e, s, m, args, below, meth, c, D, ad, τ, A, ⟨hx, hb, hml, hr, hlk, hown, hw, hD, hE, hA⟩, rfl⟩ := C
  intro H locs ls hP hS hl
  exact W.iret hx hb hr (fun t ht hW => ⟨⟨_, μ, rfl, ⟨v, rfl, k⟩, by rw [ht]; exact hP⟩, hS.F ht⟩) hS.2.2 hd hlk
theorem r_zret {Ψ : Int32 → kMem → Prop} {v : Int32} {ty : FieldType} (C : kR cc own nL R sh N (some ty) (kI Ψ) J) (hn : narrow ty (.int v) = .int v) (hd : decode cc pc = .ok (.ireturn, 1)) (k : Ψ v μ) : J pc L [.int v] μ := by
  obtain ⟨p, l, e, s, m, args, below, meth, c, D, ad, τ, A, ⟨hx, hb, hml, hr, hlk, hown, hw, hD, hE, hA⟩, rfl⟩ := C
  intro H locs ls hP hS hl
  exact W.zret hx hb hr hn (fun t ht hW => ⟨⟨_, μ, rfl, ⟨v, rfl, k⟩, by rw [ht]; exact hP⟩, hS.F ht⟩) hS.2.2 hd hlk
theorem r_lret {Ψ : Int64 → kMem → Prop} {v : Int64} (C : kR cc own nL R sh N (some .long) (kL Ψ) J) (hd : decode cc pc = .ok (.lreturn, 1)) (k : Ψ v μ) : J pc L [.long v] μ := by
  obtain ⟨p, l, e, s, m, args, below, meth, c, D, ad, τ, A, ⟨hx, hb, hml, hr, hlk, hown, hw, hD, hE, hA⟩, rfl⟩ := C
  intro H locs ls hP hS hl
  exact W.lret hx hb hr (fun t ht hW => ⟨⟨_, μ, rfl, ⟨v, rfl, k⟩, by rw [ht]; exact hP⟩, hS.F ht⟩) hS.2.2 hd hlk
end KRET
end
section
/-! ===== calls, over kR ===== -/
theorem kA_in {A : Nat → Prop} {sh : Nat → kSh} {N : Nat} {ad : Nat → Nat} {τ : Nat → ClassId} {μ : kMem} {H0 H : Heap} {locs : List Loc} (hD : va_D A (wl sh N ad τ μ)) (hS : va_S A H0 H locs) (hA : ∀ q, H0.size ≤ q → A q) : ∀ q, va_A (wl sh N ad τ μ) H.size q → A q := by
  intro q h
  rcases h with ⟨k, e, h⟩ | h
  · exact hD.2 k _ h
  · exact hA q (Nat.le_trans hS.1 h)
theorem kB_of {p : Program} {s U : State} {m : MethodId} {args : Array Value} {meth : Method} {c : Code} {cc : ByteArray} {own : String} {nL : Nat} {sh : Nat → kSh} {N : Nat} {ret : Option FieldType} {D : va_G} {ad : Nat → Nat} {τ : Nat → ClassId} {A : Nat → Prop} {μ : kMem} {H : Heap} {locs : List Loc}
    (C : kC p s m args meth c cc own nL sh N ret D ad τ A) (hP : va_P D vwCl (wl sh N ad τ μ) H) (hS : va_S A s.heap H locs) (hU : U.heap = H) (hW : s.WarmedH U.vm) : kB sh N D ad τ H.size μ U := by
  obtain ⟨hx, hb, hml, hr, hlk, hown, hw, hD, hE, hA⟩ := C
  refine ⟨by rw [hU], by rw [hU]; exact hP, va_D_wl (hD μ) (fun _ _ _ => trivial), ?_⟩
  rw [hU]
  exact ((hE.kept (fun a h1 h2 => hS.2.1 a h1 h2)).narrow (kA_in (hD μ) hS hA)).warm hW
theorem kB_blind {sh : Nat → kSh} {N : Nat} {D : va_G} {ad : Nat → Nat} {τ : Nat → ClassId} {sz : Nat} {μ : kMem} {av : List Value} : FrameBlind (va_Pc av (kB sh N D ad τ sz μ)) := by
  intro a U g mk q
  obtain ⟨q0, q1, q2, q3, q4⟩ := q
  exact ⟨q0, q1, q2, q3, kE.same (u := U) (U := U.calling g mk a) rfl q4⟩
theorem kcall {p : Program} {l : Launch} {e : Env} {R : Room} {s : State} {m : MethodId} {args : Array Value} {below : List Frame} {meth : Method} {c : Code} {sh : Nat → kSh} {N : Nat} {D : va_G} {ad : Nat → Nat} {τ : Nat → ClassId} {A A1 : Nat → Prop} {H : Heap} {locs : List Loc} {pc : Nat} {ls : Array Slot} {st0 rest : List Value} {Ψ : Option Value → kMem → Prop} {Q : State → Prop} {a : Array Value}
    (hr : va_Run p l e R s m args below meth c H locs 0 0 0 0 (F0 m pc ls st0) rest (kQ sh N D ad τ A1 Ψ a) A1) (hS : va_S A s.heap H locs) (hA1 : ∀ q, A1 q → A q)
    (kk : ∀ (v : Option Value) (μ' : kMem) (H1 : Heap) (locs1 : List Loc), Ψ v μ' → va_P D vwCl (wl sh N ad τ μ') H1 → va_S A s.heap H1 locs1 → W p l e R s m args below meth c H1 locs1 0 0 Q (F0 m (pc + 3) ls (v.toList ++ rest))) : W p l e R s m args below meth c H locs 0 0 Q (F0 m pc ls st0) := by
  intro T hT X
  obtain ⟨v, st₀, t, T', L, h0, X', hL, e1, e2, ⟨⟨v', μ', hv, hp, hb⟩, hz, hk⟩, st⟩ := hr T hT X
  cases hv
  rw [h0] at hz hk
  rw [← e1] at hb hz hk
  obtain ⟨t2, a1, b1⟩ := kk v μ' T'.heap (locs ++ L) hp hb
    ⟨Nat.le_trans hS.1 hz, fun q h1 h2 => by rw [hk q (Nat.lt_of_lt_of_le h1 hS.1) (fun z => h2 (hA1 q z))]; exact hS.2.1 q h1 h2, fun q hq => by
      rcases List.mem_append.mp hq with h | h
      · exact hS.2.2 q h
      · exact hA1 _ (hL q h)⟩ T' rfl X'
  exact ⟨t2, st t2 a1, b1⟩
theorem kgoodV {own : String} {index : Nat} {y : MethodName} {bytes : ByteArray} {maxL n : Nat} {ret : Option FieldType} (ly : kYv y bytes maxL ret n) (hl : Cond.methodLink own index y ∈ WG) : GoodIn WG (wsV own index y.cls y (.code y bytes maxL ret :: WG)) := by
  obtain ⟨h1, h2, h3, h4, -⟩ := ly
  intro w hw
  simp only [wsV, List.mem_append, List.mem_cons, List.not_mem_nil, or_false] at hw
  rcases hw with (rfl | rfl | rfl | rfl) | (rfl | hw)
  · exact WG_good _ hl
  · exact WG_good _ h1
  · exact WG_good _ h2
  · exact WG_good _ h3
  · exact WG_good _ h4
  · exact WG_good _ hw
theorem kgoodS {own : String} {index : Nat} {y : MethodName} {bytes : ByteArray} {maxL n : Nat} {ret : Option FieldType} (ly : kYs y bytes maxL ret n) (hl : Cond.methodLink own index y ∈ WG) : GoodIn WG (va_wsS own index y (.code y bytes maxL ret :: WG)) := by
  obtain ⟨h1, h2, h3, -⟩ := ly
  intro w hw
  simp only [va_wsS, List.mem_append, List.mem_cons, List.not_mem_nil, or_false] at hw
  rcases hw with (rfl | rfl | rfl) | (rfl | hw)
  · exact WG_good _ hl
  · exact WG_good _ h1
  · exact WG_good _ h2
  · exact WG_good _ h3
  · exact WG_good _ hw
theorem kgoodN {y : MethodName} {bytes : ByteArray} {maxL : Nat} {ret : Option FieldType} (h : Cond.code y bytes maxL ret ∈ WG) : GoodIn WG (.code y bytes maxL ret :: WG) := by
  intro w hw
  rcases List.mem_cons.mp hw with rfl | hw
  · exact WG_good _ h
  · exact WG_good _ hw
theorem map_cat {ad : Nat → Nat} : ∀ {st : List Value}, ((st.map (cvv ad)).map fun v => v.category) = st.map fun v => v.category := by
  intro st
  induction st with
  | nil => rfl
  | cons v t ih => simp only [List.map_cons, cvv_cat]; rw [ih]
section KCALL
variable {cc : ByteArray} {own : String} {nL : Nat} {R : Room} {sh : Nat → kSh} {N : Nat} {ret : Option FieldType} {Φ : Option Value → kMem → Prop} {J : kJ} {pc : Nat} {L : List (Option Value)} {st : List Value} {μ : kMem}
variable {y : MethodName} {bytes : ByteArray} {maxL n idx : Nat} {ret' : Option FieldType} {rm : Room}
theorem r_callV (C : kR cc own nL R sh N ret Φ J) (ly : kYv y bytes maxL ret' n) (hl : Cond.methodLink own idx y ∈ WG) (hR : kroom rm R maxL = true) {o ci : Nat} {fs : List (Option Nat)} {T : u_T} {nf : Nat} (ho : o < N) (hs : sh o = .inl (ci, fs)) (hc : vwCl[ci]? = some (y.cls, T, nf)) {As rest : List Value} (hn : As.length = n) (hcat : (rest.map fun v => v.category).sum ≤ 8) {Ψ : Option Value → kMem → Prop} (h : kOk y bytes maxL ret' rm sh N (.ref o :: As) μ Ψ) (hd : decode cc pc = .ok (.invokevirtual idx, 3))
    (k : ∀ (v : Option Value) (μ' : kMem), Ψ v μ' → ∃ st' : List Value, (∀ ad : Nat → Nat, st'.map (cvv ad) = v.toList ++ rest.map (cvv ad)) ∧ J (pc + 3) L st' μ') : J pc L (As.reverse ++ .ref o :: rest) μ := by
  obtain ⟨p, l, e, s, m, args, below, meth, c, D, ad, τ, A, C, rfl⟩ := C
  obtain ⟨hx, hb, hml, hr, hlk, hown, hw, hD, hE, hA⟩ := id C
  obtain ⟨hr1, hr2, hr3, hr4⟩ := kroom_of hR
  intro H locs ls hP hS hl2
  have hrun := va_runV (As := As.map (cvv ad)) (rest := rest.map (cvv ad)) (g := F0 m pc ls ((As.reverse ++ .ref o :: rest).map (cvv ad))) (e := e) (meth := meth) (locs := locs) (cells := 0) (slots := 0) (below := below) ⟨hx, hb, hml, hown, hw⟩ (h l D ad τ H.size) (cwV (R := R) n hw (kgoodV ly hl) rfl hr1 hr2 ⟨rfl, ly.2.2.2.2⟩ ⟨hr3, hr4⟩) ⟨kB_blind, va_recv hE.1 hP (ci := ci) (q0 := o) (q := (y.cls, T, nf)) hc (by rw [wl_get ho]; simp only [kent, hs]; rfl), fun U hU hW => ⟨rfl, kB_of C hP hS hU hW⟩⟩ rfl (by rw [List.length_map]; exact hn) hl2.1 (by simp [cvv]) (lv_room (by rw [map_cat]; exact hcat)) hd ⟨Nat.zero_le _, Nat.zero_le _⟩
  refine kcall (meth := meth) hrun hS (kA_in (hD μ) hS hA) (fun v μ' H1 locs1 hΨ hP1 hS1 => ?_)
  obtain ⟨st', e1, e2⟩ := k v μ' hΨ
  rw [← e1 ad]
  exact e2 H1 locs1 ls hP1 hS1 hl2
/-- .. of a text among the three -/
theorem r_callT (C : kR cc own nL R sh N ret Φ J) (ly : kYv y bytes maxL ret' n) (hyc : y.cls = "java/lang/String") (hl : Cond.methodLink own idx y ∈ WG) (hR : kroom rm R maxL = true) {i : Nat} (hi : i < 3) {As rest : List Value} (hn : As.length = n) (hcat : (rest.map fun v => v.category).sum ≤ 8) {Ψ : Option Value → kMem → Prop} (h : kOk y bytes maxL ret' rm sh N (.ref (1000 + i) :: As) μ Ψ) (hd : decode cc pc = .ok (.invokevirtual idx, 3))
    (k : ∀ (v : Option Value) (μ' : kMem), Ψ v μ' → ∃ st' : List Value, (∀ ad : Nat → Nat, st'.map (cvv ad) = v.toList ++ rest.map (cvv ad)) ∧ J (pc + 3) L st' μ') : J pc L (As.reverse ++ .ref (1000 + i) :: rest) μ := by
  obtain ⟨p, l, e, s, m, args, below, meth, c, D, ad, τ, A, C, rfl⟩ := C
  obtain ⟨hx, hb, hml, hr, hlk, hown, hw, hD, hE, hA⟩ := id C
  obtain ⟨hr1, hr2, hr3, hr4⟩ := kroom_of hR
  intro H locs ls hP hS hl2
  have hrun := va_runV (As := As.map (cvv ad)) (rest := rest.map (cvv ad)) (g := F0 m pc ls ((As.reverse ++ .ref (1000 + i) :: rest).map (cvv ad))) (e := e) (meth := meth) (locs := locs) (cells := 0) (slots := 0) (below := below) ⟨hx, hb, hml, hown, hw⟩ (h l D ad τ H.size) (cwV (R := R) n hw (kgoodV ly hl) rfl hr1 hr2 ⟨rfl, ly.2.2.2.2⟩ ⟨hr3, hr4⟩) ⟨kB_blind, by rw [hyc]; exact vk_recv (i := i) hE.2.1 hi hS, fun U hU hW => ⟨rfl, kB_of C hP hS hU hW⟩⟩ rfl (by rw [List.length_map]; exact hn) hl2.1 (by simp [cvv]) (lv_room (by rw [map_cat]; exact hcat)) hd ⟨Nat.zero_le _, Nat.zero_le _⟩
  refine kcall (meth := meth) hrun hS (kA_in (hD μ) hS hA) (fun v μ' H1 locs1 hΨ hP1 hS1 => ?_)
  obtain ⟨st', e1, e2⟩ := k v μ' hΨ
  rw [← e1 ad]
  exact e2 H1 locs1 ls hP1 hS1 hl2
theorem r_callS (C : kR cc own nL R sh N ret Φ J) (ly : kYs y bytes maxL ret' n) (hl : Cond.methodLink own idx y ∈ WG) (hR : kroom rm R maxL = true) {As rest : List Value} (hn : As.length = n) (hcat : (rest.map fun v => v.category).sum ≤ 8) {Ψ : Option Value → kMem → Prop} (h : kOk y bytes maxL ret' rm sh N As μ Ψ) (hd : decode cc pc = .ok (.invokestatic idx, 3))
    (k : ∀ (v : Option Value) (μ' : kMem), Ψ v μ' → ∃ st' : List Value, (∀ ad : Nat → Nat, st'.map (cvv ad) = v.toList ++ rest.map (cvv ad)) ∧ J (pc + 3) L st' μ') : J pc L (As.reverse ++ rest) μ := by
  obtain ⟨p, l, e, s, m, args, below, meth, c, D, ad, τ, A, C, rfl⟩ := C
  obtain ⟨hx, hb, hml, hr, hlk, hown, hw, hD, hE, hA⟩ := id C
  obtain ⟨hr1, hr2, hr3, hr4⟩ := kroom_of hR
  intro H locs ls hP hS hl2
  have hrun := va_runS (As := As.map (cvv ad)) (rest := rest.map (cvv ad)) (g := F0 m pc ls ((As.reverse ++ rest).map (cvv ad))) (e := e) (meth := meth) (locs := locs) (cells := 0) (slots := 0) (below := below) ⟨hx, hb, hml, hown, hw⟩ (h l D ad τ H.size) (va_cwS (R := R) n hw (kgoodS ly hl) rfl hr1 hr2 ly.2.2.2 ⟨hr3, hr4⟩) ⟨kB_blind, fun U hU hW => ⟨rfl, kB_of C hP hS hU hW⟩⟩ rfl (by rw [List.length_map]; exact hn) hl2.1 (by simp) (lv_room (by rw [map_cat]; exact hcat)) hd ⟨Nat.zero_le _, Nat.zero_le _⟩
  refine kcall (meth := meth) hrun hS (kA_in (hD μ) hS hA) (fun v μ' H1 locs1 hΨ hP1 hS1 => ?_)
  obtain ⟨st', e1, e2⟩ := k v μ' hΨ
  rw [← e1 ad]
  exact e2 H1 locs1 ls hP1 hS1 hl2
/-- .. of a static method of a nest mate -/
def kNest (own : String) (idx : Nat) (y : MethodName) : Prop := ∀ (ad : Nat → Nat) (τ : Nat → ClassId) (D : va_G) (A : Nat → Prop) (U : State) (H : Heap), kE ad τ D A U H → va_Nw (.methodLinkNest own idx y "KeyFists") U
theorem r_callN (C : kR cc own nL R sh N ret Φ J) (ly : kYs y bytes maxL ret' n) (hl : kNest own idx y) (hR : kroom rm R maxL = true) {As rest : List Value} (hn : As.length = n) (hcat : (rest.map fun v => v.category).sum ≤ 8) {Ψ : Option Value → kMem → Prop} (h : kOk y bytes maxL ret' rm sh N As μ Ψ) (hd : decode cc pc = .ok (.invokestatic idx, 3))
    (k : ∀ (v : Option Value) (μ' : kMem), Ψ v μ' → ∃ st' : List Value, (∀ ad : Nat → Nat, st'.map (cvv ad) = v.toList ++ rest.map (cvv ad)) ∧ J (pc + 3) L st' μ') : J pc L (As.reverse ++ rest) μ := by
  obtain ⟨p, l, e, s, m, args, below, meth, c, D, ad, τ, A, C, rfl⟩ := C
  obtain ⟨hx, hb, hml, hr, hlk, hown, hw, hD, hE, hA⟩ := id C
  obtain ⟨hr1, hr2, hr3, hr4⟩ := kroom_of hR
  intro H locs ls hP hS hl2
  have hrun := va_runSN (As := As.map (cvv ad)) (rest := rest.map (cvv ad)) (g := F0 m pc ls ((As.reverse ++ rest).map (cvv ad))) (e := e) (meth := meth) (locs := locs) (cells := 0) (slots := 0) (below := below) ⟨hx, hb, hml, hown, hw⟩ (h l D ad τ H.size) ⟨va_cnB (R := R) n hw (kgoodN ly.2.2.1) rfl hr1 hr2 (hl _ _ _ _ _ _ hE) (hw _ ly.2.1) ly.2.2.2 ⟨hr3, hr4⟩, hw _ ly.1, trivial⟩ ⟨kB_blind, fun U hU hW => ⟨rfl, kB_of C hP hS hU hW⟩⟩ rfl (by rw [List.length_map]; exact hn) hl2.1 (by simp) (lv_room (by rw [map_cat]; exact hcat)) hd ⟨Nat.zero_le _, Nat.zero_le _⟩
  refine kcall (meth := meth) hrun hS (kA_in (hD μ) hS hA) (fun v μ' H1 locs1 hΨ hP1 hS1 => ?_)
  obtain ⟨st', e1, e2⟩ := k v μ' hΨ
  rw [← e1 ad]
  exact e2 H1 locs1 ls hP1 hS1 hl2
theorem kI_st {Ψ : Int32 → kMem → Prop} {rest : List Value} {J : kJ} {pc : Nat} {L : List (Option Value)} (k : ∀ (r : Int32) (μ' : kMem), Ψ r μ' → J pc L (.int r :: rest) μ') (v : Option Value) (μ' : kMem) (h : kI Ψ v μ') : ∃ st' : List Value, (∀ ad : Nat → Nat, st'.map (cvv ad) = v.toList ++ rest.map (cvv ad)) ∧ J pc L st' μ' := by
  obtain ⟨x, rfl, h⟩ := h
  exact ⟨.int x :: rest, fun ad => rfl, k x μ' h⟩
theorem kL_st {Ψ : Int64 → kMem → Prop} {rest : List Value} {J : kJ} {pc : Nat} {L : List (Option Value)} (k : ∀ (r : Int64) (μ' : kMem), Ψ r μ' → J pc L (.long r :: rest) μ') (v : Option Value) (μ' : kMem) (h : kL Ψ v μ') : ∃ st' : List Value, (∀ ad : Nat → Nat, st'.map (cvv ad) = v.toList ++ rest.map (cvv ad)) ∧ J pc L st' μ' := by
  obtain ⟨x, rfl, h⟩ := h
  exact ⟨.long x :: rest, fun ad => rfl, k x μ' h⟩
theorem kN_st {Ψ : kMem → Prop} {rest : List Value} {J : kJ} {pc : Nat} {L : List (Option Value)} (k : ∀ (μ' : kMem), Ψ μ' → J pc L rest μ') (v : Option Value) (μ' : kMem) (h : kN Ψ v μ') : ∃ st' : List Value, (∀ ad : Nat → Nat, st'.map (cvv ad) = v.toList ++ rest.map (cvv ad)) ∧ J pc L st' μ' := by
  obtain ⟨rfl, h⟩ := h
  exact ⟨rest, fun ad => rfl, k μ' h⟩
theorem kP_k {x : Int32} {μ0 : kMem} {J : kJ} {pc : Nat} {L : List (Option Value)} {rest : List Value} (k : J pc L (.int x :: rest) μ0) (r : Int32) (μ' : kMem) (h : r = x ∧ μ' = μ0) : J pc L (.int r :: rest) μ' := by
  obtain ⟨rfl, rfl⟩ := h
  exact k
theorem kPL_k {x : Int64} {μ0 : kMem} {J : kJ} {pc : Nat} {L : List (Option Value)} {rest : List Value} (k : J pc L (.long x :: rest) μ0) (r : Int64) (μ' : kMem) (h : r = x ∧ μ' = μ0) : J pc L (.long r :: rest) μ' := by
  obtain ⟨rfl, rfl⟩ := h
  exact k
theorem r_v0I (C : kR cc own nL R sh N ret Φ J) (ly : kYv y bytes maxL ret' 0) (hl : Cond.methodLink own idx y ∈ WG) (hd : decode cc pc = .ok (.invokevirtual idx, 3)) (hR : kroom rm R maxL = true) {o ci : Nat} {fs : List (Option Nat)} {T : u_T} {nf : Nat} (ho : o < N) (hs : sh o = .inl (ci, fs)) (hc : vwCl[ci]? = some (y.cls, T, nf))  (hcat : (st.map fun v => v.category).sum ≤ 8) {Ψ : Int32 → kMem → Prop} (h : kOk y bytes maxL ret' rm sh N (.ref o :: []) μ (kI Ψ)) (k : ∀ (r : Int32) (μ' : kMem), Ψ r μ' → J (pc + 3) L (.int r :: st) μ') : J pc L (.ref o :: st) μ := r_callV C ly hl hR ho hs hc (As := []) (rest := st) rfl hcat h hd (kI_st k)
theorem r_s0I (C : kR cc own nL R sh N ret Φ J) (ly : kYs y bytes maxL ret' 0) (hl : Cond.methodLink own idx y ∈ WG) (hd : decode cc pc = .ok (.invokestatic idx, 3)) (hR : kroom rm R maxL = true)  (hcat : (st.map fun v => v.category).sum ≤ 8) {Ψ : Int32 → kMem → Prop} (h : kOk y bytes maxL ret' rm sh N [] μ (kI Ψ)) (k : ∀ (r : Int32) (μ' : kMem), Ψ r μ' → J (pc + 3) L (.int r :: st) μ') : J pc L (st) μ := r_callS C ly hl hR (As := []) (rest := st) rfl hcat h hd (kI_st k)
theorem r_n0I (C : kR cc own nL R sh N ret Φ J) (ly : kYs y bytes maxL ret' 0) (hl : kNest own idx y) (hd : decode cc pc = .ok (.invokestatic idx, 3)) (hR : kroom rm R maxL = true)  (hcat : (st.map fun v => v.category).sum ≤ 8) {Ψ : Int32 → kMem → Prop} (h : kOk y bytes maxL ret' rm sh N [] μ (kI Ψ)) (k : ∀ (r : Int32) (μ' : kMem), Ψ r μ' → J (pc + 3) L (.int r :: st) μ') : J pc L (st) μ := r_callN C ly hl hR (As := []) (rest := st) rfl hcat h hd (kI_st k)
theorem r_t0I (C : kR cc own nL R sh N ret Φ J) (ly : kYv y bytes maxL ret' 0) (hyc : y.cls = "java/lang/String") (hl : Cond.methodLink own idx y ∈ WG) (hd : decode cc pc = .ok (.invokevirtual idx, 3)) (hR : kroom rm R maxL = true) {i : Nat} (hi : i < 3)  (hcat : (st.map fun v => v.category).sum ≤ 8) {Ψ : Int32 → kMem → Prop} (h : kOk y bytes maxL ret' rm sh N (.ref (1000 + i) :: []) μ (kI Ψ)) (k : ∀ (r : Int32) (μ' : kMem), Ψ r μ' → J (pc + 3) L (.int r :: st) μ') : J pc L (.ref (1000 + i) :: st) μ := r_callT C ly hyc hl hR hi (As := []) (rest := st) rfl hcat h hd (kI_st k)
theorem r_v0L (C : kR cc own nL R sh N ret Φ J) (ly : kYv y bytes maxL ret' 0) (hl : Cond.methodLink own idx y ∈ WG) (hd : decode cc pc = .ok (.invokevirtual idx, 3)) (hR : kroom rm R maxL = true) {o ci : Nat} {fs : List (Option Nat)} {T : u_T} {nf : Nat} (ho : o < N) (hs : sh o = .inl (ci, fs)) (hc : vwCl[ci]? = some (y.cls, T, nf))  (hcat : (st.map fun v => v.category).sum ≤ 8) {Ψ : Int64 → kMem → Prop} (h : kOk y bytes maxL ret' rm sh N (.ref o :: []) μ (kL Ψ)) (k : ∀ (r : Int64) (μ' : kMem), Ψ r μ' → J (pc + 3) L (.long r :: st) μ') : J pc L (.ref o :: st) μ := r_callV C ly hl hR ho hs hc (As := []) (rest := st) rfl hcat h hd (kL_st k)
theorem r_s0L (C : kR cc own nL R sh N ret Φ J) (ly : kYs y bytes maxL ret' 0) (hl : Cond.methodLink own idx y ∈ WG) (hd : decode cc pc = .ok (.invokestatic idx, 3)) (hR : kroom rm R maxL = true)  (hcat : (st.map fun v => v.category).sum ≤ 8) {Ψ : Int64 → kMem → Prop} (h : kOk y bytes maxL ret' rm sh N [] μ (kL Ψ)) (k : ∀ (r : Int64) (μ' : kMem), Ψ r μ' → J (pc + 3) L (.long r :: st) μ') : J pc L (st) μ := r_callS C ly hl hR (As := []) (rest := st) rfl hcat h hd (kL_st k)
theorem r_v0N (C : kR cc own nL R sh N ret Φ J) (ly : kYv y bytes maxL ret' 0) (hl : Cond.methodLink own idx y ∈ WG) (hd : decode cc pc = .ok (.invokevirtual idx, 3)) (hR : kroom rm R maxL = true) {o ci : Nat} {fs : List (Option Nat)} {T : u_T} {nf : Nat} (ho : o < N) (hs : sh o = .inl (ci, fs)) (hc : vwCl[ci]? = some (y.cls, T, nf))  (hcat : (st.map fun v => v.category).sum ≤ 8) {Ψ : kMem → Prop} (h : kOk y bytes maxL ret' rm sh N (.ref o :: []) μ (kN Ψ)) (k : ∀ (μ' : kMem), Ψ μ' → J (pc + 3) L st μ') : J pc L (.ref o :: st) μ := r_callV C ly hl hR ho hs hc (As := []) (rest := st) rfl hcat h hd (kN_st k)
theorem r_s0N (C : kR cc own nL R sh N ret Φ J) (ly : kYs y bytes maxL ret' 0) (hl : Cond.methodLink own idx y ∈ WG) (hd : decode cc pc = .ok (.invokestatic idx, 3)) (hR : kroom rm R maxL = true)  (hcat : (st.map fun v => v.category).sum ≤ 8) {Ψ : kMem → Prop} (h : kOk y bytes maxL ret' rm sh N [] μ (kN Ψ)) (k : ∀ (μ' : kMem), Ψ μ' → J (pc + 3) L st μ') : J pc L (st) μ := r_callS C ly hl hR (As := []) (rest := st) rfl hcat h hd (kN_st k)
theorem r_v0P (C : kR cc own nL R sh N ret Φ J) (ly : kYv y bytes maxL ret' 0) (hl : Cond.methodLink own idx y ∈ WG) (hd : decode cc pc = .ok (.invokevirtual idx, 3)) (hR : kroom rm R maxL = true) {o ci : Nat} {fs : List (Option Nat)} {T : u_T} {nf : Nat} (ho : o < N) (hs : sh o = .inl (ci, fs)) (hc : vwCl[ci]? = some (y.cls, T, nf))  (hcat : (st.map fun v => v.category).sum ≤ 8) {x : Int32} {μ0 : kMem} (h : kOk y bytes maxL ret' rm sh N (.ref o :: []) μ (kP x μ0)) (k : J (pc + 3) L (.int x :: st) μ0) : J pc L (.ref o :: st) μ := r_callV C ly hl hR ho hs hc (As := []) (rest := st) rfl hcat h hd (kI_st (kP_k k))
theorem r_s0P (C : kR cc own nL R sh N ret Φ J) (ly : kYs y bytes maxL ret' 0) (hl : Cond.methodLink own idx y ∈ WG) (hd : decode cc pc = .ok (.invokestatic idx, 3)) (hR : kroom rm R maxL = true)  (hcat : (st.map fun v => v.category).sum ≤ 8) {x : Int32} {μ0 : kMem} (h : kOk y bytes maxL ret' rm sh N [] μ (kP x μ0)) (k : J (pc + 3) L (.int x :: st) μ0) : J pc L (st) μ := r_callS C ly hl hR (As := []) (rest := st) rfl hcat h hd (kI_st (kP_k k))
theorem r_n0P (C : kR cc own nL R sh N ret Φ J) (ly : kYs y bytes maxL ret' 0) (hl : kNest own idx y) (hd : decode cc pc = .ok (.invokestatic idx, 3)) (hR : kroom rm R maxL = true)  (hcat : (st.map fun v => v.category).sum ≤ 8) {x : Int32} {μ0 : kMem} (h : kOk y bytes maxL ret' rm sh N [] μ (kP x μ0)) (k : J (pc + 3) L (.int x :: st) μ0) : J pc L (st) μ := r_callN C ly hl hR (As := []) (rest := st) rfl hcat h hd (kI_st (kP_k k))
theorem r_t0P (C : kR cc own nL R sh N ret Φ J) (ly : kYv y bytes maxL ret' 0) (hyc : y.cls = "java/lang/String") (hl : Cond.methodLink own idx y ∈ WG) (hd : decode cc pc = .ok (.invokevirtual idx, 3)) (hR : kroom rm R maxL = true) {i : Nat} (hi : i < 3)  (hcat : (st.map fun v => v.category).sum ≤ 8) {x : Int32} {μ0 : kMem} (h : kOk y bytes maxL ret' rm sh N (.ref (1000 + i) :: []) μ (kP x μ0)) (k : J (pc + 3) L (.int x :: st) μ0) : J pc L (.ref (1000 + i) :: st) μ := r_callT C ly hyc hl hR hi (As := []) (rest := st) rfl hcat h hd (kI_st (kP_k k))
theorem r_v0Q (C : kR cc own nL R sh N ret Φ J) (ly : kYv y bytes maxL ret' 0) (hl : Cond.methodLink own idx y ∈ WG) (hd : decode cc pc = .ok (.invokevirtual idx, 3)) (hR : kroom rm R maxL = true) {o ci : Nat} {fs : List (Option Nat)} {T : u_T} {nf : Nat} (ho : o < N) (hs : sh o = .inl (ci, fs)) (hc : vwCl[ci]? = some (y.cls, T, nf))  (hcat : (st.map fun v => v.category).sum ≤ 8) {x : Int64} {μ0 : kMem} (h : kOk y bytes maxL ret' rm sh N (.ref o :: []) μ (kPL x μ0)) (k : J (pc + 3) L (.long x :: st) μ0) : J pc L (.ref o :: st) μ := r_callV C ly hl hR ho hs hc (As := []) (rest := st) rfl hcat h hd (kL_st (kPL_k k))
theorem r_s0Q (C : kR cc own nL R sh N ret Φ J) (ly : kYs y bytes maxL ret' 0) (hl : Cond.methodLink own idx y ∈ WG) (hd : decode cc pc = .ok (.invokestatic idx, 3)) (hR : kroom rm R maxL = true)  (hcat : (st.map fun v => v.category).sum ≤ 8) {x : Int64} {μ0 : kMem} (h : kOk y bytes maxL ret' rm sh N [] μ (kPL x μ0)) (k : J (pc + 3) L (.long x :: st) μ0) : J pc L (st) μ := r_callS C ly hl hR (As := []) (rest := st) rfl hcat h hd (kL_st (kPL_k k))
theorem r_v1I (C : kR cc own nL R sh N ret Φ J) (ly : kYv y bytes maxL ret' 1) (hl : Cond.methodLink own idx y ∈ WG) (hd : decode cc pc = .ok (.invokevirtual idx, 3)) (hR : kroom rm R maxL = true) {o ci : Nat} {fs : List (Option Nat)} {T : u_T} {nf : Nat} (ho : o < N) (hs : sh o = .inl (ci, fs)) (hc : vwCl[ci]? = some (y.cls, T, nf)) {a1 : Value} (hcat : (st.map fun v => v.category).sum ≤ 8) {Ψ : Int32 → kMem → Prop} (h : kOk y bytes maxL ret' rm sh N (.ref o :: [a1]) μ (kI Ψ)) (k : ∀ (r : Int32) (μ' : kMem), Ψ r μ' → J (pc + 3) L (.int r :: st) μ') : J pc L (a1 :: .ref o :: st) μ := r_callV C ly hl hR ho hs hc (As := [a1]) (rest := st) rfl hcat h hd (kI_st k)
theorem r_s1I (C : kR cc own nL R sh N ret Φ J) (ly : kYs y bytes maxL ret' 1) (hl : Cond.methodLink own idx y ∈ WG) (hd : decode cc pc = .ok (.invokestatic idx, 3)) (hR : kroom rm R maxL = true) {a1 : Value} (hcat : (st.map fun v => v.category).sum ≤ 8) {Ψ : Int32 → kMem → Prop} (h : kOk y bytes maxL ret' rm sh N [a1] μ (kI Ψ)) (k : ∀ (r : Int32) (μ' : kMem), Ψ r μ' → J (pc + 3) L (.int r :: st) μ') : J pc L (a1 :: st) μ := r_callS C ly hl hR (As := [a1]) (rest := st) rfl hcat h hd (kI_st k)
theorem r_n1I (C : kR cc own nL R sh N ret Φ J) (ly : kYs y bytes maxL ret' 1) (hl : kNest own idx y) (hd : decode cc pc = .ok (.invokestatic idx, 3)) (hR : kroom rm R maxL = true) {a1 : Value} (hcat : (st.map fun v => v.category).sum ≤ 8) {Ψ : Int32 → kMem → Prop} (h : kOk y bytes maxL ret' rm sh N [a1] μ (kI Ψ)) (k : ∀ (r : Int32) (μ' : kMem), Ψ r μ' → J (pc + 3) L (.int r :: st) μ') : J pc L (a1 :: st) μ := r_callN C ly hl hR (As := [a1]) (rest := st) rfl hcat h hd (kI_st k)
theorem r_t1I (C : kR cc own nL R sh N ret Φ J) (ly : kYv y bytes maxL ret' 1) (hyc : y.cls = "java/lang/String") (hl : Cond.methodLink own idx y ∈ WG) (hd : decode cc pc = .ok (.invokevirtual idx, 3)) (hR : kroom rm R maxL = true) {i : Nat} (hi : i < 3) {a1 : Value} (hcat : (st.map fun v => v.category).sum ≤ 8) {Ψ : Int32 → kMem → Prop} (h : kOk y bytes maxL ret' rm sh N (.ref (1000 + i) :: [a1]) μ (kI Ψ)) (k : ∀ (r : Int32) (μ' : kMem), Ψ r μ' → J (pc + 3) L (.int r :: st) μ') : J pc L (a1 :: .ref (1000 + i) :: st) μ := r_callT C ly hyc hl hR hi (As := [a1]) (rest := st) rfl hcat h hd (kI_st k)
theorem r_v1L (C : kR cc own nL R sh N ret Φ J) (ly : kYv y bytes maxL ret' 1) (hl : Cond.methodLink own idx y ∈ WG) (hd : decode cc pc = .ok (.invokevirtual idx, 3)) (hR : kroom rm R maxL = true) {o ci : Nat} {fs : List (Option Nat)} {T : u_T} {nf : Nat} (ho : o < N) (hs : sh o = .inl (ci, fs)) (hc : vwCl[ci]? = some (y.cls, T, nf)) {a1 : Value} (hcat : (st.map fun v => v.category).sum ≤ 8) {Ψ : Int64 → kMem → Prop} (h : kOk y bytes maxL ret' rm sh N (.ref o :: [a1]) μ (kL Ψ)) (k : ∀ (r : Int64) (μ' : kMem), Ψ r μ' → J (pc + 3) L (.long r :: st) μ') : J pc L (a1 :: .ref o :: st) μ := r_callV C ly hl hR ho hs hc (As := [a1]) (rest := st) rfl hcat h hd (kL_st k)
theorem r_s1L (C : kR cc own nL R sh N ret Φ J) (ly : kYs y bytes maxL ret' 1) (hl : Cond.methodLink own idx y ∈ WG) (hd : decode cc pc = .ok (.invokestatic idx, 3)) (hR : kroom rm R maxL = true) {a1 : Value} (hcat : (st.map fun v => v.category).sum ≤ 8) {Ψ : Int64 → kMem → Prop} (h : kOk y bytes maxL ret' rm sh N [a1] μ (kL Ψ)) (k : ∀ (r : Int64) (μ' : kMem), Ψ r μ' → J (pc + 3) L (.long r :: st) μ') : J pc L (a1 :: st) μ := r_callS C ly hl hR (As := [a1]) (rest := st) rfl hcat h hd (kL_st k)
theorem r_v1N (C : kR cc own nL R sh N ret Φ J) (ly : kYv y bytes maxL ret' 1) (hl : Cond.methodLink own idx y ∈ WG) (hd : decode cc pc = .ok (.invokevirtual idx, 3)) (hR : kroom rm R maxL = true) {o ci : Nat} {fs : List (Option Nat)} {T : u_T} {nf : Nat} (ho : o < N) (hs : sh o = .inl (ci, fs)) (hc : vwCl[ci]? = some (y.cls, T, nf)) {a1 : Value} (hcat : (st.map fun v => v.category).sum ≤ 8) {Ψ : kMem → Prop} (h : kOk y bytes maxL ret' rm sh N (.ref o :: [a1]) μ (kN Ψ)) (k : ∀ (μ' : kMem), Ψ μ' → J (pc + 3) L st μ') : J pc L (a1 :: .ref o :: st) μ := r_callV C ly hl hR ho hs hc (As := [a1]) (rest := st) rfl hcat h hd (kN_st k)
theorem r_s1N (C : kR cc own nL R sh N ret Φ J) (ly : kYs y bytes maxL ret' 1) (hl : Cond.methodLink own idx y ∈ WG) (hd : decode cc pc = .ok (.invokestatic idx, 3)) (hR : kroom rm R maxL = true) {a1 : Value} (hcat : (st.map fun v => v.category).sum ≤ 8) {Ψ : kMem → Prop} (h : kOk y bytes maxL ret' rm sh N [a1] μ (kN Ψ)) (k : ∀ (μ' : kMem), Ψ μ' → J (pc + 3) L st μ') : J pc L (a1 :: st) μ := r_callS C ly hl hR (As := [a1]) (rest := st) rfl hcat h hd (kN_st k)
theorem r_v1P (C : kR cc own nL R sh N ret Φ J) (ly : kYv y bytes maxL ret' 1) (hl : Cond.methodLink own idx y ∈ WG) (hd : decode cc pc = .ok (.invokevirtual idx, 3)) (hR : kroom rm R maxL = true) {o ci : Nat} {fs : List (Option Nat)} {T : u_T} {nf : Nat} (ho : o < N) (hs : sh o = .inl (ci, fs)) (hc : vwCl[ci]? = some (y.cls, T, nf)) {a1 : Value} (hcat : (st.map fun v => v.category).sum ≤ 8) {x : Int32} {μ0 : kMem} (h : kOk y bytes maxL ret' rm sh N (.ref o :: [a1]) μ (kP x μ0)) (k : J (pc + 3) L (.int x :: st) μ0) : J pc L (a1 :: .ref o :: st) μ := r_callV C ly hl hR ho hs hc (As := [a1]) (rest := st) rfl hcat h hd (kI_st (kP_k k))
theorem r_s1P (C : kR cc own nL R sh N ret Φ J) (ly : kYs y bytes maxL ret' 1) (hl : Cond.methodLink own idx y ∈ WG) (hd : decode cc pc = .ok (.invokestatic idx, 3)) (hR : kroom rm R maxL = true) {a1 : Value} (hcat : (st.map fun v => v.category).sum ≤ 8) {x : Int32} {μ0 : kMem} (h : kOk y bytes maxL ret' rm sh N [a1] μ (kP x μ0)) (k : J (pc + 3) L (.int x :: st) μ0) : J pc L (a1 :: st) μ := r_callS C ly hl hR (As := [a1]) (rest := st) rfl hcat h hd (kI_st (kP_k k))
theorem r_n1P (C : kR cc own nL R sh N ret Φ J) (ly : kYs y bytes maxL ret' 1) (hl : kNest own idx y) (hd : decode cc pc = .ok (.invokestatic idx, 3)) (hR : kroom rm R maxL = true) {a1 : Value} (hcat : (st.map fun v => v.category).sum ≤ 8) {x : Int32} {μ0 : kMem} (h : kOk y bytes maxL ret' rm sh N [a1] μ (kP x μ0)) (k : J (pc + 3) L (.int x :: st) μ0) : J pc L (a1 :: st) μ := r_callN C ly hl hR (As := [a1]) (rest := st) rfl hcat h hd (kI_st (kP_k k))
theorem r_t1P (C : kR cc own nL R sh N ret Φ J) (ly : kYv y bytes maxL ret' 1) (hyc : y.cls = "java/lang/String") (hl : Cond.methodLink own idx y ∈ WG) (hd : decode cc pc = .ok (.invokevirtual idx, 3)) (hR : kroom rm R maxL = true) {i : Nat} (hi : i < 3) {a1 : Value} (hcat : (st.map fun v => v.category).sum ≤ 8) {x : Int32} {μ0 : kMem} (h : kOk y bytes maxL ret' rm sh N (.ref (1000 + i) :: [a1]) μ (kP x μ0)) (k : J (pc + 3) L (.int x :: st) μ0) : J pc L (a1 :: .ref (1000 + i) :: st) μ := r_callT C ly hyc hl hR hi (As := [a1]) (rest := st) rfl hcat h hd (kI_st (kP_k k))
theorem r_v1Q (C : kR cc own nL R sh N ret Φ J) (ly : kYv y bytes maxL ret' 1) (hl : Cond.methodLink own idx y ∈ WG) (hd : decode cc pc = .ok (.invokevirtual idx, 3)) (hR : kroom rm R maxL = true) {o ci : Nat} {fs : List (Option Nat)} {T : u_T} {nf : Nat} (ho : o < N) (hs : sh o = .inl (ci, fs)) (hc : vwCl[ci]? = some (y.cls, T, nf)) {a1 : Value} (hcat : (st.map fun v => v.category).sum ≤ 8) {x : Int64} {μ0 : kMem} (h : kOk y bytes maxL ret' rm sh N (.ref o :: [a1]) μ (kPL x μ0)) (k : J (pc + 3) L (.long x :: st) μ0) : J pc L (a1 :: .ref o :: st) μ := r_callV C ly hl hR ho hs hc (As := [a1]) (rest := st) rfl hcat h hd (kL_st (kPL_k k))
theorem r_s1Q (C : kR cc own nL R sh N ret Φ J) (ly : kYs y bytes maxL ret' 1) (hl : Cond.methodLink own idx y ∈ WG) (hd : decode cc pc = .ok (.invokestatic idx, 3)) (hR : kroom rm R maxL = true) {a1 : Value} (hcat : (st.map fun v => v.category).sum ≤ 8) {x : Int64} {μ0 : kMem} (h : kOk y bytes maxL ret' rm sh N [a1] μ (kPL x μ0)) (k : J (pc + 3) L (.long x :: st) μ0) : J pc L (a1 :: st) μ := r_callS C ly hl hR (As := [a1]) (rest := st) rfl hcat h hd (kL_st (kPL_k k))
theorem r_v2I (C : kR cc own nL R sh N ret Φ J) (ly : kYv y bytes maxL ret' 2) (hl : Cond.methodLink own idx y ∈ WG) (hd : decode cc pc = .ok (.invokevirtual idx, 3)) (hR : kroom rm R maxL = true) {o ci : Nat} {fs : List (Option Nat)} {T : u_T} {nf : Nat} (ho : o < N) (hs : sh o = .inl (ci, fs)) (hc : vwCl[ci]? = some (y.cls, T, nf)) {a1 a2 : Value} (hcat : (st.map fun v => v.category).sum ≤ 8) {Ψ : Int32 → kMem → Prop} (h : kOk y bytes maxL ret' rm sh N (.ref o :: [a1, a2]) μ (kI Ψ)) (k : ∀ (r : Int32) (μ' : kMem), Ψ r μ' → J (pc + 3) L (.int r :: st) μ') : J pc L (a2 :: a1 :: .ref o :: st) μ := r_callV C ly hl hR ho hs hc (As := [a1, a2]) (rest := st) rfl hcat h hd (kI_st k)
theorem r_s2I (C : kR cc own nL R sh N ret Φ J) (ly : kYs y bytes maxL ret' 2) (hl : Cond.methodLink own idx y ∈ WG) (hd : decode cc pc = .ok (.invokestatic idx, 3)) (hR : kroom rm R maxL = true) {a1 a2 : Value} (hcat : (st.map fun v => v.category).sum ≤ 8) {Ψ : Int32 → kMem → Prop} (h : kOk y bytes maxL ret' rm sh N [a1, a2] μ (kI Ψ)) (k : ∀ (r : Int32) (μ' : kMem), Ψ r μ' → J (pc + 3) L (.int r :: st) μ') : J pc L (a2 :: a1 :: st) μ := r_callS C ly hl hR (As := [a1, a2]) (rest := st) rfl hcat h hd (kI_st k)
theorem r_n2I (C : kR cc own nL R sh N ret Φ J) (ly : kYs y bytes maxL ret' 2) (hl : kNest own idx y) (hd : decode cc pc = .ok (.invokestatic idx, 3)) (hR : kroom rm R maxL = true) {a1 a2 : Value} (hcat : (st.map fun v => v.category).sum ≤ 8) {Ψ : Int32 → kMem → Prop} (h : kOk y bytes maxL ret' rm sh N [a1, a2] μ (kI Ψ)) (k : ∀ (r : Int32) (μ' : kMem), Ψ r μ' → J (pc + 3) L (.int r :: st) μ') : J pc L (a2 :: a1 :: st) μ := r_callN C ly hl hR (As := [a1, a2]) (rest := st) rfl hcat h hd (kI_st k)
theorem r_t2I (C : kR cc own nL R sh N ret Φ J) (ly : kYv y bytes maxL ret' 2) (hyc : y.cls = "java/lang/String") (hl : Cond.methodLink own idx y ∈ WG) (hd : decode cc pc = .ok (.invokevirtual idx, 3)) (hR : kroom rm R maxL = true) {i : Nat} (hi : i < 3) {a1 a2 : Value} (hcat : (st.map fun v => v.category).sum ≤ 8) {Ψ : Int32 → kMem → Prop} (h : kOk y bytes maxL ret' rm sh N (.ref (1000 + i) :: [a1, a2]) μ (kI Ψ)) (k : ∀ (r : Int32) (μ' : kMem), Ψ r μ' → J (pc + 3) L (.int r :: st) μ') : J pc L (a2 :: a1 :: .ref (1000 + i) :: st) μ := r_callT C ly hyc hl hR hi (As := [a1, a2]) (rest := st) rfl hcat h hd (kI_st k)
theorem r_v2L (C : kR cc own nL R sh N ret Φ J) (ly : kYv y bytes maxL ret' 2) (hl : Cond.methodLink own idx y ∈ WG) (hd : decode cc pc = .ok (.invokevirtual idx, 3)) (hR : kroom rm R maxL = true) {o ci : Nat} {fs : List (Option Nat)} {T : u_T} {nf : Nat} (ho : o < N) (hs : sh o = .inl (ci, fs)) (hc : vwCl[ci]? = some (y.cls, T, nf)) {a1 a2 : Value} (hcat : (st.map fun v => v.category).sum ≤ 8) {Ψ : Int64 → kMem → Prop} (h : kOk y bytes maxL ret' rm sh N (.ref o :: [a1, a2]) μ (kL Ψ)) (k : ∀ (r : Int64) (μ' : kMem), Ψ r μ' → J (pc + 3) L (.long r :: st) μ') : J pc L (a2 :: a1 :: .ref o :: st) μ := r_callV C ly hl hR ho hs hc (As := [a1, a2]) (rest := st) rfl hcat h hd (kL_st k)
theorem r_s2L (C : kR cc own nL R sh N ret Φ J) (ly : kYs y bytes maxL ret' 2) (hl : Cond.methodLink own idx y ∈ WG) (hd : decode cc pc = .ok (.invokestatic idx, 3)) (hR : kroom rm R maxL = true) {a1 a2 : Value} (hcat : (st.map fun v => v.category).sum ≤ 8) {Ψ : Int64 → kMem → Prop} (h : kOk y bytes maxL ret' rm sh N [a1, a2] μ (kL Ψ)) (k : ∀ (r : Int64) (μ' : kMem), Ψ r μ' → J (pc + 3) L (.long r :: st) μ') : J pc L (a2 :: a1 :: st) μ := r_callS C ly hl hR (As := [a1, a2]) (rest := st) rfl hcat h hd (kL_st k)
theorem r_v2N (C : kR cc own nL R sh N ret Φ J) (ly : kYv y bytes maxL ret' 2) (hl : Cond.methodLink own idx y ∈ WG) (hd : decode cc pc = .ok (.invokevirtual idx, 3)) (hR : kroom rm R maxL = true) {o ci : Nat} {fs : List (Option Nat)} {T : u_T} {nf : Nat} (ho : o < N) (hs : sh o = .inl (ci, fs)) (hc : vwCl[ci]? = some (y.cls, T, nf)) {a1 a2 : Value} (hcat : (st.map fun v => v.category).sum ≤ 8) {Ψ : kMem → Prop} (h : kOk y bytes maxL ret' rm sh N (.ref o :: [a1, a2]) μ (kN Ψ)) (k : ∀ (μ' : kMem), Ψ μ' → J (pc + 3) L st μ') : J pc L (a2 :: a1 :: .ref o :: st) μ := r_callV C ly hl hR ho hs hc (As := [a1, a2]) (rest := st) rfl hcat h hd (kN_st k)
theorem r_s2N (C : kR cc own nL R sh N ret Φ J) (ly : kYs y bytes maxL ret' 2) (hl : Cond.methodLink own idx y ∈ WG) (hd : decode cc pc = .ok (.invokestatic idx, 3)) (hR : kroom rm R maxL = true) {a1 a2 : Value} (hcat : (st.map fun v => v.category).sum ≤ 8) {Ψ : kMem → Prop} (h : kOk y bytes maxL ret' rm sh N [a1, a2] μ (kN Ψ)) (k : ∀ (μ' : kMem), Ψ μ' → J (pc + 3) L st μ') : J pc L (a2 :: a1 :: st) μ := r_callS C ly hl hR (As := [a1, a2]) (rest := st) rfl hcat h hd (kN_st k)
theorem r_v2P (C : kR cc own nL R sh N ret Φ J) (ly : kYv y bytes maxL ret' 2) (hl : Cond.methodLink own idx y ∈ WG) (hd : decode cc pc = .ok (.invokevirtual idx, 3)) (hR : kroom rm R maxL = true) {o ci : Nat} {fs : List (Option Nat)} {T : u_T} {nf : Nat} (ho : o < N) (hs : sh o = .inl (ci, fs)) (hc : vwCl[ci]? = some (y.cls, T, nf)) {a1 a2 : Value} (hcat : (st.map fun v => v.category).sum ≤ 8) {x : Int32} {μ0 : kMem} (h : kOk y bytes maxL ret' rm sh N (.ref o :: [a1, a2]) μ (kP x μ0)) (k : J (pc + 3) L (.int x :: st) μ0) : J pc L (a2 :: a1 :: .ref o :: st) μ := r_callV C ly hl hR ho hs hc (As := [a1, a2]) (rest := st) rfl hcat h hd (kI_st (kP_k k))
theorem r_s2P (C : kR cc own nL R sh N ret Φ J) (ly : kYs y bytes maxL ret' 2) (hl : Cond.methodLink own idx y ∈ WG) (hd : decode cc pc = .ok (.invokestatic idx, 3)) (hR : kroom rm R maxL = true) {a1 a2 : Value} (hcat : (st.map fun v => v.category).sum ≤ 8) {x : Int32} {μ0 : kMem} (h : kOk y bytes maxL ret' rm sh N [a1, a2] μ (kP x μ0)) (k : J (pc + 3) L (.int x :: st) μ0) : J pc L (a2 :: a1 :: st) μ := r_callS C ly hl hR (As := [a1, a2]) (rest := st) rfl hcat h hd (kI_st (kP_k k))
theorem r_n2P (C : kR cc own nL R sh N ret Φ J) (ly : kYs y bytes maxL ret' 2) (hl : kNest own idx y) (hd : decode cc pc = .ok (.invokestatic idx, 3)) (hR : kroom rm R maxL = true) {a1 a2 : Value} (hcat : (st.map fun v => v.category).sum ≤ 8) {x : Int32} {μ0 : kMem} (h : kOk y bytes maxL ret' rm sh N [a1, a2] μ (kP x μ0)) (k : J (pc + 3) L (.int x :: st) μ0) : J pc L (a2 :: a1 :: st) μ := r_callN C ly hl hR (As := [a1, a2]) (rest := st) rfl hcat h hd (kI_st (kP_k k))
theorem r_t2P (C : kR cc own nL R sh N ret Φ J) (ly : kYv y bytes maxL ret' 2) (hyc : y.cls = "java/lang/String") (hl : Cond.methodLink own idx y ∈ WG) (hd : decode cc pc = .ok (.invokevirtual idx, 3)) (hR : kroom rm R maxL = true) {i : Nat} (hi : i < 3) {a1 a2 : Value} (hcat : (st.map fun v => v.category).sum ≤ 8) {x : Int32} {μ0 : kMem} (h : kOk y bytes maxL ret' rm sh N (.ref (1000 + i) :: [a1, a2]) μ (kP x μ0)) (k : J (pc + 3) L (.int x :: st) μ0) : J pc L (a2 :: a1 :: .ref (1000 + i) :: st) μ := r_callT C ly hyc hl hR hi (As := [a1, a2]) (rest := st) rfl hcat h hd (kI_st (kP_k k))
theorem r_v2Q (C : kR cc own nL R sh N ret Φ J) (ly : kYv y bytes maxL ret' 2) (hl : Cond.methodLink own idx y ∈ WG) (hd : decode cc pc = .ok (.invokevirtual idx, 3)) (hR : kroom rm R maxL = true) {o ci : Nat} {fs : List (Option Nat)} {T : u_T} {nf : Nat} (ho : o < N) (hs : sh o = .inl (ci, fs)) (hc : vwCl[ci]? = some (y.cls, T, nf)) {a1 a2 : Value} (hcat : (st.map fun v => v.category).sum ≤ 8) {x : Int64} {μ0 : kMem} (h : kOk y bytes maxL ret' rm sh N (.ref o :: [a1, a2]) μ (kPL x μ0)) (k : J (pc + 3) L (.long x :: st) μ0) : J pc L (a2 :: a1 :: .ref o :: st) μ := r_callV C ly hl hR ho hs hc (As := [a1, a2]) (rest := st) rfl hcat h hd (kL_st (kPL_k k))
theorem r_s2Q (C : kR cc own nL R sh N ret Φ J) (ly : kYs y bytes maxL ret' 2) (hl : Cond.methodLink own idx y ∈ WG) (hd : decode cc pc = .ok (.invokestatic idx, 3)) (hR : kroom rm R maxL = true) {a1 a2 : Value} (hcat : (st.map fun v => v.category).sum ≤ 8) {x : Int64} {μ0 : kMem} (h : kOk y bytes maxL ret' rm sh N [a1, a2] μ (kPL x μ0)) (k : J (pc + 3) L (.long x :: st) μ0) : J pc L (a2 :: a1 :: st) μ := r_callS C ly hl hR (As := [a1, a2]) (rest := st) rfl hcat h hd (kL_st (kPL_k k))
theorem r_v3I (C : kR cc own nL R sh N ret Φ J) (ly : kYv y bytes maxL ret' 3) (hl : Cond.methodLink own idx y ∈ WG) (hd : decode cc pc = .ok (.invokevirtual idx, 3)) (hR : kroom rm R maxL = true) {o ci : Nat} {fs : List (Option Nat)} {T : u_T} {nf : Nat} (ho : o < N) (hs : sh o = .inl (ci, fs)) (hc : vwCl[ci]? = some (y.cls, T, nf)) {a1 a2 a3 : Value} (hcat : (st.map fun v => v.category).sum ≤ 8) {Ψ : Int32 → kMem → Prop} (h : kOk y bytes maxL ret' rm sh N (.ref o :: [a1, a2, a3]) μ (kI Ψ)) (k : ∀ (r : Int32) (μ' : kMem), Ψ r μ' → J (pc + 3) L (.int r :: st) μ') : J pc L (a3 :: a2 :: a1 :: .ref o :: st) μ := r_callV C ly hl hR ho hs hc (As := [a1, a2, a3]) (rest := st) rfl hcat h hd (kI_st k)
theorem r_s3I (C : kR cc own nL R sh N ret Φ J) (ly : kYs y bytes maxL ret' 3) (hl : Cond.methodLink own idx y ∈ WG) (hd : decode cc pc = .ok (.invokestatic idx, 3)) (hR : kroom rm R maxL = true) {a1 a2 a3 : Value} (hcat : (st.map fun v => v.category).sum ≤ 8) {Ψ : Int32 → kMem → Prop} (h : kOk y bytes maxL ret' rm sh N [a1, a2, a3] μ (kI Ψ)) (k : ∀ (r : Int32) (μ' : kMem), Ψ r μ' → J (pc + 3) L (.int r :: st) μ') : J pc L (a3 :: a2 :: a1 :: st) μ := r_callS C ly hl hR (As := [a1, a2, a3]) (rest := st) rfl hcat h hd (kI_st k)
theorem r_v3L (C : kR cc own nL R sh N ret Φ J) (ly : kYv y bytes maxL ret' 3) (hl : Cond.methodLink own idx y ∈ WG) (hd : decode cc pc = .ok (.invokevirtual idx, 3)) (hR : kroom rm R maxL = true) {o ci : Nat} {fs : List (Option Nat)} {T : u_T} {nf : Nat} (ho : o < N) (hs : sh o = .inl (ci, fs)) (hc : vwCl[ci]? = some (y.cls, T, nf)) {a1 a2 a3 : Value} (hcat : (st.map fun v => v.category).sum ≤ 8) {Ψ : Int64 → kMem → Prop} (h : kOk y bytes maxL ret' rm sh N (.ref o :: [a1, a2, a3]) μ (kL Ψ)) (k : ∀ (r : Int64) (μ' : kMem), Ψ r μ' → J (pc + 3) L (.long r :: st) μ') : J pc L (a3 :: a2 :: a1 :: .ref o :: st) μ := r_callV C ly hl hR ho hs hc (As := [a1, a2, a3]) (rest := st) rfl hcat h hd (kL_st k)
theorem r_s3L (C : kR cc own nL R sh N ret Φ J) (ly : kYs y bytes maxL ret' 3) (hl : Cond.methodLink own idx y ∈ WG) (hd : decode cc pc = .ok (.invokestatic idx, 3)) (hR : kroom rm R maxL = true) {a1 a2 a3 : Value} (hcat : (st.map fun v => v.category).sum ≤ 8) {Ψ : Int64 → kMem → Prop} (h : kOk y bytes maxL ret' rm sh N [a1, a2, a3] μ (kL Ψ)) (k : ∀ (r : Int64) (μ' : kMem), Ψ r μ' → J (pc + 3) L (.long r :: st) μ') : J pc L (a3 :: a2 :: a1 :: st) μ := r_callS C ly hl hR (As := [a1, a2, a3]) (rest := st) rfl hcat h hd (kL_st k)
theorem r_v3N (C : kR cc own nL R sh N ret Φ J) (ly : kYv y bytes maxL ret' 3) (hl : Cond.methodLink own idx y ∈ WG) (hd : decode cc pc = .ok (.invokevirtual idx, 3)) (hR : kroom rm R maxL = true) {o ci : Nat} {fs : List (Option Nat)} {T : u_T} {nf : Nat} (ho : o < N) (hs : sh o = .inl (ci, fs)) (hc : vwCl[ci]? = some (y.cls, T, nf)) {a1 a2 a3 : Value} (hcat : (st.map fun v => v.category).sum ≤ 8) {Ψ : kMem → Prop} (h : kOk y bytes maxL ret' rm sh N (.ref o :: [a1, a2, a3]) μ (kN Ψ)) (k : ∀ (μ' : kMem), Ψ μ' → J (pc + 3) L st μ') : J pc L (a3 :: a2 :: a1 :: .ref o :: st) μ := r_callV C ly hl hR ho hs hc (As := [a1, a2, a3]) (rest := st) rfl hcat h hd (kN_st k)
theorem r_s3N (C : kR cc own nL R sh N ret Φ J) (ly : kYs y bytes maxL ret' 3) (hl : Cond.methodLink own idx y ∈ WG) (hd : decode cc pc = .ok (.invokestatic idx, 3)) (hR : kroom rm R maxL = true) {a1 a2 a3 : Value} (hcat : (st.map fun v => v.category).sum ≤ 8) {Ψ : kMem → Prop} (h : kOk y bytes maxL ret' rm sh N [a1, a2, a3] μ (kN Ψ)) (k : ∀ (μ' : kMem), Ψ μ' → J (pc + 3) L st μ') : J pc L (a3 :: a2 :: a1 :: st) μ := r_callS C ly hl hR (As := [a1, a2, a3]) (rest := st) rfl hcat h hd (kN_st k)
theorem r_v3P (C : kR cc own nL R sh N ret Φ J) (ly : kYv y bytes maxL ret' 3) (hl : Cond.methodLink own idx y ∈ WG) (hd : decode cc pc = .ok (.invokevirtual idx, 3)) (hR : kroom rm R maxL = true) {o ci : Nat} {fs : List (Option Nat)} {T : u_T} {nf : Nat} (ho : o < N) (hs : sh o = .inl (ci, fs)) (hc : vwCl[ci]? = some (y.cls, T, nf)) {a1 a2 a3 : Value} (hcat : (st.map fun v => v.category).sum ≤ 8) {x : Int32} {μ0 : kMem} (h : kOk y bytes maxL ret' rm sh N (.ref o :: [a1, a2, a3]) μ (kP x μ0)) (k : J (pc + 3) L (.int x :: st) μ0) : J pc L (a3 :: a2 :: a1 :: .ref o :: st) μ := r_callV C ly hl hR ho hs hc (As := [a1, a2, a3]) (rest := st) rfl hcat h hd (kI_st (kP_k k))
theorem r_s3P (C : kR cc own nL R sh N ret Φ J) (ly : kYs y bytes maxL ret' 3) (hl : Cond.methodLink own idx y ∈ WG) (hd : decode cc pc = .ok (.invokestatic idx, 3)) (hR : kroom rm R maxL = true) {a1 a2 a3 : Value} (hcat : (st.map fun v => v.category).sum ≤ 8) {x : Int32} {μ0 : kMem} (h : kOk y bytes maxL ret' rm sh N [a1, a2, a3] μ (kP x μ0)) (k : J (pc + 3) L (.int x :: st) μ0) : J pc L (a3 :: a2 :: a1 :: st) μ := r_callS C ly hl hR (As := [a1, a2, a3]) (rest := st) rfl hcat h hd (kI_st (kP_k k))
theorem r_v3Q (C : kR cc own nL R sh N ret Φ J) (ly : kYv y bytes maxL ret' 3) (hl : Cond.methodLink own idx y ∈ WG) (hd : decode cc pc = .ok (.invokevirtual idx, 3)) (hR : kroom rm R maxL = true) {o ci : Nat} {fs : List (Option Nat)} {T : u_T} {nf : Nat} (ho : o < N) (hs : sh o = .inl (ci, fs)) (hc : vwCl[ci]? = some (y.cls, T, nf)) {a1 a2 a3 : Value} (hcat : (st.map fun v => v.category).sum ≤ 8) {x : Int64} {μ0 : kMem} (h : kOk y bytes maxL ret' rm sh N (.ref o :: [a1, a2, a3]) μ (kPL x μ0)) (k : J (pc + 3) L (.long x :: st) μ0) : J pc L (a3 :: a2 :: a1 :: .ref o :: st) μ := r_callV C ly hl hR ho hs hc (As := [a1, a2, a3]) (rest := st) rfl hcat h hd (kL_st (kPL_k k))
theorem r_s3Q (C : kR cc own nL R sh N ret Φ J) (ly : kYs y bytes maxL ret' 3) (hl : Cond.methodLink own idx y ∈ WG) (hd : decode cc pc = .ok (.invokestatic idx, 3)) (hR : kroom rm R maxL = true) {a1 a2 a3 : Value} (hcat : (st.map fun v => v.category).sum ≤ 8) {x : Int64} {μ0 : kMem} (h : kOk y bytes maxL ret' rm sh N [a1, a2, a3] μ (kPL x μ0)) (k : J (pc + 3) L (.long x :: st) μ0) : J pc L (a3 :: a2 :: a1 :: st) μ := r_callS C ly hl hR (As := [a1, a2, a3]) (rest := st) rfl hcat h hd (kL_st (kPL_k k))
theorem r_v4I (C : kR cc own nL R sh N ret Φ J) (ly : kYv y bytes maxL ret' 4) (hl : Cond.methodLink own idx y ∈ WG) (hd : decode cc pc = .ok (.invokevirtual idx, 3)) (hR : kroom rm R maxL = true) {o ci : Nat} {fs : List (Option Nat)} {T : u_T} {nf : Nat} (ho : o < N) (hs : sh o = .inl (ci, fs)) (hc : vwCl[ci]? = some (y.cls, T, nf)) {a1 a2 a3 a4 : Value} (hcat : (st.map fun v => v.category).sum ≤ 8) {Ψ : Int32 → kMem → Prop} (h : kOk y bytes maxL ret' rm sh N (.ref o :: [a1, a2, a3, a4]) μ (kI Ψ)) (k : ∀ (r : Int32) (μ' : kMem), Ψ r μ' → J (pc + 3) L (.int r :: st) μ') : J pc L (a4 :: a3 :: a2 :: a1 :: .ref o :: st) μ := r_callV C ly hl hR ho hs hc (As := [a1, a2, a3, a4]) (rest := st) rfl hcat h hd (kI_st k)
theorem r_s4I (C : kR cc own nL R sh N ret Φ J) (ly : kYs y bytes maxL ret' 4) (hl : Cond.methodLink own idx y ∈ WG) (hd : decode cc pc = .ok (.invokestatic idx, 3)) (hR : kroom rm R maxL = true) {a1 a2 a3 a4 : Value} (hcat : (st.map fun v => v.category).sum ≤ 8) {Ψ : Int32 → kMem → Prop} (h : kOk y bytes maxL ret' rm sh N [a1, a2, a3, a4] μ (kI Ψ)) (k : ∀ (r : Int32) (μ' : kMem), Ψ r μ' → J (pc + 3) L (.int r :: st) μ') : J pc L (a4 :: a3 :: a2 :: a1 :: st) μ := r_callS C ly hl hR (As := [a1, a2, a3, a4]) (rest := st) rfl hcat h hd (kI_st k)
theorem r_v4L (C : kR cc own nL R sh N ret Φ J) (ly : kYv y bytes maxL ret' 4) (hl : Cond.methodLink own idx y ∈ WG) (hd : decode cc pc = .ok (.invokevirtual idx, 3)) (hR : kroom rm R maxL = true) {o ci : Nat} {fs : List (Option Nat)} {T : u_T} {nf : Nat} (ho : o < N) (hs : sh o = .inl (ci, fs)) (hc : vwCl[ci]? = some (y.cls, T, nf)) {a1 a2 a3 a4 : Value} (hcat : (st.map fun v => v.category).sum ≤ 8) {Ψ : Int64 → kMem → Prop} (h : kOk y bytes maxL ret' rm sh N (.ref o :: [a1, a2, a3, a4]) μ (kL Ψ)) (k : ∀ (r : Int64) (μ' : kMem), Ψ r μ' → J (pc + 3) L (.long r :: st) μ') : J pc L (a4 :: a3 :: a2 :: a1 :: .ref o :: st) μ := r_callV C ly hl hR ho hs hc (As := [a1, a2, a3, a4]) (rest := st) rfl hcat h hd (kL_st k)
theorem r_s4L (C : kR cc own nL R sh N ret Φ J) (ly : kYs y bytes maxL ret' 4) (hl : Cond.methodLink own idx y ∈ WG) (hd : decode cc pc = .ok (.invokestatic idx, 3)) (hR : kroom rm R maxL = true) {a1 a2 a3 a4 : Value} (hcat : (st.map fun v => v.category).sum ≤ 8) {Ψ : Int64 → kMem → Prop} (h : kOk y bytes maxL ret' rm sh N [a1, a2, a3, a4] μ (kL Ψ)) (k : ∀ (r : Int64) (μ' : kMem), Ψ r μ' → J (pc + 3) L (.long r :: st) μ') : J pc L (a4 :: a3 :: a2 :: a1 :: st) μ := r_callS C ly hl hR (As := [a1, a2, a3, a4]) (rest := st) rfl hcat h hd (kL_st k)
theorem r_v4N (C : kR cc own nL R sh N ret Φ J) (ly : kYv y bytes maxL ret' 4) (hl : Cond.methodLink own idx y ∈ WG) (hd : decode cc pc = .ok (.invokevirtual idx, 3)) (hR : kroom rm R maxL = true) {o ci : Nat} {fs : List (Option Nat)} {T : u_T} {nf : Nat} (ho : o < N) (hs : sh o = .inl (ci, fs)) (hc : vwCl[ci]? = some (y.cls, T, nf)) {a1 a2 a3 a4 : Value} (hcat : (st.map fun v => v.category).sum ≤ 8) {Ψ : kMem → Prop} (h : kOk y bytes maxL ret' rm sh N (.ref o :: [a1, a2, a3, a4]) μ (kN Ψ)) (k : ∀ (μ' : kMem), Ψ μ' → J (pc + 3) L st μ') : J pc L (a4 :: a3 :: a2 :: a1 :: .ref o :: st) μ := r_callV C ly hl hR ho hs hc (As := [a1, a2, a3, a4]) (rest := st) rfl hcat h hd (kN_st k)
theorem r_s4N (C : kR cc own nL R sh N ret Φ J) (ly : kYs y bytes maxL ret' 4) (hl : Cond.methodLink own idx y ∈ WG) (hd : decode cc pc = .ok (.invokestatic idx, 3)) (hR : kroom rm R maxL = true) {a1 a2 a3 a4 : Value} (hcat : (st.map fun v => v.category).sum ≤ 8) {Ψ : kMem → Prop} (h : kOk y bytes maxL ret' rm sh N [a1, a2, a3, a4] μ (kN Ψ)) (k : ∀ (μ' : kMem), Ψ μ' → J (pc + 3) L st μ') : J pc L (a4 :: a3 :: a2 :: a1 :: st) μ := r_callS C ly hl hR (As := [a1, a2, a3, a4]) (rest := st) rfl hcat h hd (kN_st k)
theorem r_v4P (C : kR cc own nL R sh N ret Φ J) (ly : kYv y bytes maxL ret' 4) (hl : Cond.methodLink own idx y ∈ WG) (hd : decode cc pc = .ok (.invokevirtual idx, 3)) (hR : kroom rm R maxL = true) {o ci : Nat} {fs : List (Option Nat)} {T : u_T} {nf : Nat} (ho : o < N) (hs : sh o = .inl (ci, fs)) (hc : vwCl[ci]? = some (y.cls, T, nf)) {a1 a2 a3 a4 : Value} (hcat : (st.map fun v => v.category).sum ≤ 8) {x : Int32} {μ0 : kMem} (h : kOk y bytes maxL ret' rm sh N (.ref o :: [a1, a2, a3, a4]) μ (kP x μ0)) (k : J (pc + 3) L (.int x :: st) μ0) : J pc L (a4 :: a3 :: a2 :: a1 :: .ref o :: st) μ := r_callV C ly hl hR ho hs hc (As := [a1, a2, a3, a4]) (rest := st) rfl hcat h hd (kI_st (kP_k k))
theorem r_s4P (C : kR cc own nL R sh N ret Φ J) (ly : kYs y bytes maxL ret' 4) (hl : Cond.methodLink own idx y ∈ WG) (hd : decode cc pc = .ok (.invokestatic idx, 3)) (hR : kroom rm R maxL = true) {a1 a2 a3 a4 : Value} (hcat : (st.map fun v => v.category).sum ≤ 8) {x : Int32} {μ0 : kMem} (h : kOk y bytes maxL ret' rm sh N [a1, a2, a3, a4] μ (kP x μ0)) (k : J (pc + 3) L (.int x :: st) μ0) : J pc L (a4 :: a3 :: a2 :: a1 :: st) μ := r_callS C ly hl hR (As := [a1, a2, a3, a4]) (rest := st) rfl hcat h hd (kI_st (kP_k k))
theorem r_v4Q (C : kR cc own nL R sh N ret Φ J) (ly : kYv y bytes maxL ret' 4) (hl : Cond.methodLink own idx y ∈ WG) (hd : decode cc pc = .ok (.invokevirtual idx, 3)) (hR : kroom rm R maxL = true) {o ci : Nat} {fs : List (Option Nat)} {T : u_T} {nf : Nat} (ho : o < N) (hs : sh o = .inl (ci, fs)) (hc : vwCl[ci]? = some (y.cls, T, nf)) {a1 a2 a3 a4 : Value} (hcat : (st.map fun v => v.category).sum ≤ 8) {x : Int64} {μ0 : kMem} (h : kOk y bytes maxL ret' rm sh N (.ref o :: [a1, a2, a3, a4]) μ (kPL x μ0)) (k : J (pc + 3) L (.long x :: st) μ0) : J pc L (a4 :: a3 :: a2 :: a1 :: .ref o :: st) μ := r_callV C ly hl hR ho hs hc (As := [a1, a2, a3, a4]) (rest := st) rfl hcat h hd (kL_st (kPL_k k))
theorem r_s4Q (C : kR cc own nL R sh N ret Φ J) (ly : kYs y bytes maxL ret' 4) (hl : Cond.methodLink own idx y ∈ WG) (hd : decode cc pc = .ok (.invokestatic idx, 3)) (hR : kroom rm R maxL = true) {a1 a2 a3 a4 : Value} (hcat : (st.map fun v => v.category).sum ≤ 8) {x : Int64} {μ0 : kMem} (h : kOk y bytes maxL ret' rm sh N [a1, a2, a3, a4] μ (kPL x μ0)) (k : J (pc + 3) L (.long x :: st) μ0) : J pc L (a4 :: a3 :: a2 :: a1 :: st) μ := r_callS C ly hl hR (As := [a1, a2, a3, a4]) (rest := st) rfl hcat h hd (kL_st (kPL_k k))
theorem r_v5I (C : kR cc own nL R sh N ret Φ J) (ly : kYv y bytes maxL ret' 5) (hl : Cond.methodLink own idx y ∈ WG) (hd : decode cc pc = .ok (.invokevirtual idx, 3)) (hR : kroom rm R maxL = true) {o ci : Nat} {fs : List (Option Nat)} {T : u_T} {nf : Nat} (ho : o < N) (hs : sh o = .inl (ci, fs)) (hc : vwCl[ci]? = some (y.cls, T, nf)) {a1 a2 a3 a4 a5 : Value} (hcat : (st.map fun v => v.category).sum ≤ 8) {Ψ : Int32 → kMem → Prop} (h : kOk y bytes maxL ret' rm sh N (.ref o :: [a1, a2, a3, a4, a5]) μ (kI Ψ)) (k : ∀ (r : Int32) (μ' : kMem), Ψ r μ' → J (pc + 3) L (.int r :: st) μ') : J pc L (a5 :: a4 :: a3 :: a2 :: a1 :: .ref o :: st) μ := r_callV C ly hl hR ho hs hc (As := [a1, a2, a3, a4, a5]) (rest := st) rfl hcat h hd (kI_st k)
theorem r_v5L (C : kR cc own nL R sh N ret Φ J) (ly : kYv y bytes maxL ret' 5) (hl : Cond.methodLink own idx y ∈ WG) (hd : decode cc pc = .ok (.invokevirtual idx, 3)) (hR : kroom rm R maxL = true) {o ci : Nat} {fs : List (Option Nat)} {T : u_T} {nf : Nat} (ho : o < N) (hs : sh o = .inl (ci, fs)) (hc : vwCl[ci]? = some (y.cls, T, nf)) {a1 a2 a3 a4 a5 : Value} (hcat : (st.map fun v => v.category).sum ≤ 8) {Ψ : Int64 → kMem → Prop} (h : kOk y bytes maxL ret' rm sh N (.ref o :: [a1, a2, a3, a4, a5]) μ (kL Ψ)) (k : ∀ (r : Int64) (μ' : kMem), Ψ r μ' → J (pc + 3) L (.long r :: st) μ') : J pc L (a5 :: a4 :: a3 :: a2 :: a1 :: .ref o :: st) μ := r_callV C ly hl hR ho hs hc (As := [a1, a2, a3, a4, a5]) (rest := st) rfl hcat h hd (kL_st k)
theorem r_v5N (C : kR cc own nL R sh N ret Φ J) (ly : kYv y bytes maxL ret' 5) (hl : Cond.methodLink own idx y ∈ WG) (hd : decode cc pc = .ok (.invokevirtual idx, 3)) (hR : kroom rm R maxL = true) {o ci : Nat} {fs : List (Option Nat)} {T : u_T} {nf : Nat} (ho : o < N) (hs : sh o = .inl (ci, fs)) (hc : vwCl[ci]? = some (y.cls, T, nf)) {a1 a2 a3 a4 a5 : Value} (hcat : (st.map fun v => v.category).sum ≤ 8) {Ψ : kMem → Prop} (h : kOk y bytes maxL ret' rm sh N (.ref o :: [a1, a2, a3, a4, a5]) μ (kN Ψ)) (k : ∀ (μ' : kMem), Ψ μ' → J (pc + 3) L st μ') : J pc L (a5 :: a4 :: a3 :: a2 :: a1 :: .ref o :: st) μ := r_callV C ly hl hR ho hs hc (As := [a1, a2, a3, a4, a5]) (rest := st) rfl hcat h hd (kN_st k)
theorem r_v5P (C : kR cc own nL R sh N ret Φ J) (ly : kYv y bytes maxL ret' 5) (hl : Cond.methodLink own idx y ∈ WG) (hd : decode cc pc = .ok (.invokevirtual idx, 3)) (hR : kroom rm R maxL = true) {o ci : Nat} {fs : List (Option Nat)} {T : u_T} {nf : Nat} (ho : o < N) (hs : sh o = .inl (ci, fs)) (hc : vwCl[ci]? = some (y.cls, T, nf)) {a1 a2 a3 a4 a5 : Value} (hcat : (st.map fun v => v.category).sum ≤ 8) {x : Int32} {μ0 : kMem} (h : kOk y bytes maxL ret' rm sh N (.ref o :: [a1, a2, a3, a4, a5]) μ (kP x μ0)) (k : J (pc + 3) L (.int x :: st) μ0) : J pc L (a5 :: a4 :: a3 :: a2 :: a1 :: .ref o :: st) μ := r_callV C ly hl hR ho hs hc (As := [a1, a2, a3, a4, a5]) (rest := st) rfl hcat h hd (kI_st (kP_k k))
theorem r_v5Q (C : kR cc own nL R sh N ret Φ J) (ly : kYv y bytes maxL ret' 5) (hl : Cond.methodLink own idx y ∈ WG) (hd : decode cc pc = .ok (.invokevirtual idx, 3)) (hR : kroom rm R maxL = true) {o ci : Nat} {fs : List (Option Nat)} {T : u_T} {nf : Nat} (ho : o < N) (hs : sh o = .inl (ci, fs)) (hc : vwCl[ci]? = some (y.cls, T, nf)) {a1 a2 a3 a4 a5 : Value} (hcat : (st.map fun v => v.category).sum ≤ 8) {x : Int64} {μ0 : kMem} (h : kOk y bytes maxL ret' rm sh N (.ref o :: [a1, a2, a3, a4, a5]) μ (kPL x μ0)) (k : J (pc + 3) L (.long x :: st) μ0) : J pc L (a5 :: a4 :: a3 :: a2 :: a1 :: .ref o :: st) μ := r_callV C ly hl hR ho hs hc (As := [a1, a2, a3, a4, a5]) (rest := st) rfl hcat h hd (kL_st (kPL_k k))
theorem r_v6I (C : kR cc own nL R sh N ret Φ J) (ly : kYv y bytes maxL ret' 6) (hl : Cond.methodLink own idx y ∈ WG) (hd : decode cc pc = .ok (.invokevirtual idx, 3)) (hR : kroom rm R maxL = true) {o ci : Nat} {fs : List (Option Nat)} {T : u_T} {nf : Nat} (ho : o < N) (hs : sh o = .inl (ci, fs)) (hc : vwCl[ci]? = some (y.cls, T, nf)) {a1 a2 a3 a4 a5 a6 : Value} (hcat : (st.map fun v => v.category).sum ≤ 8) {Ψ : Int32 → kMem → Prop} (h : kOk y bytes maxL ret' rm sh N (.ref o :: [a1, a2, a3, a4, a5, a6]) μ (kI Ψ)) (k : ∀ (r : Int32) (μ' : kMem), Ψ r μ' → J (pc + 3) L (.int r :: st) μ') : J pc L (a6 :: a5 :: a4 :: a3 :: a2 :: a1 :: .ref o :: st) μ := r_callV C ly hl hR ho hs hc (As := [a1, a2, a3, a4, a5, a6]) (rest := st) rfl hcat h hd (kI_st k)
theorem r_v6L (C : kR cc own nL R sh N ret Φ J) (ly : kYv y bytes maxL ret' 6) (hl : Cond.methodLink own idx y ∈ WG) (hd : decode cc pc = .ok (.invokevirtual idx, 3)) (hR : kroom rm R maxL = true) {o ci : Nat} {fs : List (Option Nat)} {T : u_T} {nf : Nat} (ho : o < N) (hs : sh o = .inl (ci, fs)) (hc : vwCl[ci]? = some (y.cls, T, nf)) {a1 a2 a3 a4 a5 a6 : Value} (hcat : (st.map fun v => v.category).sum ≤ 8) {Ψ : Int64 → kMem → Prop} (h : kOk y bytes maxL ret' rm sh N (.ref o :: [a1, a2, a3, a4, a5, a6]) μ (kL Ψ)) (k : ∀ (r : Int64) (μ' : kMem), Ψ r μ' → J (pc + 3) L (.long r :: st) μ') : J pc L (a6 :: a5 :: a4 :: a3 :: a2 :: a1 :: .ref o :: st) μ := r_callV C ly hl hR ho hs hc (As := [a1, a2, a3, a4, a5, a6]) (rest := st) rfl hcat h hd (kL_st k)
theorem r_v6N (C : kR cc own nL R sh N ret Φ J) (ly : kYv y bytes maxL ret' 6) (hl : Cond.methodLink own idx y ∈ WG) (hd : decode cc pc = .ok (.invokevirtual idx, 3)) (hR : kroom rm R maxL = true) {o ci : Nat} {fs : List (Option Nat)} {T : u_T} {nf : Nat} (ho : o < N) (hs : sh o = .inl (ci, fs)) (hc : vwCl[ci]? = some (y.cls, T, nf)) {a1 a2 a3 a4 a5 a6 : Value} (hcat : (st.map fun v => v.category).sum ≤ 8) {Ψ : kMem → Prop} (h : kOk y bytes maxL ret' rm sh N (.ref o :: [a1, a2, a3, a4, a5, a6]) μ (kN Ψ)) (k : ∀ (μ' : kMem), Ψ μ' → J (pc + 3) L st μ') : J pc L (a6 :: a5 :: a4 :: a3 :: a2 :: a1 :: .ref o :: st) μ := r_callV C ly hl hR ho hs hc (As := [a1, a2, a3, a4, a5, a6]) (rest := st) rfl hcat h hd (kN_st k)
theorem r_v6P (C : kR cc own nL R sh N ret Φ J) (ly : kYv y bytes maxL ret' 6) (hl : Cond.methodLink own idx y ∈ WG) (hd : decode cc pc = .ok (.invokevirtual idx, 3)) (hR : kroom rm R maxL = true) {o ci : Nat} {fs : List (Option Nat)} {T : u_T} {nf : Nat} (ho : o < N) (hs : sh o = .inl (ci, fs)) (hc : vwCl[ci]? = some (y.cls, T, nf)) {a1 a2 a3 a4 a5 a6 : Value} (hcat : (st.map fun v => v.category).sum ≤ 8) {x : Int32} {μ0 : kMem} (h : kOk y bytes maxL ret' rm sh N (.ref o :: [a1, a2, a3, a4, a5, a6]) μ (kP x μ0)) (k : J (pc + 3) L (.int x :: st) μ0) : J pc L (a6 :: a5 :: a4 :: a3 :: a2 :: a1 :: .ref o :: st) μ := r_callV C ly hl hR ho hs hc (As := [a1, a2, a3, a4, a5, a6]) (rest := st) rfl hcat h hd (kI_st (kP_k k))
theorem r_v6Q (C : kR cc own nL R sh N ret Φ J) (ly : kYv y bytes maxL ret' 6) (hl : Cond.methodLink own idx y ∈ WG) (hd : decode cc pc = .ok (.invokevirtual idx, 3)) (hR : kroom rm R maxL = true) {o ci : Nat} {fs : List (Option Nat)} {T : u_T} {nf : Nat} (ho : o < N) (hs : sh o = .inl (ci, fs)) (hc : vwCl[ci]? = some (y.cls, T, nf)) {a1 a2 a3 a4 a5 a6 : Value} (hcat : (st.map fun v => v.category).sum ≤ 8) {x : Int64} {μ0 : kMem} (h : kOk y bytes maxL ret' rm sh N (.ref o :: [a1, a2, a3, a4, a5, a6]) μ (kPL x μ0)) (k : J (pc + 3) L (.long x :: st) μ0) : J pc L (a6 :: a5 :: a4 :: a3 :: a2 :: a1 :: .ref o :: st) μ := r_callV C ly hl hR ho hs hc (As := [a1, a2, a3, a4, a5, a6]) (rest := st) rfl hcat h hd (kL_st (kPL_k k))
theorem r_min (C : kR cc own nL R sh N ret Φ J) (hl : Cond.methodLink own idx Lib.Math.min.name ∈ WG ∧ Cond.static Lib.Math.min.name ∈ WG ∧ Cond.initialized "java/lang/Math" ∈ WG ∧ Cond.code Lib.Math.min.name Lib.Math.min.code 2 (some .int) ∈ WG) (hd : decode cc pc = .ok (.invokestatic idx, 3)) (hf : Nat.ble 1 R.frames = true ∧ Nat.ble 21 R.locals = true) (hcat : (st.map fun v => v.category).sum ≤ 8) {x y : Int32} (k : J (pc + 3) L (.int (if y < x then y else x) :: st) μ) : J pc L (.int y :: .int x :: st) μ := by
  obtain ⟨p, l, e, s, m, args, below, meth, c, D, ad, τ, A, ⟨hx, hb, hml, hr, hlk, hown, hw, hD, hE, hA⟩, rfl⟩ := C
  intro H locs ls hP hS hl2
  have h2 := Nat.le_of_ble_eq_true hf.2
  exact va_mmin hx hb (by rw [hml]; exact hl2.1.symm) hown (hw _ hl.1) (hw _ hl.2.1) (hw _ hl.2.2.1) (hw _ hl.2.2.2) (Nat.le_of_ble_eq_true hf.1) (by rw [map_cat]; omega) (Nat.zero_le _) (Nat.zero_le _) hd (k H locs ls hP hS hl2)
theorem r_minL (C : kR cc own nL R sh N ret Φ J) (hl : Cond.methodLink own idx Lib.MathLoose.min_long.x ∈ WG ∧ Cond.static Lib.MathLoose.min_long.x ∈ WG ∧ Cond.initialized "java/lang/Math" ∈ WG ∧ Cond.code Lib.MathLoose.min_long.x Lib.MathLoose.min_long.code 4 (some .long) ∈ WG) (hd : decode cc pc = .ok (.invokestatic idx, 3)) (hf : Nat.ble 1 R.frames = true ∧ Nat.ble 23 R.locals = true) (hcat : (st.map fun v => v.category).sum ≤ 8) {x y : Int64} (k : J (pc + 3) L (.long (if y < x then y else x) :: st) μ) : J pc L (.long y :: .long x :: st) μ := by
  obtain ⟨p, l, e, s, m, args, below, meth, c, D, ad, τ, A, ⟨hx, hb, hml, hr, hlk, hown, hw, hD, hE, hA⟩, rfl⟩ := C
  intro H locs ls hP hS hl2
  have h2 := Nat.le_of_ble_eq_true hf.2
  exact va_mmin_long hx hb (by rw [hml]; exact hl2.1.symm) hown (hw _ hl.1) (hw _ hl.2.1) (hw _ hl.2.2.1) (hw _ hl.2.2.2) (Nat.le_of_ble_eq_true hf.1) (by rw [map_cat]; omega) (Nat.zero_le _) (Nat.zero_le _) hd (k H locs ls hP hS hl2)
theorem r_max (C : kR cc own nL R sh N ret Φ J) (hl : Cond.methodLink own idx Lib.Math.max.name ∈ WG ∧ Cond.static Lib.Math.max.name ∈ WG ∧ Cond.initialized "java/lang/Math" ∈ WG ∧ Cond.code Lib.Math.max.name Lib.Math.max.code 2 (some .int) ∈ WG) (hd : decode cc pc = .ok (.invokestatic idx, 3)) (hf : Nat.ble 1 R.frames = true ∧ Nat.ble 21 R.locals = true) (hcat : (st.map fun v => v.category).sum ≤ 8) {x y : Int32} (k : J (pc + 3) L (.int (if x < y then y else x) :: st) μ) : J pc L (.int y :: .int x :: st) μ := by
  obtain ⟨p, l, e, s, m, args, below, meth, c, D, ad, τ, A, ⟨hx, hb, hml, hr, hlk, hown, hw, hD, hE, hA⟩, rfl⟩ := C
  intro H locs ls hP hS hl2
  have h2 := Nat.le_of_ble_eq_true hf.2
  exact va_mmax hx hb (by rw [hml]; exact hl2.1.symm) hown (hw _ hl.1) (hw _ hl.2.1) (hw _ hl.2.2.1) (hw _ hl.2.2.2) (Nat.le_of_ble_eq_true hf.1) (by rw [map_cat]; omega) (Nat.zero_le _) (Nat.zero_le _) hd (k H locs ls hP hS hl2)
theorem r_abs (C : kR cc own nL R sh N ret Φ J) (hl : Cond.methodLink own idx Lib.Math.abs.name ∈ WG ∧ Cond.static Lib.Math.abs.name ∈ WG ∧ Cond.initialized "java/lang/Math" ∈ WG ∧ Cond.code Lib.Math.abs.name Lib.Math.abs.code 1 (some .int) ∈ WG) (hd : decode cc pc = .ok (.invokestatic idx, 3)) (hf : Nat.ble 1 R.frames = true ∧ Nat.ble 21 R.locals = true) (hcat : (st.map fun v => v.category).sum ≤ 8) {x : Int32} (k : J (pc + 3) L (.int (if 0 ≤ x then x else 0 - x) :: st) μ) : J pc L (.int x :: st) μ := by
  obtain ⟨p, l, e, s, m, args, below, meth, c, D, ad, τ, A, ⟨hx, hb, hml, hr, hlk, hown, hw, hD, hE, hA⟩, rfl⟩ := C
  intro H locs ls hP hS hl2
  have h2 := Nat.le_of_ble_eq_true hf.2
  exact va_mabs hx hb (by rw [hml]; exact hl2.1.symm) hown (hw _ hl.1) (hw _ hl.2.1) (hw _ hl.2.2.1) (hw _ hl.2.2.2) (Nat.le_of_ble_eq_true hf.1) (by rw [map_cat]; omega) (Nat.zero_le _) (Nat.zero_le _) hd (k H locs ls hP hS hl2)
theorem r_ldcS (C : kR cc own nL R sh N ret Φ J) {i : Nat} {tx : String} (hz : ∀ (ad : Nat → Nat) (τ : Nat → ClassId) (D : va_G) (A : Nat → Prop) (U : State) (H : Heap), kE ad τ D A U H → vk_R own idx tx (ad (1000 + i)) U) (hd : decode cc pc = .ok (.ldc idx, 2)) (k : J (pc + 2) L (.ref (1000 + i) :: st) μ) : J pc L st μ := by
  obtain ⟨p, l, e, s, m, args, below, meth, c, D, ad, τ, A, ⟨hx, hb, hml, hr, hlk, hown, hw, hD, hE, hA⟩, rfl⟩ := C
  intro H locs ls hP hS hl
  exact va_ldcS hx hb hown (hz _ _ _ _ _ _ hE) hd (k H locs ls hP hS hl)
theorem r_sval (C : kR cc "java/lang/String" nL R sh N ret Φ J) {i : Nat} (hi : i < 3) (hl9 : Cond.fieldLink "java/lang/String" idx "java/lang/String" "value" "[B" ∈ WG) (hd : decode cc pc = .ok (.getfield idx, 3)) (k : J (pc + 3) L (.ref (2000 + i) :: st) μ) : J pc L (.ref (1000 + i) :: st) μ := by
  obtain ⟨p, l, e, s, m, args, below, meth, c, D, ad, τ, A, ⟨hx, hb, hml, hr, hlk, hown, hw, hD, hE, hA⟩, rfl⟩ := C
  intro H locs ls hP hS hl
  exact vk_getf (v := .ref (ad (2000 + i))) hx hb (hE.2.1.1 i hi).2.2.1 hS hown (hw _ hl9) (fun _ h9 => h9) hd (k H locs ls hP hS hl)
theorem r_scod (C : kR cc "java/lang/String" nL R sh N ret Φ J) {i : Nat} (hi : i < 3) (hl9 : Cond.fieldLink "java/lang/String" idx "java/lang/String" "coder" "B" ∈ WG) (hd : decode cc pc = .ok (.getfield idx, 3)) (k : J (pc + 3) L (.int 0 :: st) μ) : J pc L (.ref (1000 + i) :: st) μ := by
  obtain ⟨p, l, e, s, m, args, below, meth, c, D, ad, τ, A, ⟨hx, hb, hml, hr, hlk, hown, hw, hD, hE, hA⟩, rfl⟩ := C
  intro H locs ls hP hS hl
  exact vk_getf (v := .int 0) hx hb (hE.2.1.1 i hi).2.1 hS hown (hw _ hl9) (fun _ h9 => h9) hd (k H locs ls hP hS hl)
theorem r_scmp (C : kR cc own nL R sh N ret Φ J) (hl9 : Cond.fieldLink own idx "java/lang/String" "COMPACT_STRINGS" "Z" ∈ WG) (hd : decode cc pc = .ok (.getstatic idx, 3)) (k : J (pc + 3) L (.int 1 :: st) μ) : J pc L st μ := by
  obtain ⟨p, l, e, s, m, args, below, meth, c, D, ad, τ, A, ⟨hx, hb, hml, hr, hlk, hown, hw, hD, hE, hA⟩, rfl⟩ := C
  intro H locs ls hP hS hl
  exact va_gets (v := .int 1) hx hb hE.2.2.2.2.2.2.2.1 hS hown (hw _ hl9) (fun _ h9 => h9) hd (k H locs ls hP hS hl)
theorem r_sfmt (C : kR cc own nL R sh N ret Φ J) (hl9 : Cond.fieldLink own idx "jdk/internal/util/Preconditions" "SIOOBE_FORMATTER" "Ljava/util/function/BiFunction;" ∈ WG) (hd : decode cc pc = .ok (.getstatic idx, 3)) (k : ∀ v : Value, (v = .null ∨ v = .ref 3000) → J (pc + 3) L (v :: st) μ) : J pc L st μ := by
  obtain ⟨p, l, e, s, m, args, below, meth, c, D, ad, τ, A, ⟨hx, hb, hml, hr, hlk, hown, hw, hD, hE, hA⟩, rfl⟩ := C
  intro H locs ls hP hS hl
  obtain ⟨v, hv, hz⟩ := hE.2.2.2.2.2.2.2.2
  exact va_gets (v := cvv ad v) hx hb hz hS hown (hw _ hl9) (fun _ h9 => h9) hd (k v hv H locs ls hP hS hl)
theorem r_slen (C : kR cc own nL R sh N ret Φ J) {i : Nat} (hi : i < 3) (hd : decode cc pc = .ok (.arraylength, 1)) (k : J (pc + 1) L (.int (Int32.ofNat (klen.getD i 0)) :: st) μ) : J pc L (.ref (2000 + i) :: st) μ := by
  obtain ⟨p, l, e, s, m, args, below, meth, c, D, ad, τ, A, ⟨hx, hb, hml, hr, hlk, hown, hw, hD, hE, hA⟩, rfl⟩ := C
  intro H locs ls hP hS hl
  obtain ⟨cell, h1, h2, h3, h4, h5, h6, h7⟩ := (hE.2.1.1 i hi).2.2.2.kept (fun a z1 z2 => hS.2.1 a z1 z2)
  exact W.alen hx hb h1 h2 h5 rfl rfl hd (k H locs ls hP hS hl)
theorem r_sbald (C : kR cc own nL R sh N ret Φ J) {i : Nat} {j : Int32} (hi : i < 3) (hin : 0 ≤ j.toInt ∧ j.toInt < (klen.getD i 0 : Nat)) (hd : decode cc pc = .ok (.baload, 1)) (k : J (pc + 1) L (.int ((kbyt.getD i []).getD j.toInt.toNat 0) :: st) μ) : J pc L (.int j :: .ref (2000 + i) :: st) μ := by
  obtain ⟨p, l, e, s, m, args, below, meth, c, D, ad, τ, A, ⟨hx, hb, hml, hr, hlk, hown, hw, hD, hE, hA⟩, rfl⟩ := C
  intro H locs ls hP hS hl
  obtain ⟨cell, h1, h2, h3, h4, h5, h6, h7⟩ := (hE.2.1.1 i hi).2.2.2.kept (fun a z1 z2 => hS.2.1 a z1 z2)
  have hlt : j.toNatClampNeg < klen.getD i 0 := by
    show j.toInt.toNat < klen.getD i 0
    omega
  exact W.bald hx hb h1 h2 h3 (fun q => by rcases q with q | q; (rw [ti_lt0] at q; omega); omega) (h6 _ hlt) rfl rfl hd (k H locs ls hP hS hl)
end KCALL
end
