section
-- ===== PART A: goes FIRST, ahead of the names: the tables' words, and 'selects' of the private methods out of them =====
/-- a private method of a class that the tables say can be made, by its rows of tables_1 -/
def lw_okq (q : MethodName × Nat) : Prop := (q.1.cls ≠ "java/lang/invoke/MethodHandle" ∧ q.1.cls ≠ "java/lang/invoke/VarHandle") ∧ Cond.instantiable q.1.cls q.2 ∈ tables_1 ∧ Cond.privateMethod q.1 ∈ tables_1 ∧ Cond.instanceMethod q.1 ∈ tables_1
theorem lw_p0 : lw_okq (⟨"ProblemTexts$Tokens", "scanLetters", "(LProblemTexts$Bytes;I)I"⟩, 6) := ⟨⟨by decide +kernel, by decide +kernel⟩, List.mem_of_getElem? (i := 49) (by decide +kernel), List.mem_of_getElem? (i := 360) (by decide +kernel), List.mem_of_getElem? (i := 361) (by decide +kernel)⟩
theorem lw_p1 : lw_okq (⟨"ProblemTexts$Tokens", "add", "(III)V"⟩, 6) := ⟨⟨by decide +kernel, by decide +kernel⟩, List.mem_of_getElem? (i := 49) (by decide +kernel), List.mem_of_getElem? (i := 366) (by decide +kernel), List.mem_of_getElem? (i := 367) (by decide +kernel)⟩
theorem lw_p2 : lw_okq (⟨"ProblemTexts$Tokens", "scanDigits", "(LProblemTexts$Bytes;I)I"⟩, 6) := ⟨⟨by decide +kernel, by decide +kernel⟩, List.mem_of_getElem? (i := 49) (by decide +kernel), List.mem_of_getElem? (i := 373) (by decide +kernel), List.mem_of_getElem? (i := 374) (by decide +kernel)⟩
theorem lw_p3 : lw_okq (⟨"ProblemTexts$Tokens", "scanSign", "(LProblemTexts$Bytes;I)I"⟩, 6) := ⟨⟨by decide +kernel, by decide +kernel⟩, List.mem_of_getElem? (i := 49) (by decide +kernel), List.mem_of_getElem? (i := 377) (by decide +kernel), List.mem_of_getElem? (i := 378) (by decide +kernel)⟩
theorem lw_p4 : lw_okq (⟨"ProblemTexts$Reader", "readSet", "()Z"⟩, 8) := ⟨⟨by decide +kernel, by decide +kernel⟩, List.mem_of_getElem? (i := 236) (by decide +kernel), List.mem_of_getElem? (i := 483) (by decide +kernel), List.mem_of_getElem? (i := 484) (by decide +kernel)⟩
theorem lw_p5 : lw_okq (⟨"ProblemTexts$Reader", "readName", "(III)Z"⟩, 8) := ⟨⟨by decide +kernel, by decide +kernel⟩, List.mem_of_getElem? (i := 236) (by decide +kernel), List.mem_of_getElem? (i := 487) (by decide +kernel), List.mem_of_getElem? (i := 488) (by decide +kernel)⟩
theorem lw_p6 : lw_okq (⟨"ProblemTexts$Reader", "readTable", "()Z"⟩, 8) := ⟨⟨by decide +kernel, by decide +kernel⟩, List.mem_of_getElem? (i := 236) (by decide +kernel), List.mem_of_getElem? (i := 523) (by decide +kernel), List.mem_of_getElem? (i := 524) (by decide +kernel)⟩
theorem lw_p7 : lw_okq (⟨"ProblemTexts$Reader", "readOf", "()Z"⟩, 8) := ⟨⟨by decide +kernel, by decide +kernel⟩, List.mem_of_getElem? (i := 236) (by decide +kernel), List.mem_of_getElem? (i := 527) (by decide +kernel), List.mem_of_getElem? (i := 528) (by decide +kernel)⟩
theorem lw_p8 : lw_okq (⟨"ProblemTexts$Reader", "readSetName", "()I"⟩, 8) := ⟨⟨by decide +kernel, by decide +kernel⟩, List.mem_of_getElem? (i := 236) (by decide +kernel), List.mem_of_getElem? (i := 531) (by decide +kernel), List.mem_of_getElem? (i := 532) (by decide +kernel)⟩
theorem lw_p9 : lw_okq (⟨"ProblemTexts$Reader", "readValue", "()Z"⟩, 8) := ⟨⟨by decide +kernel, by decide +kernel⟩, List.mem_of_getElem? (i := 236) (by decide +kernel), List.mem_of_getElem? (i := 543) (by decide +kernel), List.mem_of_getElem? (i := 544) (by decide +kernel)⟩
theorem lw_p10 : lw_okq (⟨"ProblemTexts$Reader", "readVar", "()Z"⟩, 8) := ⟨⟨by decide +kernel, by decide +kernel⟩, List.mem_of_getElem? (i := 236) (by decide +kernel), List.mem_of_getElem? (i := 556) (by decide +kernel), List.mem_of_getElem? (i := 557) (by decide +kernel)⟩
theorem lw_p11 : lw_okq (⟨"ProblemTexts$Reader", "readRule", "()Z"⟩, 8) := ⟨⟨by decide +kernel, by decide +kernel⟩, List.mem_of_getElem? (i := 236) (by decide +kernel), List.mem_of_getElem? (i := 568) (by decide +kernel), List.mem_of_getElem? (i := 569) (by decide +kernel)⟩
theorem lw_p12 : lw_okq (⟨"ProblemTexts$Reader", "readIndices", "()Z"⟩, 8) := ⟨⟨by decide +kernel, by decide +kernel⟩, List.mem_of_getElem? (i := 236) (by decide +kernel), List.mem_of_getElem? (i := 573) (by decide +kernel), List.mem_of_getElem? (i := 574) (by decide +kernel)⟩
theorem lw_p13 : lw_okq (⟨"ProblemTexts$Reader", "setAround", "(I)I"⟩, 8) := ⟨⟨by decide +kernel, by decide +kernel⟩, List.mem_of_getElem? (i := 236) (by decide +kernel), List.mem_of_getElem? (i := 577) (by decide +kernel), List.mem_of_getElem? (i := 578) (by decide +kernel)⟩
theorem lw_p14 : lw_okq (⟨"ProblemTexts$Reader", "readSum", "(I)LProblemTexts$Part;"⟩, 8) := ⟨⟨by decide +kernel, by decide +kernel⟩, List.mem_of_getElem? (i := 236) (by decide +kernel), List.mem_of_getElem? (i := 581) (by decide +kernel), List.mem_of_getElem? (i := 582) (by decide +kernel)⟩
theorem lw_p15 : lw_okq (⟨"ProblemTexts$Reader", "readFactor", "(I)LProblemTexts$Factor;"⟩, 8) := ⟨⟨by decide +kernel, by decide +kernel⟩, List.mem_of_getElem? (i := 236) (by decide +kernel), List.mem_of_getElem? (i := 610) (by decide +kernel), List.mem_of_getElem? (i := 611) (by decide +kernel)⟩
def lw_privs_1 : List (MethodName × Nat) := [(⟨"ProblemTexts$Tokens", "scanLetters", "(LProblemTexts$Bytes;I)I"⟩, 6), (⟨"ProblemTexts$Tokens", "add", "(III)V"⟩, 6), (⟨"ProblemTexts$Tokens", "scanDigits", "(LProblemTexts$Bytes;I)I"⟩, 6), (⟨"ProblemTexts$Tokens", "scanSign", "(LProblemTexts$Bytes;I)I"⟩, 6), (⟨"ProblemTexts$Reader", "readSet", "()Z"⟩, 8), (⟨"ProblemTexts$Reader", "readName", "(III)Z"⟩, 8), (⟨"ProblemTexts$Reader", "readTable", "()Z"⟩, 8), (⟨"ProblemTexts$Reader", "readOf", "()Z"⟩, 8), (⟨"ProblemTexts$Reader", "readSetName", "()I"⟩, 8), (⟨"ProblemTexts$Reader", "readValue", "()Z"⟩, 8), (⟨"ProblemTexts$Reader", "readVar", "()Z"⟩, 8), (⟨"ProblemTexts$Reader", "readRule", "()Z"⟩, 8), (⟨"ProblemTexts$Reader", "readIndices", "()Z"⟩, 8), (⟨"ProblemTexts$Reader", "setAround", "(I)I"⟩, 8), (⟨"ProblemTexts$Reader", "readSum", "(I)LProblemTexts$Part;"⟩, 8), (⟨"ProblemTexts$Reader", "readFactor", "(I)LProblemTexts$Factor;"⟩, 8)]
theorem lw_r1 : ∀ q ∈ lw_privs_1, lw_okq q := List.forall_mem_cons.mpr ⟨lw_p0, List.forall_mem_cons.mpr ⟨lw_p1, List.forall_mem_cons.mpr ⟨lw_p2, List.forall_mem_cons.mpr ⟨lw_p3, List.forall_mem_cons.mpr ⟨lw_p4, List.forall_mem_cons.mpr ⟨lw_p5, List.forall_mem_cons.mpr ⟨lw_p6, List.forall_mem_cons.mpr ⟨lw_p7, List.forall_mem_cons.mpr ⟨lw_p8, List.forall_mem_cons.mpr ⟨lw_p9, List.forall_mem_cons.mpr ⟨lw_p10, List.forall_mem_cons.mpr ⟨lw_p11, List.forall_mem_cons.mpr ⟨lw_p12, List.forall_mem_cons.mpr ⟨lw_p13, List.forall_mem_cons.mpr ⟨lw_p14, List.forall_mem_cons.mpr ⟨lw_p15, fun _ h => absurd h List.not_mem_nil⟩⟩⟩⟩⟩⟩⟩⟩⟩⟩⟩⟩⟩⟩⟩⟩
theorem lw_p16 : lw_okq (⟨"ProblemTexts$Reader", "readNamed", "()LProblemTexts$Factor;"⟩, 8) := ⟨⟨by decide +kernel, by decide +kernel⟩, List.mem_of_getElem? (i := 236) (by decide +kernel), List.mem_of_getElem? (i := 652) (by decide +kernel), List.mem_of_getElem? (i := 653) (by decide +kernel)⟩
theorem lw_p17 : lw_okq (⟨"ProblemTexts$Reader", "readPlace", "(II)I"⟩, 8) := ⟨⟨by decide +kernel, by decide +kernel⟩, List.mem_of_getElem? (i := 236) (by decide +kernel), List.mem_of_getElem? (i := 656) (by decide +kernel), List.mem_of_getElem? (i := 657) (by decide +kernel)⟩
theorem lw_p18 : lw_okq (⟨"ProblemTexts$Reader", "readInner", "(I)LProblemTexts$Factor;"⟩, 8) := ⟨⟨by decide +kernel, by decide +kernel⟩, List.mem_of_getElem? (i := 236) (by decide +kernel), List.mem_of_getElem? (i := 668) (by decide +kernel), List.mem_of_getElem? (i := 669) (by decide +kernel)⟩
theorem lw_p19 : lw_okq (⟨"ProblemTexts$Reader", "dropIndices", "(I)V"⟩, 8) := ⟨⟨by decide +kernel, by decide +kernel⟩, List.mem_of_getElem? (i := 236) (by decide +kernel), List.mem_of_getElem? (i := 677) (by decide +kernel), List.mem_of_getElem? (i := 678) (by decide +kernel)⟩
theorem lw_p20 : lw_okq (⟨"ProblemTexts$Reader", "readRelation", "(I)Z"⟩, 8) := ⟨⟨by decide +kernel, by decide +kernel⟩, List.mem_of_getElem? (i := 236) (by decide +kernel), List.mem_of_getElem? (i := 685) (by decide +kernel), List.mem_of_getElem? (i := 686) (by decide +kernel)⟩
theorem lw_p21 : lw_okq (⟨"ProblemTexts$Reader", "readGoal", "()Z"⟩, 8) := ⟨⟨by decide +kernel, by decide +kernel⟩, List.mem_of_getElem? (i := 236) (by decide +kernel), List.mem_of_getElem? (i := 689) (by decide +kernel), List.mem_of_getElem? (i := 690) (by decide +kernel)⟩
theorem lw_p22 : lw_okq (⟨"ProblemTexts$Model", "makeRow", "(I)V"⟩, 9) := ⟨⟨by decide +kernel, by decide +kernel⟩, List.mem_of_getElem? (i := 267) (by decide +kernel), List.mem_of_getElem? (i := 708) (by decide +kernel), List.mem_of_getElem? (i := 709) (by decide +kernel)⟩
theorem lw_p23 : lw_okq (⟨"ProblemTexts$Model", "start", "([J)V"⟩, 9) := ⟨⟨by decide +kernel, by decide +kernel⟩, List.mem_of_getElem? (i := 267) (by decide +kernel), List.mem_of_getElem? (i := 725) (by decide +kernel), List.mem_of_getElem? (i := 726) (by decide +kernel)⟩
theorem lw_p24 : lw_okq (⟨"ProblemTexts$Model", "addSum", "(LProblemTexts$Part;JI)V"⟩, 9) := ⟨⟨by decide +kernel, by decide +kernel⟩, List.mem_of_getElem? (i := 267) (by decide +kernel), List.mem_of_getElem? (i := 732) (by decide +kernel), List.mem_of_getElem? (i := 733) (by decide +kernel)⟩
theorem lw_p25 : lw_okq (⟨"ProblemTexts$Model", "valueOf", "(LProblemTexts$Factor;I)J"⟩, 9) := ⟨⟨by decide +kernel, by decide +kernel⟩, List.mem_of_getElem? (i := 267) (by decide +kernel), List.mem_of_getElem? (i := 736) (by decide +kernel), List.mem_of_getElem? (i := 737) (by decide +kernel)⟩
theorem lw_p26 : lw_okq (⟨"ProblemTexts$Model", "numberFor", "(I)I"⟩, 9) := ⟨⟨by decide +kernel, by decide +kernel⟩, List.mem_of_getElem? (i := 267) (by decide +kernel), List.mem_of_getElem? (i := 740) (by decide +kernel), List.mem_of_getElem? (i := 741) (by decide +kernel)⟩
theorem lw_p27 : lw_okq (⟨"ProblemTexts$Model", "addInner", "(LProblemTexts$Factor;JI)V"⟩, 9) := ⟨⟨by decide +kernel, by decide +kernel⟩, List.mem_of_getElem? (i := 267) (by decide +kernel), List.mem_of_getElem? (i := 753) (by decide +kernel), List.mem_of_getElem? (i := 754) (by decide +kernel)⟩
theorem lw_p28 : lw_okq (⟨"ProblemTexts$Model", "stand", "(III)V"⟩, 9) := ⟨⟨by decide +kernel, by decide +kernel⟩, List.mem_of_getElem? (i := 267) (by decide +kernel), List.mem_of_getElem? (i := 758) (by decide +kernel), List.mem_of_getElem? (i := 759) (by decide +kernel)⟩
theorem lw_p29 : lw_okq (⟨"ProblemTexts$Model", "addHolder", "(LProblemTexts$Factor;JI)V"⟩, 9) := ⟨⟨by decide +kernel, by decide +kernel⟩, List.mem_of_getElem? (i := 267) (by decide +kernel), List.mem_of_getElem? (i := 763) (by decide +kernel), List.mem_of_getElem? (i := 764) (by decide +kernel)⟩
theorem lw_p30 : lw_okq (⟨"ProblemTexts", "isRow", "(I)Z"⟩, 7) := ⟨⟨by decide +kernel, by decide +kernel⟩, List.mem_of_getElem? (i := 22) (by decide +kernel), List.mem_of_getElem? (i := 810) (by decide +kernel), List.mem_of_getElem? (i := 811) (by decide +kernel)⟩
theorem lw_p31 : lw_okq (⟨"ProblemTexts", "isColumn", "(I)Z"⟩, 7) := ⟨⟨by decide +kernel, by decide +kernel⟩, List.mem_of_getElem? (i := 22) (by decide +kernel), List.mem_of_getElem? (i := 814) (by decide +kernel), List.mem_of_getElem? (i := 815) (by decide +kernel)⟩
def lw_privs_2 : List (MethodName × Nat) := [(⟨"ProblemTexts$Reader", "readNamed", "()LProblemTexts$Factor;"⟩, 8), (⟨"ProblemTexts$Reader", "readPlace", "(II)I"⟩, 8), (⟨"ProblemTexts$Reader", "readInner", "(I)LProblemTexts$Factor;"⟩, 8), (⟨"ProblemTexts$Reader", "dropIndices", "(I)V"⟩, 8), (⟨"ProblemTexts$Reader", "readRelation", "(I)Z"⟩, 8), (⟨"ProblemTexts$Reader", "readGoal", "()Z"⟩, 8), (⟨"ProblemTexts$Model", "makeRow", "(I)V"⟩, 9), (⟨"ProblemTexts$Model", "start", "([J)V"⟩, 9), (⟨"ProblemTexts$Model", "addSum", "(LProblemTexts$Part;JI)V"⟩, 9), (⟨"ProblemTexts$Model", "valueOf", "(LProblemTexts$Factor;I)J"⟩, 9), (⟨"ProblemTexts$Model", "numberFor", "(I)I"⟩, 9), (⟨"ProblemTexts$Model", "addInner", "(LProblemTexts$Factor;JI)V"⟩, 9), (⟨"ProblemTexts$Model", "stand", "(III)V"⟩, 9), (⟨"ProblemTexts$Model", "addHolder", "(LProblemTexts$Factor;JI)V"⟩, 9), (⟨"ProblemTexts", "isRow", "(I)Z"⟩, 7), (⟨"ProblemTexts", "isColumn", "(I)Z"⟩, 7)]
theorem lw_r2 : ∀ q ∈ lw_privs_2, lw_okq q := List.forall_mem_cons.mpr ⟨lw_p16, List.forall_mem_cons.mpr ⟨lw_p17, List.forall_mem_cons.mpr ⟨lw_p18, List.forall_mem_cons.mpr ⟨lw_p19, List.forall_mem_cons.mpr ⟨lw_p20, List.forall_mem_cons.mpr ⟨lw_p21, List.forall_mem_cons.mpr ⟨lw_p22, List.forall_mem_cons.mpr ⟨lw_p23, List.forall_mem_cons.mpr ⟨lw_p24, List.forall_mem_cons.mpr ⟨lw_p25, List.forall_mem_cons.mpr ⟨lw_p26, List.forall_mem_cons.mpr ⟨lw_p27, List.forall_mem_cons.mpr ⟨lw_p28, List.forall_mem_cons.mpr ⟨lw_p29, List.forall_mem_cons.mpr ⟨lw_p30, List.forall_mem_cons.mpr ⟨lw_p31, fun _ h => absurd h List.not_mem_nil⟩⟩⟩⟩⟩⟩⟩⟩⟩⟩⟩⟩⟩⟩⟩⟩
theorem lw_p32 : lw_okq (⟨"ProblemTexts", "isKept", "(I)Z"⟩, 7) := ⟨⟨by decide +kernel, by decide +kernel⟩, List.mem_of_getElem? (i := 22) (by decide +kernel), List.mem_of_getElem? (i := 848) (by decide +kernel), List.mem_of_getElem? (i := 849) (by decide +kernel)⟩
theorem lw_p33 : lw_okq (⟨"ProblemTexts", "printTerm", "(JIZ)V"⟩, 7) := ⟨⟨by decide +kernel, by decide +kernel⟩, List.mem_of_getElem? (i := 22) (by decide +kernel), List.mem_of_getElem? (i := 898) (by decide +kernel), List.mem_of_getElem? (i := 899) (by decide +kernel)⟩
theorem lw_p34 : lw_okq (⟨"ProblemTexts", "printRight", "(J)V"⟩, 7) := ⟨⟨by decide +kernel, by decide +kernel⟩, List.mem_of_getElem? (i := 22) (by decide +kernel), List.mem_of_getElem? (i := 916) (by decide +kernel), List.mem_of_getElem? (i := 917) (by decide +kernel)⟩
theorem lw_p35 : lw_okq (⟨"ProblemTextsModel", "readAll", "()V"⟩, 84) := ⟨⟨by decide +kernel, by decide +kernel⟩, List.mem_of_getElem? (i := 925) (by decide +kernel), List.mem_of_getElem? (i := 1204) (by decide +kernel), List.mem_of_getElem? (i := 1205) (by decide +kernel)⟩
theorem lw_p36 : lw_okq (⟨"ProblemTextsModel", "take", "()V"⟩, 84) := ⟨⟨by decide +kernel, by decide +kernel⟩, List.mem_of_getElem? (i := 925) (by decide +kernel), List.mem_of_getElem? (i := 1208) (by decide +kernel), List.mem_of_getElem? (i := 1209) (by decide +kernel)⟩
theorem lw_p37 : lw_okq (⟨"ProblemTextsModel", "at", "(I)I"⟩, 84) := ⟨⟨by decide +kernel, by decide +kernel⟩, List.mem_of_getElem? (i := 925) (by decide +kernel), List.mem_of_getElem? (i := 1212) (by decide +kernel), List.mem_of_getElem? (i := 1213) (by decide +kernel)⟩
theorem lw_p38 : lw_okq (⟨"ProblemTextsModel", "letters", "()V"⟩, 84) := ⟨⟨by decide +kernel, by decide +kernel⟩, List.mem_of_getElem? (i := 925) (by decide +kernel), List.mem_of_getElem? (i := 1221) (by decide +kernel), List.mem_of_getElem? (i := 1222) (by decide +kernel)⟩
theorem lw_p39 : lw_okq (⟨"ProblemTextsModel", "wordOf", "()I"⟩, 84) := ⟨⟨by decide +kernel, by decide +kernel⟩, List.mem_of_getElem? (i := 925) (by decide +kernel), List.mem_of_getElem? (i := 1225) (by decide +kernel), List.mem_of_getElem? (i := 1226) (by decide +kernel)⟩
theorem lw_p40 : lw_okq (⟨"ProblemTextsModel", "digits", "()V"⟩, 84) := ⟨⟨by decide +kernel, by decide +kernel⟩, List.mem_of_getElem? (i := 925) (by decide +kernel), List.mem_of_getElem? (i := 1237) (by decide +kernel), List.mem_of_getElem? (i := 1238) (by decide +kernel)⟩
theorem lw_p41 : lw_okq (⟨"ProblemTextsModel", "sign", "(I)V"⟩, 84) := ⟨⟨by decide +kernel, by decide +kernel⟩, List.mem_of_getElem? (i := 925) (by decide +kernel), List.mem_of_getElem? (i := 1241) (by decide +kernel), List.mem_of_getElem? (i := 1242) (by decide +kernel)⟩
theorem lw_p42 : lw_okq (⟨"ProblemTextsModel", "goesOn", "()Z"⟩, 84) := ⟨⟨by decide +kernel, by decide +kernel⟩, List.mem_of_getElem? (i := 925) (by decide +kernel), List.mem_of_getElem? (i := 1245) (by decide +kernel), List.mem_of_getElem? (i := 1246) (by decide +kernel)⟩
theorem lw_p43 : lw_okq (⟨"ProblemTextsModel", "setTold", "()V"⟩, 84) := ⟨⟨by decide +kernel, by decide +kernel⟩, List.mem_of_getElem? (i := 925) (by decide +kernel), List.mem_of_getElem? (i := 1249) (by decide +kernel), List.mem_of_getElem? (i := 1250) (by decide +kernel)⟩
theorem lw_p44 : lw_okq (⟨"ProblemTextsModel", "fails", "(I)V"⟩, 84) := ⟨⟨by decide +kernel, by decide +kernel⟩, List.mem_of_getElem? (i := 925) (by decide +kernel), List.mem_of_getElem? (i := 1253) (by decide +kernel), List.mem_of_getElem? (i := 1254) (by decide +kernel)⟩
theorem lw_p45 : lw_okq (⟨"ProblemTextsModel", "newName", "()I"⟩, 84) := ⟨⟨by decide +kernel, by decide +kernel⟩, List.mem_of_getElem? (i := 925) (by decide +kernel), List.mem_of_getElem? (i := 1257) (by decide +kernel), List.mem_of_getElem? (i := 1258) (by decide +kernel)⟩
theorem lw_p46 : lw_okq (⟨"ProblemTextsModel", "is", "(I)Z"⟩, 84) := ⟨⟨by decide +kernel, by decide +kernel⟩, List.mem_of_getElem? (i := 925) (by decide +kernel), List.mem_of_getElem? (i := 1264) (by decide +kernel), List.mem_of_getElem? (i := 1265) (by decide +kernel)⟩
theorem lw_p47 : lw_okq (⟨"ProblemTextsModel", "isSign", "(I)Z"⟩, 84) := ⟨⟨by decide +kernel, by decide +kernel⟩, List.mem_of_getElem? (i := 925) (by decide +kernel), List.mem_of_getElem? (i := 1268) (by decide +kernel), List.mem_of_getElem? (i := 1269) (by decide +kernel)⟩
def lw_privs_3 : List (MethodName × Nat) := [(⟨"ProblemTexts", "isKept", "(I)Z"⟩, 7), (⟨"ProblemTexts", "printTerm", "(JIZ)V"⟩, 7), (⟨"ProblemTexts", "printRight", "(J)V"⟩, 7), (⟨"ProblemTextsModel", "readAll", "()V"⟩, 84), (⟨"ProblemTextsModel", "take", "()V"⟩, 84), (⟨"ProblemTextsModel", "at", "(I)I"⟩, 84), (⟨"ProblemTextsModel", "letters", "()V"⟩, 84), (⟨"ProblemTextsModel", "wordOf", "()I"⟩, 84), (⟨"ProblemTextsModel", "digits", "()V"⟩, 84), (⟨"ProblemTextsModel", "sign", "(I)V"⟩, 84), (⟨"ProblemTextsModel", "goesOn", "()Z"⟩, 84), (⟨"ProblemTextsModel", "setTold", "()V"⟩, 84), (⟨"ProblemTextsModel", "fails", "(I)V"⟩, 84), (⟨"ProblemTextsModel", "newName", "()I"⟩, 84), (⟨"ProblemTextsModel", "is", "(I)Z"⟩, 84), (⟨"ProblemTextsModel", "isSign", "(I)Z"⟩, 84)]
theorem lw_r3 : ∀ q ∈ lw_privs_3, lw_okq q := List.forall_mem_cons.mpr ⟨lw_p32, List.forall_mem_cons.mpr ⟨lw_p33, List.forall_mem_cons.mpr ⟨lw_p34, List.forall_mem_cons.mpr ⟨lw_p35, List.forall_mem_cons.mpr ⟨lw_p36, List.forall_mem_cons.mpr ⟨lw_p37, List.forall_mem_cons.mpr ⟨lw_p38, List.forall_mem_cons.mpr ⟨lw_p39, List.forall_mem_cons.mpr ⟨lw_p40, List.forall_mem_cons.mpr ⟨lw_p41, List.forall_mem_cons.mpr ⟨lw_p42, List.forall_mem_cons.mpr ⟨lw_p43, List.forall_mem_cons.mpr ⟨lw_p44, List.forall_mem_cons.mpr ⟨lw_p45, List.forall_mem_cons.mpr ⟨lw_p46, List.forall_mem_cons.mpr ⟨lw_p47, fun _ h => absurd h List.not_mem_nil⟩⟩⟩⟩⟩⟩⟩⟩⟩⟩⟩⟩⟩⟩⟩⟩
theorem lw_p48 : lw_okq (⟨"ProblemTextsModel", "dataTold", "()V"⟩, 84) := ⟨⟨by decide +kernel, by decide +kernel⟩, List.mem_of_getElem? (i := 925) (by decide +kernel), List.mem_of_getElem? (i := 1272) (by decide +kernel), List.mem_of_getElem? (i := 1273) (by decide +kernel)⟩
theorem lw_p49 : lw_okq (⟨"ProblemTextsModel", "of", "([II)V"⟩, 84) := ⟨⟨by decide +kernel, by decide +kernel⟩, List.mem_of_getElem? (i := 925) (by decide +kernel), List.mem_of_getElem? (i := 1276) (by decide +kernel), List.mem_of_getElem? (i := 1277) (by decide +kernel)⟩
theorem lw_p50 : lw_okq (⟨"ProblemTextsModel", "setNamed", "()I"⟩, 84) := ⟨⟨by decide +kernel, by decide +kernel⟩, List.mem_of_getElem? (i := 925) (by decide +kernel), List.mem_of_getElem? (i := 1280) (by decide +kernel), List.mem_of_getElem? (i := 1281) (by decide +kernel)⟩
theorem lw_p51 : lw_okq (⟨"ProblemTextsModel", "manyOf", "(I)I"⟩, 84) := ⟨⟨by decide +kernel, by decide +kernel⟩, List.mem_of_getElem? (i := 925) (by decide +kernel), List.mem_of_getElem? (i := 1284) (by decide +kernel), List.mem_of_getElem? (i := 1285) (by decide +kernel)⟩
theorem lw_p52 : lw_okq (⟨"ProblemTextsModel", "value", "()I"⟩, 84) := ⟨⟨by decide +kernel, by decide +kernel⟩, List.mem_of_getElem? (i := 925) (by decide +kernel), List.mem_of_getElem? (i := 1288) (by decide +kernel), List.mem_of_getElem? (i := 1289) (by decide +kernel)⟩
theorem lw_p53 : lw_okq (⟨"ProblemTextsModel", "varTold", "()V"⟩, 84) := ⟨⟨by decide +kernel, by decide +kernel⟩, List.mem_of_getElem? (i := 925) (by decide +kernel), List.mem_of_getElem? (i := 1292) (by decide +kernel), List.mem_of_getElem? (i := 1293) (by decide +kernel)⟩
theorem lw_p54 : lw_okq (⟨"ProblemTextsModel", "ruleTold", "()V"⟩, 84) := ⟨⟨by decide +kernel, by decide +kernel⟩, List.mem_of_getElem? (i := 925) (by decide +kernel), List.mem_of_getElem? (i := 1296) (by decide +kernel), List.mem_of_getElem? (i := 1297) (by decide +kernel)⟩
theorem lw_p55 : lw_okq (⟨"ProblemTextsModel", "indices", "()I"⟩, 84) := ⟨⟨by decide +kernel, by decide +kernel⟩, List.mem_of_getElem? (i := 925) (by decide +kernel), List.mem_of_getElem? (i := 1300) (by decide +kernel), List.mem_of_getElem? (i := 1301) (by decide +kernel)⟩
theorem lw_p56 : lw_okq (⟨"ProblemTextsModel", "sum", "()J"⟩, 84) := ⟨⟨by decide +kernel, by decide +kernel⟩, List.mem_of_getElem? (i := 925) (by decide +kernel), List.mem_of_getElem? (i := 1304) (by decide +kernel), List.mem_of_getElem? (i := 1305) (by decide +kernel)⟩
theorem lw_p57 : lw_okq (⟨"ProblemTextsModel", "beginSum", "()V"⟩, 84) := ⟨⟨by decide +kernel, by decide +kernel⟩, List.mem_of_getElem? (i := 925) (by decide +kernel), List.mem_of_getElem? (i := 1308) (by decide +kernel), List.mem_of_getElem? (i := 1309) (by decide +kernel)⟩
theorem lw_p58 : lw_okq (⟨"ProblemTextsModel", "emit", "(IIII)V"⟩, 84) := ⟨⟨by decide +kernel, by decide +kernel⟩, List.mem_of_getElem? (i := 925) (by decide +kernel), List.mem_of_getElem? (i := 1312) (by decide +kernel), List.mem_of_getElem? (i := 1313) (by decide +kernel)⟩
theorem lw_p59 : lw_okq (⟨"ProblemTextsModel", "beginPart", "()V"⟩, 84) := ⟨⟨by decide +kernel, by decide +kernel⟩, List.mem_of_getElem? (i := 925) (by decide +kernel), List.mem_of_getElem? (i := 1316) (by decide +kernel), List.mem_of_getElem? (i := 1317) (by decide +kernel)⟩
theorem lw_p60 : lw_okq (⟨"ProblemTextsModel", "factor", "()I"⟩, 84) := ⟨⟨by decide +kernel, by decide +kernel⟩, List.mem_of_getElem? (i := 925) (by decide +kernel), List.mem_of_getElem? (i := 1320) (by decide +kernel), List.mem_of_getElem? (i := 1321) (by decide +kernel)⟩
theorem lw_p61 : lw_okq (⟨"ProblemTextsModel", "named", "()V"⟩, 84) := ⟨⟨by decide +kernel, by decide +kernel⟩, List.mem_of_getElem? (i := 925) (by decide +kernel), List.mem_of_getElem? (i := 1324) (by decide +kernel), List.mem_of_getElem? (i := 1325) (by decide +kernel)⟩
theorem lw_p62 : lw_okq (⟨"ProblemTextsModel", "place", "(I)I"⟩, 84) := ⟨⟨by decide +kernel, by decide +kernel⟩, List.mem_of_getElem? (i := 925) (by decide +kernel), List.mem_of_getElem? (i := 1328) (by decide +kernel), List.mem_of_getElem? (i := 1329) (by decide +kernel)⟩
theorem lw_p63 : lw_okq (⟨"ProblemTextsModel", "isWithin", "(II)Z"⟩, 84) := ⟨⟨by decide +kernel, by decide +kernel⟩, List.mem_of_getElem? (i := 925) (by decide +kernel), List.mem_of_getElem? (i := 1332) (by decide +kernel), List.mem_of_getElem? (i := 1333) (by decide +kernel)⟩
def lw_privs_4 : List (MethodName × Nat) := [(⟨"ProblemTextsModel", "dataTold", "()V"⟩, 84), (⟨"ProblemTextsModel", "of", "([II)V"⟩, 84), (⟨"ProblemTextsModel", "setNamed", "()I"⟩, 84), (⟨"ProblemTextsModel", "manyOf", "(I)I"⟩, 84), (⟨"ProblemTextsModel", "value", "()I"⟩, 84), (⟨"ProblemTextsModel", "varTold", "()V"⟩, 84), (⟨"ProblemTextsModel", "ruleTold", "()V"⟩, 84), (⟨"ProblemTextsModel", "indices", "()I"⟩, 84), (⟨"ProblemTextsModel", "sum", "()J"⟩, 84), (⟨"ProblemTextsModel", "beginSum", "()V"⟩, 84), (⟨"ProblemTextsModel", "emit", "(IIII)V"⟩, 84), (⟨"ProblemTextsModel", "beginPart", "()V"⟩, 84), (⟨"ProblemTextsModel", "factor", "()I"⟩, 84), (⟨"ProblemTextsModel", "named", "()V"⟩, 84), (⟨"ProblemTextsModel", "place", "(I)I"⟩, 84), (⟨"ProblemTextsModel", "isWithin", "(II)Z"⟩, 84)]
theorem lw_r4 : ∀ q ∈ lw_privs_4, lw_okq q := List.forall_mem_cons.mpr ⟨lw_p48, List.forall_mem_cons.mpr ⟨lw_p49, List.forall_mem_cons.mpr ⟨lw_p50, List.forall_mem_cons.mpr ⟨lw_p51, List.forall_mem_cons.mpr ⟨lw_p52, List.forall_mem_cons.mpr ⟨lw_p53, List.forall_mem_cons.mpr ⟨lw_p54, List.forall_mem_cons.mpr ⟨lw_p55, List.forall_mem_cons.mpr ⟨lw_p56, List.forall_mem_cons.mpr ⟨lw_p57, List.forall_mem_cons.mpr ⟨lw_p58, List.forall_mem_cons.mpr ⟨lw_p59, List.forall_mem_cons.mpr ⟨lw_p60, List.forall_mem_cons.mpr ⟨lw_p61, List.forall_mem_cons.mpr ⟨lw_p62, List.forall_mem_cons.mpr ⟨lw_p63, fun _ h => absurd h List.not_mem_nil⟩⟩⟩⟩⟩⟩⟩⟩⟩⟩⟩⟩⟩⟩⟩⟩
theorem lw_p64 : lw_okq (⟨"ProblemTextsModel", "behind", "()I"⟩, 84) := ⟨⟨by decide +kernel, by decide +kernel⟩, List.mem_of_getElem? (i := 925) (by decide +kernel), List.mem_of_getElem? (i := 1336) (by decide +kernel), List.mem_of_getElem? (i := 1337) (by decide +kernel)⟩
theorem lw_p65 : lw_okq (⟨"ProblemTextsModel", "closes", "()V"⟩, 84) := ⟨⟨by decide +kernel, by decide +kernel⟩, List.mem_of_getElem? (i := 925) (by decide +kernel), List.mem_of_getElem? (i := 1340) (by decide +kernel), List.mem_of_getElem? (i := 1341) (by decide +kernel)⟩
theorem lw_p66 : lw_okq (⟨"ProblemTextsModel", "goalTold", "()V"⟩, 84) := ⟨⟨by decide +kernel, by decide +kernel⟩, List.mem_of_getElem? (i := 925) (by decide +kernel), List.mem_of_getElem? (i := 1344) (by decide +kernel), List.mem_of_getElem? (i := 1345) (by decide +kernel)⟩
theorem lw_p67 : lw_okq (⟨"ProblemTextsModel", "rowsOf", "(I)I"⟩, 84) := ⟨⟨by decide +kernel, by decide +kernel⟩, List.mem_of_getElem? (i := 925) (by decide +kernel), List.mem_of_getElem? (i := 1348) (by decide +kernel), List.mem_of_getElem? (i := 1349) (by decide +kernel)⟩
theorem lw_p68 : lw_okq (⟨"ProblemTextsModel", "keepThings", "()V"⟩, 84) := ⟨⟨by decide +kernel, by decide +kernel⟩, List.mem_of_getElem? (i := 925) (by decide +kernel), List.mem_of_getElem? (i := 1353) (by decide +kernel), List.mem_of_getElem? (i := 1354) (by decide +kernel)⟩
theorem lw_p69 : lw_okq (⟨"ProblemTextsModel", "keepColumns", "(I)V"⟩, 84) := ⟨⟨by decide +kernel, by decide +kernel⟩, List.mem_of_getElem? (i := 925) (by decide +kernel), List.mem_of_getElem? (i := 1357) (by decide +kernel), List.mem_of_getElem? (i := 1358) (by decide +kernel)⟩
theorem lw_p70 : lw_okq (⟨"ProblemTextsModel", "keepRows", "()V"⟩, 84) := ⟨⟨by decide +kernel, by decide +kernel⟩, List.mem_of_getElem? (i := 925) (by decide +kernel), List.mem_of_getElem? (i := 1361) (by decide +kernel), List.mem_of_getElem? (i := 1362) (by decide +kernel)⟩
theorem lw_p71 : lw_okq (⟨"ProblemTextsModel", "go", "(II)V"⟩, 84) := ⟨⟨by decide +kernel, by decide +kernel⟩, List.mem_of_getElem? (i := 925) (by decide +kernel), List.mem_of_getElem? (i := 1365) (by decide +kernel), List.mem_of_getElem? (i := 1366) (by decide +kernel)⟩
theorem lw_p72 : lw_okq (⟨"ProblemTextsModel", "push", "(J)V"⟩, 84) := ⟨⟨by decide +kernel, by decide +kernel⟩, List.mem_of_getElem? (i := 925) (by decide +kernel), List.mem_of_getElem? (i := 1369) (by decide +kernel), List.mem_of_getElem? (i := 1370) (by decide +kernel)⟩
theorem lw_p73 : lw_okq (⟨"ProblemTextsModel", "offset", "(IIII)I"⟩, 84) := ⟨⟨by decide +kernel, by decide +kernel⟩, List.mem_of_getElem? (i := 925) (by decide +kernel), List.mem_of_getElem? (i := 1373) (by decide +kernel), List.mem_of_getElem? (i := 1374) (by decide +kernel)⟩
theorem lw_p74 : lw_okq (⟨"ProblemTextsModel", "placed", "(I)I"⟩, 84) := ⟨⟨by decide +kernel, by decide +kernel⟩, List.mem_of_getElem? (i := 925) (by decide +kernel), List.mem_of_getElem? (i := 1377) (by decide +kernel), List.mem_of_getElem? (i := 1378) (by decide +kernel)⟩
theorem lw_p75 : lw_okq (⟨"ProblemTextsModel", "times", "()V"⟩, 84) := ⟨⟨by decide +kernel, by decide +kernel⟩, List.mem_of_getElem? (i := 925) (by decide +kernel), List.mem_of_getElem? (i := 1381) (by decide +kernel), List.mem_of_getElem? (i := 1382) (by decide +kernel)⟩
theorem lw_p76 : lw_okq (⟨"ProblemTextsModel", "plus", "(J)V"⟩, 84) := ⟨⟨by decide +kernel, by decide +kernel⟩, List.mem_of_getElem? (i := 925) (by decide +kernel), List.mem_of_getElem? (i := 1385) (by decide +kernel), List.mem_of_getElem? (i := 1386) (by decide +kernel)⟩
theorem lw_p77 : lw_okq (⟨"ProblemTextsModel", "loop", "(I)I"⟩, 84) := ⟨⟨by decide +kernel, by decide +kernel⟩, List.mem_of_getElem? (i := 925) (by decide +kernel), List.mem_of_getElem? (i := 1390) (by decide +kernel), List.mem_of_getElem? (i := 1391) (by decide +kernel)⟩
theorem lw_p78 : lw_okq (⟨"ProblemTextsModel", "endOf", "(I)I"⟩, 84) := ⟨⟨by decide +kernel, by decide +kernel⟩, List.mem_of_getElem? (i := 925) (by decide +kernel), List.mem_of_getElem? (i := 1394) (by decide +kernel), List.mem_of_getElem? (i := 1395) (by decide +kernel)⟩
theorem lw_p79 : lw_okq (⟨"ProblemTextsModel", "again", "(I)I"⟩, 84) := ⟨⟨by decide +kernel, by decide +kernel⟩, List.mem_of_getElem? (i := 925) (by decide +kernel), List.mem_of_getElem? (i := 1398) (by decide +kernel), List.mem_of_getElem? (i := 1399) (by decide +kernel)⟩
def lw_privs_5 : List (MethodName × Nat) := [(⟨"ProblemTextsModel", "behind", "()I"⟩, 84), (⟨"ProblemTextsModel", "closes", "()V"⟩, 84), (⟨"ProblemTextsModel", "goalTold", "()V"⟩, 84), (⟨"ProblemTextsModel", "rowsOf", "(I)I"⟩, 84), (⟨"ProblemTextsModel", "keepThings", "()V"⟩, 84), (⟨"ProblemTextsModel", "keepColumns", "(I)V"⟩, 84), (⟨"ProblemTextsModel", "keepRows", "()V"⟩, 84), (⟨"ProblemTextsModel", "go", "(II)V"⟩, 84), (⟨"ProblemTextsModel", "push", "(J)V"⟩, 84), (⟨"ProblemTextsModel", "offset", "(IIII)I"⟩, 84), (⟨"ProblemTextsModel", "placed", "(I)I"⟩, 84), (⟨"ProblemTextsModel", "times", "()V"⟩, 84), (⟨"ProblemTextsModel", "plus", "(J)V"⟩, 84), (⟨"ProblemTextsModel", "loop", "(I)I"⟩, 84), (⟨"ProblemTextsModel", "endOf", "(I)I"⟩, 84), (⟨"ProblemTextsModel", "again", "(I)I"⟩, 84)]
theorem lw_r5 : ∀ q ∈ lw_privs_5, lw_okq q := List.forall_mem_cons.mpr ⟨lw_p64, List.forall_mem_cons.mpr ⟨lw_p65, List.forall_mem_cons.mpr ⟨lw_p66, List.forall_mem_cons.mpr ⟨lw_p67, List.forall_mem_cons.mpr ⟨lw_p68, List.forall_mem_cons.mpr ⟨lw_p69, List.forall_mem_cons.mpr ⟨lw_p70, List.forall_mem_cons.mpr ⟨lw_p71, List.forall_mem_cons.mpr ⟨lw_p72, List.forall_mem_cons.mpr ⟨lw_p73, List.forall_mem_cons.mpr ⟨lw_p74, List.forall_mem_cons.mpr ⟨lw_p75, List.forall_mem_cons.mpr ⟨lw_p76, List.forall_mem_cons.mpr ⟨lw_p77, List.forall_mem_cons.mpr ⟨lw_p78, List.forall_mem_cons.mpr ⟨lw_p79, fun _ h => absurd h List.not_mem_nil⟩⟩⟩⟩⟩⟩⟩⟩⟩⟩⟩⟩⟩⟩⟩⟩
theorem lw_p80 : lw_okq (⟨"ProblemTextsModel", "isIn", "(II)Z"⟩, 84) := ⟨⟨by decide +kernel, by decide +kernel⟩, List.mem_of_getElem? (i := 925) (by decide +kernel), List.mem_of_getElem? (i := 1419) (by decide +kernel), List.mem_of_getElem? (i := 1420) (by decide +kernel)⟩
theorem lw_p81 : lw_okq (⟨"ProblemTextsModel", "keptOffset", "(IIII)I"⟩, 84) := ⟨⟨by decide +kernel, by decide +kernel⟩, List.mem_of_getElem? (i := 925) (by decide +kernel), List.mem_of_getElem? (i := 1423) (by decide +kernel), List.mem_of_getElem? (i := 1424) (by decide +kernel)⟩
theorem lw_p82 : lw_okq (⟨"ProblemTextsModel", "isColumn", "(I)Z"⟩, 84) := ⟨⟨by decide +kernel, by decide +kernel⟩, List.mem_of_getElem? (i := 925) (by decide +kernel), List.mem_of_getElem? (i := 1435) (by decide +kernel), List.mem_of_getElem? (i := 1436) (by decide +kernel)⟩
theorem lw_p83 : lw_okq (⟨"ProblemTextsModel", "isRow", "(I)Z"⟩, 84) := ⟨⟨by decide +kernel, by decide +kernel⟩, List.mem_of_getElem? (i := 925) (by decide +kernel), List.mem_of_getElem? (i := 1443) (by decide +kernel), List.mem_of_getElem? (i := 1444) (by decide +kernel)⟩
theorem lw_p84 : lw_okq (⟨"ProblemTextsModel", "leftOf", "(I)J"⟩, 84) := ⟨⟨by decide +kernel, by decide +kernel⟩, List.mem_of_getElem? (i := 925) (by decide +kernel), List.mem_of_getElem? (i := 1473) (by decide +kernel), List.mem_of_getElem? (i := 1474) (by decide +kernel)⟩
theorem lw_p85 : lw_okq (⟨"ProblemTextsModel", "isKept", "(I)Z"⟩, 84) := ⟨⟨by decide +kernel, by decide +kernel⟩, List.mem_of_getElem? (i := 925) (by decide +kernel), List.mem_of_getElem? (i := 1481) (by decide +kernel), List.mem_of_getElem? (i := 1482) (by decide +kernel)⟩
theorem lw_p86 : lw_okq (⟨"ProblemTextsModel", "sayName", "(I)V"⟩, 84) := ⟨⟨by decide +kernel, by decide +kernel⟩, List.mem_of_getElem? (i := 925) (by decide +kernel), List.mem_of_getElem? (i := 1497) (by decide +kernel), List.mem_of_getElem? (i := 1498) (by decide +kernel)⟩
theorem lw_p87 : lw_okq (⟨"ProblemTextsModel", "say", "(I)V"⟩, 84) := ⟨⟨by decide +kernel, by decide +kernel⟩, List.mem_of_getElem? (i := 925) (by decide +kernel), List.mem_of_getElem? (i := 1501) (by decide +kernel), List.mem_of_getElem? (i := 1502) (by decide +kernel)⟩
theorem lw_p88 : lw_okq (⟨"ProblemTextsModel", "sayColumn", "(IJZ)V"⟩, 84) := ⟨⟨by decide +kernel, by decide +kernel⟩, List.mem_of_getElem? (i := 925) (by decide +kernel), List.mem_of_getElem? (i := 1505) (by decide +kernel), List.mem_of_getElem? (i := 1506) (by decide +kernel)⟩
theorem lw_p89 : lw_okq (⟨"ProblemTextsModel", "saySize", "(J)V"⟩, 84) := ⟨⟨by decide +kernel, by decide +kernel⟩, List.mem_of_getElem? (i := 925) (by decide +kernel), List.mem_of_getElem? (i := 1509) (by decide +kernel), List.mem_of_getElem? (i := 1510) (by decide +kernel)⟩
def lw_privs_6 : List (MethodName × Nat) := [(⟨"ProblemTextsModel", "isIn", "(II)Z"⟩, 84), (⟨"ProblemTextsModel", "keptOffset", "(IIII)I"⟩, 84), (⟨"ProblemTextsModel", "isColumn", "(I)Z"⟩, 84), (⟨"ProblemTextsModel", "isRow", "(I)Z"⟩, 84), (⟨"ProblemTextsModel", "leftOf", "(I)J"⟩, 84), (⟨"ProblemTextsModel", "isKept", "(I)Z"⟩, 84), (⟨"ProblemTextsModel", "sayName", "(I)V"⟩, 84), (⟨"ProblemTextsModel", "say", "(I)V"⟩, 84), (⟨"ProblemTextsModel", "sayColumn", "(IJZ)V"⟩, 84), (⟨"ProblemTextsModel", "saySize", "(J)V"⟩, 84)]
theorem lw_r6 : ∀ q ∈ lw_privs_6, lw_okq q := List.forall_mem_cons.mpr ⟨lw_p80, List.forall_mem_cons.mpr ⟨lw_p81, List.forall_mem_cons.mpr ⟨lw_p82, List.forall_mem_cons.mpr ⟨lw_p83, List.forall_mem_cons.mpr ⟨lw_p84, List.forall_mem_cons.mpr ⟨lw_p85, List.forall_mem_cons.mpr ⟨lw_p86, List.forall_mem_cons.mpr ⟨lw_p87, List.forall_mem_cons.mpr ⟨lw_p88, List.forall_mem_cons.mpr ⟨lw_p89, fun _ h => absurd h List.not_mem_nil⟩⟩⟩⟩⟩⟩⟩⟩⟩⟩
def lw_privs : List (MethodName × Nat) := lw_privs_1 ++ (lw_privs_2 ++ (lw_privs_3 ++ (lw_privs_4 ++ (lw_privs_5 ++ (lw_privs_6)))))
def lw_tbl : List Cond := k2_sels lw_privs ++ tables_1
theorem lw_privs_ok : ∀ q ∈ lw_privs, lw_okq q := by
  show ∀ q ∈ lw_privs_1 ++ (lw_privs_2 ++ (lw_privs_3 ++ (lw_privs_4 ++ (lw_privs_5 ++ (lw_privs_6))))), lw_okq q
  exact List.forall_mem_append.mpr ⟨lw_r1, List.forall_mem_append.mpr ⟨lw_r2, List.forall_mem_append.mpr ⟨lw_r3, List.forall_mem_append.mpr ⟨lw_r4, List.forall_mem_append.mpr ⟨lw_r5, lw_r6⟩⟩⟩⟩⟩
-- end of PART A
end
section
def RX0 : String := "ProblemTexts$Bytes"
def RX1 : String := "ProblemTexts$Declared"
def RX2 : String := "ProblemTexts$Factor"
def RX3 : String := "ProblemTexts$Model"
def RX4 : String := "ProblemTexts$Names"
def RX5 : String := "ProblemTexts$Part"
def RX6 : String := "ProblemTexts$Reader"
def RX7 : String := "ProblemTexts$Sets"
def RX8 : String := "ProblemTexts$Things"
def RX9 : String := "ProblemTexts$Tokens"
def RX10 : String := "ProblemTexts"
def RX11 : String := "ProblemTextsModel"
def RJ0 : String := "java/lang/String"
def RJ1 : String := "java/lang/StringLatin1"
def RJ9 : String := "java/lang/Math"
def RJ13 : String := "java/lang/Long"
def RJ7 : String := "java/util/Arrays"
def RJ3 : String := "jdk/internal/util/Preconditions"
def RL : String := "ProblemTextsLaw"
def TX0 : u_T := fun k => match k with
  | 0 => ("ProblemTexts$Bytes", "held", "[B", true)
  | _ => ("ProblemTexts$Bytes", "length", "I", false)
def tyX0 : Nat → FieldType := fun k => match k with
  | 0 => .array .byte
  | _ => .int
theorem nmX0 : ∀ a, a < 2 → ∀ b, b < 2 → a ≠ b → (TX0 a).2.1 ≠ (TX0 b).2.1 := by decide +kernel
theorem tyX0_ok : ∀ k, k < 2 → parseFieldDescriptor (TX0 k).2.2.1 = some (tyX0 k) := by decide +kernel
theorem inX0 : ∀ w ∈ u_ws RX0 TX0 2, w ∈ lw_tbl := by decide +kernel
def TX1 : u_T := fun k => match k with
  | 0 => ("ProblemTexts$Declared", "names", "LProblemTexts$Names;", true)
  | 1 => ("ProblemTexts$Declared", "sets", "LProblemTexts$Sets;", true)
  | 2 => ("ProblemTexts$Declared", "tables", "LProblemTexts$Things;", true)
  | 3 => ("ProblemTexts$Declared", "vars", "LProblemTexts$Things;", true)
  | 4 => ("ProblemTexts$Declared", "rules", "LProblemTexts$Things;", true)
  | 5 => ("ProblemTexts$Declared", "values", "[I", true)
  | 6 => ("ProblemTexts$Declared", "valued", "I", false)
  | 7 => ("ProblemTexts$Declared", "lows", "[I", true)
  | 8 => ("ProblemTexts$Declared", "highs", "[I", true)
  | 9 => ("ProblemTexts$Declared", "relations", "[I", true)
  | 10 => ("ProblemTexts$Declared", "lefts", "[LProblemTexts$Part;", true)
  | 11 => ("ProblemTexts$Declared", "rights", "[LProblemTexts$Part;", true)
  | 12 => ("ProblemTexts$Declared", "goal", "I", false)
  | 13 => ("ProblemTexts$Declared", "goalSum", "LProblemTexts$Part;", false)
  | _ => ("ProblemTexts$Declared", "work", "J", false)
def tyX1 : Nat → FieldType := fun k => match k with
  | 0 => .object "ProblemTexts$Names"
  | 1 => .object "ProblemTexts$Sets"
  | 2 => .object "ProblemTexts$Things"
  | 3 => .object "ProblemTexts$Things"
  | 4 => .object "ProblemTexts$Things"
  | 5 => .array .int
  | 6 => .int
  | 7 => .array .int
  | 8 => .array .int
  | 9 => .array .int
  | 10 => .array (.object "ProblemTexts$Part")
  | 11 => .array (.object "ProblemTexts$Part")
  | 12 => .int
  | 13 => .object "ProblemTexts$Part"
  | _ => .long
theorem nmX1 : ∀ a, a < 15 → ∀ b, b < 15 → a ≠ b → (TX1 a).2.1 ≠ (TX1 b).2.1 := by decide +kernel
theorem tyX1_ok : ∀ k, k < 15 → parseFieldDescriptor (TX1 k).2.2.1 = some (tyX1 k) := by decide +kernel
theorem inX1 : ∀ w ∈ u_ws RX1 TX1 15, w ∈ lw_tbl := by decide +kernel
def TX2 : u_T := fun k => match k with
  | 0 => ("ProblemTexts$Factor", "kind", "I", true)
  | 1 => ("ProblemTexts$Factor", "which", "I", true)
  | 2 => ("ProblemTexts$Factor", "one", "I", true)
  | 3 => ("ProblemTexts$Factor", "two", "I", true)
  | 4 => ("ProblemTexts$Factor", "inner", "LProblemTexts$Part;", false)
  | 5 => ("ProblemTexts$Factor", "hasVar", "Z", false)
  | _ => ("ProblemTexts$Factor", "next", "LProblemTexts$Factor;", false)
def tyX2 : Nat → FieldType := fun k => match k with
  | 0 => .int
  | 1 => .int
  | 2 => .int
  | 3 => .int
  | 4 => .object "ProblemTexts$Part"
  | 5 => .boolean
  | _ => .object "ProblemTexts$Factor"
theorem nmX2 : ∀ a, a < 7 → ∀ b, b < 7 → a ≠ b → (TX2 a).2.1 ≠ (TX2 b).2.1 := by decide +kernel
theorem tyX2_ok : ∀ k, k < 7 → parseFieldDescriptor (TX2 k).2.2.1 = some (tyX2 k) := by decide +kernel
theorem inX2 : ∀ w ∈ u_ws RX2 TX2 7, w ∈ lw_tbl := by decide +kernel
def TX3 : u_T := fun k => match k with
  | 0 => ("ProblemTexts$Model", "of", "LProblemTexts$Declared;", false)
  | 1 => ("ProblemTexts$Model", "factors", "[[J", true)
  | 2 => ("ProblemTexts$Model", "rights", "[J", true)
  | 3 => ("ProblemTexts$Model", "prices", "[J", true)
  | 4 => ("ProblemTexts$Model", "priceWithout", "J", false)
  | 5 => ("ProblemTexts$Model", "point", "[I", true)
  | 6 => ("ProblemTexts$Model", "numbers", "[I", true)
  | 7 => ("ProblemTexts$Model", "with", "[J", false)
  | _ => ("ProblemTexts$Model", "without", "J", false)
def tyX3 : Nat → FieldType := fun k => match k with
  | 0 => .object "ProblemTexts$Declared"
  | 1 => .array (.array .long)
  | 2 => .array .long
  | 3 => .array .long
  | 4 => .long
  | 5 => .array .int
  | 6 => .array .int
  | 7 => .array .long
  | _ => .long
theorem nmX3 : ∀ a, a < 9 → ∀ b, b < 9 → a ≠ b → (TX3 a).2.1 ≠ (TX3 b).2.1 := by decide +kernel
theorem tyX3_ok : ∀ k, k < 9 → parseFieldDescriptor (TX3 k).2.2.1 = some (tyX3 k) := by decide +kernel
theorem inX3 : ∀ w ∈ u_ws RX3 TX3 9, w ∈ lw_tbl := by decide +kernel
def TX4 : u_T := fun k => match k with
  | 0 => ("ProblemTexts$Names", "packed", "[I", true)
  | 1 => ("ProblemTexts$Names", "sorts", "[I", true)
  | 2 => ("ProblemTexts$Names", "numbers", "[I", true)
  | _ => ("ProblemTexts$Names", "size", "I", false)
def tyX4 : Nat → FieldType := fun k => match k with
  | 0 => .array .int
  | 1 => .array .int
  | 2 => .array .int
  | _ => .int
theorem nmX4 : ∀ a, a < 4 → ∀ b, b < 4 → a ≠ b → (TX4 a).2.1 ≠ (TX4 b).2.1 := by decide +kernel
theorem tyX4_ok : ∀ k, k < 4 → parseFieldDescriptor (TX4 k).2.2.1 = some (tyX4 k) := by decide +kernel
theorem inX4 : ∀ w ∈ u_ws RX4 TX4 4, w ∈ lw_tbl := by decide +kernel
def TX5 : u_T := fun k => match k with
  | 0 => ("ProblemTexts$Part", "minus", "Z", true)
  | 1 => ("ProblemTexts$Part", "plain", "LProblemTexts$Factor;", false)
  | 2 => ("ProblemTexts$Part", "holder", "LProblemTexts$Factor;", false)
  | _ => ("ProblemTexts$Part", "next", "LProblemTexts$Part;", false)
def tyX5 : Nat → FieldType := fun k => match k with
  | 0 => .boolean
  | 1 => .object "ProblemTexts$Factor"
  | 2 => .object "ProblemTexts$Factor"
  | _ => .object "ProblemTexts$Part"
theorem nmX5 : ∀ a, a < 4 → ∀ b, b < 4 → a ≠ b → (TX5 a).2.1 ≠ (TX5 b).2.1 := by decide +kernel
theorem tyX5_ok : ∀ k, k < 4 → parseFieldDescriptor (TX5 k).2.2.1 = some (tyX5 k) := by decide +kernel
theorem inX5 : ∀ w ∈ u_ws RX5 TX5 4, w ∈ lw_tbl := by decide +kernel
def TX6 : u_T := fun k => match k with
  | 0 => ("ProblemTexts$Reader", "tokens", "LProblemTexts$Tokens;", true)
  | 1 => ("ProblemTexts$Reader", "to", "LProblemTexts$Declared;", false)
  | 2 => ("ProblemTexts$Reader", "value", "I", false)
  | 3 => ("ProblemTexts$Reader", "one", "I", false)
  | 4 => ("ProblemTexts$Reader", "two", "I", false)
  | 5 => ("ProblemTexts$Reader", "slots", "[I", true)
  | 6 => ("ProblemTexts$Reader", "around", "I", false)
  | _ => ("ProblemTexts$Reader", "times", "J", false)
def tyX6 : Nat → FieldType := fun k => match k with
  | 0 => .object "ProblemTexts$Tokens"
  | 1 => .object "ProblemTexts$Declared"
  | 2 => .int
  | 3 => .int
  | 4 => .int
  | 5 => .array .int
  | 6 => .int
  | _ => .long
theorem nmX6 : ∀ a, a < 8 → ∀ b, b < 8 → a ≠ b → (TX6 a).2.1 ≠ (TX6 b).2.1 := by decide +kernel
theorem tyX6_ok : ∀ k, k < 8 → parseFieldDescriptor (TX6 k).2.2.1 = some (tyX6 k) := by decide +kernel
theorem inX6 : ∀ w ∈ u_ws RX6 TX6 8, w ∈ lw_tbl := by decide +kernel
def TX7 : u_T := fun k => match k with
  | 0 => ("ProblemTexts$Sets", "firsts", "[I", true)
  | 1 => ("ProblemTexts$Sets", "sizes", "[I", true)
  | _ => ("ProblemTexts$Sets", "size", "I", false)
def tyX7 : Nat → FieldType := fun k => match k with
  | 0 => .array .int
  | 1 => .array .int
  | _ => .int
theorem nmX7 : ∀ a, a < 3 → ∀ b, b < 3 → a ≠ b → (TX7 a).2.1 ≠ (TX7 b).2.1 := by decide +kernel
theorem tyX7_ok : ∀ k, k < 3 → parseFieldDescriptor (TX7 k).2.2.1 = some (tyX7 k) := by decide +kernel
theorem inX7 : ∀ w ∈ u_ws RX7 TX7 3, w ∈ lw_tbl := by decide +kernel
def TX8 : u_T := fun k => match k with
  | 0 => ("ProblemTexts$Things", "sets", "LProblemTexts$Sets;", true)
  | 1 => ("ProblemTexts$Things", "ones", "[I", true)
  | 2 => ("ProblemTexts$Things", "twos", "[I", true)
  | 3 => ("ProblemTexts$Things", "starts", "[I", true)
  | 4 => ("ProblemTexts$Things", "size", "I", false)
  | _ => ("ProblemTexts$Things", "total", "I", false)
def tyX8 : Nat → FieldType := fun k => match k with
  | 0 => .object "ProblemTexts$Sets"
  | 1 => .array .int
  | 2 => .array .int
  | 3 => .array .int
  | 4 => .int
  | _ => .int
theorem nmX8 : ∀ a, a < 6 → ∀ b, b < 6 → a ≠ b → (TX8 a).2.1 ≠ (TX8 b).2.1 := by decide +kernel
theorem tyX8_ok : ∀ k, k < 6 → parseFieldDescriptor (TX8 k).2.2.1 = some (tyX8 k) := by decide +kernel
theorem inX8 : ∀ w ∈ u_ws RX8 TX8 6, w ∈ lw_tbl := by decide +kernel
def TX9 : u_T := fun k => match k with
  | 0 => ("ProblemTexts$Tokens", "kinds", "[I", true)
  | 1 => ("ProblemTexts$Tokens", "places", "[I", true)
  | 2 => ("ProblemTexts$Tokens", "values", "[I", true)
  | 3 => ("ProblemTexts$Tokens", "size", "I", false)
  | 4 => ("ProblemTexts$Tokens", "at", "I", false)
  | _ => ("ProblemTexts$Tokens", "fault", "I", false)
def tyX9 : Nat → FieldType := fun k => match k with
  | 0 => .array .int
  | 1 => .array .int
  | 2 => .array .int
  | 3 => .int
  | 4 => .int
  | _ => .int
theorem nmX9 : ∀ a, a < 6 → ∀ b, b < 6 → a ≠ b → (TX9 a).2.1 ≠ (TX9 b).2.1 := by decide +kernel
theorem tyX9_ok : ∀ k, k < 6 → parseFieldDescriptor (TX9 k).2.2.1 = some (tyX9 k) := by decide +kernel
theorem inX9 : ∀ w ∈ u_ws RX9 TX9 6, w ∈ lw_tbl := by decide +kernel
def TX10 : u_T := fun k => match k with
  | 0 => ("ProblemTexts", "text", "LProblemTexts$Bytes;", true)
  | 1 => ("ProblemTexts", "paper", "LProblemTexts$Bytes;", true)
  | 2 => ("ProblemTexts", "tokens", "LProblemTexts$Tokens;", true)
  | 3 => ("ProblemTexts", "reader", "LProblemTexts$Reader;", true)
  | 4 => ("ProblemTexts", "model", "LProblemTexts$Model;", true)
  | 5 => ("ProblemTexts", "declared", "LProblemTexts$Declared;", false)
  | _ => ("ProblemTexts", "spare", "LProblemTexts$Declared;", false)
def tyX10 : Nat → FieldType := fun k => match k with
  | 0 => .object "ProblemTexts$Bytes"
  | 1 => .object "ProblemTexts$Bytes"
  | 2 => .object "ProblemTexts$Tokens"
  | 3 => .object "ProblemTexts$Reader"
  | 4 => .object "ProblemTexts$Model"
  | 5 => .object "ProblemTexts$Declared"
  | _ => .object "ProblemTexts$Declared"
theorem nmX10 : ∀ a, a < 7 → ∀ b, b < 7 → a ≠ b → (TX10 a).2.1 ≠ (TX10 b).2.1 := by decide +kernel
theorem tyX10_ok : ∀ k, k < 7 → parseFieldDescriptor (TX10 k).2.2.1 = some (tyX10 k) := by decide +kernel
theorem inX10 : ∀ w ∈ u_ws RX10 TX10 7, w ∈ lw_tbl := by decide +kernel
def TX11 : u_T := fun k => match k with
  | 0 => ("ProblemTextsModel", "text", "[I", true)
  | 1 => ("ProblemTextsModel", "size", "I", false)
  | 2 => ("ProblemTextsModel", "token", "I", false)
  | 3 => ("ProblemTextsModel", "first", "I", false)
  | 4 => ("ProblemTextsModel", "next", "I", false)
  | 5 => ("ProblemTextsModel", "number", "I", false)
  | 6 => ("ProblemTextsModel", "fault", "I", false)
  | 7 => ("ProblemTextsModel", "sets", "I", false)
  | 8 => ("ProblemTextsModel", "setName", "[I", true)
  | 9 => ("ProblemTextsModel", "setFirst", "[I", true)
  | 10 => ("ProblemTextsModel", "setMany", "[I", true)
  | 11 => ("ProblemTextsModel", "datas", "I", false)
  | 12 => ("ProblemTextsModel", "dataName", "[I", true)
  | 13 => ("ProblemTextsModel", "dataOf", "[I", true)
  | 14 => ("ProblemTextsModel", "dataValue", "[I", true)
  | 15 => ("ProblemTextsModel", "vars", "I", false)
  | 16 => ("ProblemTextsModel", "varName", "[I", true)
  | 17 => ("ProblemTextsModel", "varOf", "[I", true)
  | 18 => ("ProblemTextsModel", "varLow", "[I", true)
  | 19 => ("ProblemTextsModel", "varHigh", "[I", true)
  | 20 => ("ProblemTextsModel", "rules", "I", false)
  | 21 => ("ProblemTextsModel", "ruleName", "[I", true)
  | 22 => ("ProblemTextsModel", "ruleOf", "[I", true)
  | 23 => ("ProblemTextsModel", "ruleRel", "[I", true)
  | 24 => ("ProblemTextsModel", "ruleActs", "[I", true)
  | 25 => ("ProblemTextsModel", "ruleWork", "[J", true)
  | 26 => ("ProblemTextsModel", "goal", "I", false)
  | 27 => ("ProblemTextsModel", "goalAct", "I", false)
  | 28 => ("ProblemTextsModel", "goalEnd", "I", false)
  | 29 => ("ProblemTextsModel", "goalWork", "J", false)
  | 30 => ("ProblemTextsModel", "around", "I", false)
  | 31 => ("ProblemTextsModel", "aroundName", "[I", true)
  | 32 => ("ProblemTextsModel", "aroundSet", "[I", true)
  | 33 => ("ProblemTextsModel", "acts", "I", false)
  | 34 => ("ProblemTextsModel", "act", "[I", true)
  | 35 => ("ProblemTextsModel", "actA", "[I", true)
  | 36 => ("ProblemTextsModel", "actB", "[I", true)
  | 37 => ("ProblemTextsModel", "actC", "[I", true)
  | 38 => ("ProblemTextsModel", "deep", "I", false)
  | 39 => ("ProblemTextsModel", "deepLoops", "[Z", true)
  | 40 => ("ProblemTextsModel", "deepSign", "[I", true)
  | 41 => ("ProblemTextsModel", "deepPartHolds", "[Z", true)
  | 42 => ("ProblemTextsModel", "deepSumHolds", "[Z", true)
  | 43 => ("ProblemTextsModel", "deepFirst", "[I", true)
  | 44 => ("ProblemTextsModel", "deepWork", "[J", true)
  | 45 => ("ProblemTextsModel", "deepAround", "[I", true)
  | 46 => ("ProblemTextsModel", "deepAct", "[I", true)
  | 47 => ("ProblemTextsModel", "by", "I", false)
  | 48 => ("ProblemTextsModel", "partHolds", "Z", false)
  | 49 => ("ProblemTextsModel", "sumHolds", "Z", false)
  | 50 => ("ProblemTextsModel", "factorFirst", "I", false)
  | 51 => ("ProblemTextsModel", "factorHolds", "Z", false)
  | 52 => ("ProblemTextsModel", "work", "J", false)
  | 53 => ("ProblemTextsModel", "pile", "[J", true)
  | 54 => ("ProblemTextsModel", "top", "I", false)
  | 55 => ("ProblemTextsModel", "index", "[I", true)
  | 56 => ("ProblemTextsModel", "base", "[I", true)
  | 57 => ("ProblemTextsModel", "kept", "[I", true)
  | 58 => ("ProblemTextsModel", "names", "[I", true)
  | 59 => ("ProblemTextsModel", "keptFirst", "[I", true)
  | 60 => ("ProblemTextsModel", "keptMany", "[I", true)
  | 61 => ("ProblemTextsModel", "keptDataOf", "[I", true)
  | 62 => ("ProblemTextsModel", "keptValue", "[I", true)
  | 63 => ("ProblemTextsModel", "keptVarOf", "[I", true)
  | 64 => ("ProblemTextsModel", "keptBase", "[I", true)
  | 65 => ("ProblemTextsModel", "columns", "I", false)
  | 66 => ("ProblemTextsModel", "columnVar", "[I", true)
  | 67 => ("ProblemTextsModel", "columnI", "[I", true)
  | 68 => ("ProblemTextsModel", "columnJ", "[I", true)
  | 69 => ("ProblemTextsModel", "low", "[I", true)
  | 70 => ("ProblemTextsModel", "high", "[I", true)
  | 71 => ("ProblemTextsModel", "point", "[I", true)
  | 72 => ("ProblemTextsModel", "rows", "I", false)
  | 73 => ("ProblemTextsModel", "rowRule", "[I", true)
  | 74 => ("ProblemTextsModel", "rowI", "[I", true)
  | 75 => ("ProblemTextsModel", "rowJ", "[I", true)
  | 76 => ("ProblemTextsModel", "rowRel", "[I", true)
  | 77 => ("ProblemTextsModel", "factors", "[J", true)
  | 78 => ("ProblemTextsModel", "keptGoal", "I", false)
  | 79 => ("ProblemTextsModel", "prices", "[J", true)
  | 80 => ("ProblemTextsModel", "keptWork", "J", false)
  | 81 => ("ProblemTextsModel", "outSize", "I", false)
  | 82 => ("ProblemTextsModel", "out", "[I", true)
  | _ => ("ProblemTextsModel", "digit", "[I", true)
def tyX11 : Nat → FieldType := fun k => match k with
  | 0 => .array .int
  | 1 => .int
  | 2 => .int
  | 3 => .int
  | 4 => .int
  | 5 => .int
  | 6 => .int
  | 7 => .int
  | 8 => .array .int
  | 9 => .array .int
  | 10 => .array .int
  | 11 => .int
  | 12 => .array .int
  | 13 => .array .int
  | 14 => .array .int
  | 15 => .int
  | 16 => .array .int
  | 17 => .array .int
  | 18 => .array .int
  | 19 => .array .int
  | 20 => .int
  | 21 => .array .int
  | 22 => .array .int
  | 23 => .array .int
  | 24 => .array .int
  | 25 => .array .long
  | 26 => .int
  | 27 => .int
  | 28 => .int
  | 29 => .long
  | 30 => .int
  | 31 => .array .int
  | 32 => .array .int
  | 33 => .int
  | 34 => .array .int
  | 35 => .array .int
  | 36 => .array .int
  | 37 => .array .int
  | 38 => .int
  | 39 => .array .boolean
  | 40 => .array .int
  | 41 => .array .boolean
  | 42 => .array .boolean
  | 43 => .array .int
  | 44 => .array .long
  | 45 => .array .int
  | 46 => .array .int
  | 47 => .int
  | 48 => .boolean
  | 49 => .boolean
  | 50 => .int
  | 51 => .boolean
  | 52 => .long
  | 53 => .array .long
  | 54 => .int
  | 55 => .array .int
  | 56 => .array .int
  | 57 => .array .int
  | 58 => .array .int
  | 59 => .array .int
  | 60 => .array .int
  | 61 => .array .int
  | 62 => .array .int
  | 63 => .array .int
  | 64 => .array .int
  | 65 => .int
  | 66 => .array .int
  | 67 => .array .int
  | 68 => .array .int
  | 69 => .array .int
  | 70 => .array .int
  | 71 => .array .int
  | 72 => .int
  | 73 => .array .int
  | 74 => .array .int
  | 75 => .array .int
  | 76 => .array .int
  | 77 => .array .long
  | 78 => .int
  | 79 => .array .long
  | 80 => .long
  | 81 => .int
  | 82 => .array .int
  | _ => .array .int
theorem nmX11 : ∀ a, a < 84 → ∀ b, b < 84 → a ≠ b → (TX11 a).2.1 ≠ (TX11 b).2.1 := by decide +kernel
theorem tyX11_ok : ∀ k, k < 84 → parseFieldDescriptor (TX11 k).2.2.1 = some (tyX11 k) := by decide +kernel
theorem inX11 : ∀ w ∈ u_ws RX11 TX11 84, w ∈ lw_tbl := by decide +kernel
def tyX12 : Nat → FieldType := fun k => match k with
  | 0 => .array .byte
  | _ => .byte
abbrev vwCl : List vw_C := [(RX0, TX0, 2), (RX1, TX1, 15), (RX2, TX2, 7), (RX3, TX3, 9), (RX4, TX4, 4), (RX5, TX5, 4), (RX6, TX6, 8), (RX7, TX7, 3), (RX8, TX8, 6), (RX9, TX9, 6), (RX10, TX10, 7), (RX11, TX11, 84)]
def tyL : List (Nat → FieldType) := [tyX0, tyX1, tyX2, tyX3, tyX4, tyX5, tyX6, tyX7, tyX8, tyX9, tyX10, tyX11, tyX12]
/-- the type of field k of class ci -/
def kTy (ci k : Nat) : FieldType := (tyL.getD ci (fun _ => .int)) k
/-- name, fields, number of fields of class ci -/
def kC (ci : Nat) : vw_C := vwCl.getD ci (RX0, TX0, 0)
def oL : List String := [RX0, RX1, RX2, RX3, RX4, RX5, RX6, RX7, RX8, RX9, RX10, RX11, RJ0, RJ1, RJ9, RJ13, RJ7, RJ3, RL]
def oR (n : Nat) : String := oL.getD n ""
def lkF : List (List (Nat × Nat × Nat)) := [[(15, 0, 1038), (21, 1, 1039)], [(62, 403, 1091), (66, 702, 1113), (84, 805, 1144), (12, 100, 1158), (21, 101, 1161), (52, 102, 1165), (56, 103, 1169), (59, 104, 1173), (25, 105, 1177), (70, 106, 1178), (29, 107, 1179), (32, 108, 1183), (35, 109, 1186), (40, 110, 1189), (44, 111, 1192), (73, 112, 1195), (76, 113, 1198), (80, 114, 1201)], [(9, 200, 3139), (15, 201, 3141), (18, 202, 3143), (21, 203, 3146), (24, 205, 3151)], [(43, 805, 1142), (152, 101, 1164), (172, 102, 1168), (37, 103, 1170), (56, 104, 1174), (53, 107, 1180), (88, 110, 1190), (92, 111, 1193), (67, 113, 1199), (30, 300, 2034), (11, 301, 2035), (16, 302, 2037), (20, 303, 2039), (79, 304, 2041), (23, 305, 2043), (27, 306, 2045), (34, 307, 2046), (75, 308, 2047), (102, 500, 3111), (108, 501, 3114), (121, 502, 3116), (128, 503, 3118), (130, 200, 3140), (136, 201, 3142), (139, 202, 3144), (145, 203, 3147), (165, 204, 3149), (116, 206, 3155)], [(11, 400, 1087), (15, 401, 1088), (18, 402, 1089), (21, 403, 1090)], [(7, 500, 3110), (22, 501, 3113), (18, 502, 3115), (13, 205, 3152), (25, 206, 3154)], [(194, 403, 1092), (81, 702, 1114), (236, 801, 1134), (242, 802, 1136), (104, 804, 1139), (60, 100, 1159), (77, 101, 1162), (100, 102, 1166), (129, 103, 1171), (144, 104, 1176), (138, 107, 1181), (141, 108, 1184), (175, 109, 1187), (158, 110, 1191), (169, 111, 1194), (178, 112, 1196), (183, 113, 1200), (223, 114, 1203), (15, 600, 2001), (19, 601, 2002), (122, 602, 2003), (110, 603, 2004), (116, 604, 2005), (9, 605, 2006), (28, 606, 2007), (154, 607, 2008), (200, 500, 3112), (213, 502, 3117), (220, 503, 3119), (253, 202, 3145), (254, 203, 3148), (263, 204, 3150), (208, 205, 3153)], [(9, 700, 1108), (15, 701, 1110), (18, 702, 1112)], [(9, 800, 1132), (21, 801, 1133), (25, 802, 1135), (28, 803, 1137), (31, 804, 1138), (35, 805, 1141)], [(31, 1, 1041), (9, 900, 1054), (15, 901, 1055), (18, 902, 1056), (21, 903, 1057), (25, 904, 1058), (28, 905, 1059)], [(57, 1, 1040), (73, 905, 1060), (119, 700, 1109), (115, 701, 1111), (110, 702, 1115), (186, 804, 1140), (87, 805, 1143), (93, 100, 1160), (106, 101, 1163), (122, 102, 1167), (133, 103, 1172), (83, 104, 1175), (145, 107, 1182), (148, 108, 1185), (154, 109, 1188), (174, 112, 1197), (187, 114, 1202), (164, 301, 2036), (170, 302, 2038), (183, 303, 2040), (179, 304, 2042), (151, 305, 2044), (14, 1000, 2068), (18, 1001, 2069), (24, 1002, 2070), (43, 1003, 2071), (52, 1004, 2072), (31, 1005, 2073), (35, 1006, 2074)], [(7, 1100, 4210), (184, 1101, 4211), (220, 1102, 4212), (213, 1103, 4213), (202, 1104, 4214), (199, 1105, 4215), (240, 1106, 4216), (256, 1107, 4217), (13, 1108, 4218), (16, 1109, 4219), (19, 1110, 4220), (263, 1111, 4221), (22, 1112, 4222), (25, 1113, 4223), (28, 1114, 4224), (266, 1115, 4225), (31, 1116, 4226), (34, 1117, 4227), (37, 1118, 4228), (40, 1119, 4229), (269, 1120, 4230), (43, 1121, 4231), (46, 1122, 4232), (49, 1123, 4233), (52, 1124, 4234), (55, 1125, 4235), (304, 1126, 4236), (307, 1127, 4237), (314, 1128, 4238), (310, 1129, 4239), (272, 1130, 5000), (59, 1131, 5001), (62, 1132, 5002), (297, 1133, 5003), (65, 1134, 5004), (68, 1135, 5005), (71, 1136, 5006), (74, 1137, 5007), (352, 1138, 5008), (77, 1139, 5009), (81, 1140, 5010), (84, 1141, 5011), (87, 1142, 5012), (90, 1143, 5013), (93, 1144, 5014), (96, 1145, 5015), (99, 1146, 5016), (343, 1147, 5017), (349, 1148, 5018), (336, 1149, 5019), (364, 1150, 5020), (367, 1151, 5021), (340, 1152, 5022), (102, 1153, 5023), (383, 1154, 5024), (105, 1155, 5025), (108, 1156, 5026), (111, 1157, 5027), (114, 1158, 5028), (117, 1159, 5029), (120, 1160, 5030), (123, 1161, 5031), (126, 1162, 5032), (129, 1163, 5033), (132, 1164, 5034), (443, 1165, 5035), (135, 1166, 5036), (138, 1167, 5037), (141, 1168, 5038), (144, 1169, 5039), (147, 1170, 5040), (150, 1171, 5041), (440, 1172, 5042), (153, 1173, 5043), (156, 1174, 5044), (159, 1175, 5045), (162, 1176, 5046), (165, 1177, 5047), (433, 1178, 5048), (168, 1179, 5049), (421, 1180, 5050), (469, 1181, 5051), (171, 1182, 5052), (174, 1183, 5053)], [(15, 1201, 7078), (9, 1200, 7079)], [], [], [], [], [], []]
def lkM : List (List (Nat × Nat × Nat)) := [[(3, 900, 1034), (9, 901, 1035), (34, 2, 4150), (25, 189, 4156), (30, 190, 4157)], [(3, 900, 1080), (49, 57, 1127), (67, 58, 2234)], [(3, 900, 3138)], [(3, 900, 2031), (49, 61, 3223), (59, 14, 3227), (82, 62, 3231), (85, 63, 4000), (63, 15, 4004), (96, 200, 4008), (71, 16, 4011), (112, 20, 4015), (142, 21, 4019), (148, 60, 4023), (175, 9, 4028), (133, 18, 4032), (156, 53, 4036), (161, 19, 4037), (168, 54, 4041), (124, 17, 4042)], [(3, 900, 1086)], [(1, 900, 3109)], [(3, 900, 2000), (23, 7, 2230), (32, 70, 2238), (38, 34, 3002), (86, 33, 3006), (57, 74, 3010), (64, 73, 3014), (67, 25, 3018), (54, 76, 3022), (73, 24, 3026), (90, 75, 3030), (94, 72, 3034), (97, 52, 3038), (42, 35, 3042), (107, 40, 3046), (187, 41, 3050), (190, 26, 3054), (113, 53, 3058), (119, 42, 3062), (124, 8, 3066), (128, 59, 3070), (45, 36, 3075), (132, 71, 3079), (135, 77, 3083), (48, 37, 3087), (148, 43, 3092), (151, 44, 3096), (162, 46, 3100), (197, 29, 3106), (204, 47, 3129), (226, 11, 3135), (229, 48, 3171), (239, 49, 3175), (245, 56, 3179), (249, 55, 3183), (233, 50, 3187), (257, 903, 3193), (172, 45, 3196), (217, 30, 3200), (166, 38, 3204), (51, 39, 3208)], [(3, 900, 1107)], [(3, 900, 1130), (15, 901, 1131), (38, 53, 3074), (47, 61, 3235), (50, 54, 3236), (44, 55, 4027)], [(3, 900, 1053), (36, 1, 2112), (39, 78, 2116), (43, 66, 2119), (62, 69, 2125), (47, 79, 2129), (50, 67, 2132), (53, 68, 2136), (71, 191, 2141), (56, 901, 2225)], [(3, 900, 1026), (11, 0, 1031), (23, 64, 1050), (30, 6, 1077), (40, 31, 1237), (49, 12, 2028), (62, 2, 2096), (65, 65, 2108), (69, 32, 2226), (76, 10, 3214), (80, 13, 3219), (97, 27, 4052), (103, 28, 4056), (125, 60, 4068), (129, 9, 4069), (136, 61, 4078), (139, 62, 4079), (142, 63, 4080), (157, 102, 4089), (161, 101, 4093), (190, 22, 4119), (194, 103, 4127), (223, 188, 4131), (197, 4, 4146), (202, 3, 4152), (206, 104, 4177), (239, 5, 4186), (216, 105, 4195), (220, 1, 4203)], [(1, 900, 4209), (179, 107, 5229), (413, 135, 6003), (246, 118, 6007), (205, 110, 6011), (209, 111, 6015), (230, 113, 6020), (216, 115, 6024), (223, 114, 6028), (227, 112, 6031), (233, 116, 6036), (236, 117, 6040), (252, 122, 6044), (317, 129, 6048), (243, 119, 6052), (281, 124, 6056), (259, 123, 6060), (249, 120, 6063), (278, 121, 6067), (320, 130, 6071), (284, 126, 6075), (275, 125, 6079), (288, 127, 6083), (291, 128, 6087), (323, 131, 6091), (326, 133, 6095), (294, 132, 6099), (300, 139, 6103), (355, 137, 6107), (332, 136, 6111), (346, 138, 6115), (358, 140, 6119), (370, 143, 6123), (377, 141, 6127), (373, 142, 6131), (361, 144, 6135), (380, 145, 6139), (329, 134, 6143), (416, 155, 6147), (424, 157, 6152), (427, 158, 6156), (430, 159, 6160), (436, 151, 6164), (389, 146, 6168), (393, 148, 6172), (386, 147, 6176), (396, 149, 6180), (399, 150, 6184), (404, 152, 6189), (410, 153, 6193), (407, 154, 6197), (449, 160, 6206), (453, 163, 6218), (456, 164, 6222), (459, 167, 6234), (462, 168, 7002), (472, 176, 7032), (476, 178, 7040), (487, 183, 7056), (479, 182, 7060), (490, 185, 7064), (484, 184, 7068)], [(633, 192, 2145), (492, 194, 2149), (505, 189, 2155), (335, 193, 2159), (637, 198, 2163), (495, 196, 4161), (1059, 201, 4167)], [(88, 197, 2166), (92, 901, 2169), (38, 902, 2170), (95, 199, 2173), (9, 195, 4164)], [], [], [], [], [(9, 80, 1023), (15, 81, 2090), (20, 82, 2100), (25, 83, 2104), (30, 84, 4047), (35, 85, 4060), (40, 86, 4064), (44, 87, 4070), (48, 88, 4074), (52, 89, 4081), (56, 90, 4085), (61, 91, 4098), (66, 92, 4102), (70, 93, 4107), (74, 94, 4111), (78, 95, 4115), (82, 96, 4123), (86, 97, 4134), (90, 98, 4138), (95, 99, 4142), (99, 100, 4199), (12, 106, 4206), (19, 108, 5224), (24, 109, 5235), (29, 156, 5239), (34, 161, 6201), (39, 162, 6210), (43, 165, 6214), (47, 166, 6226), (51, 169, 6230), (55, 170, 6238), (60, 171, 7006), (65, 172, 7011), (69, 173, 7015), (73, 174, 7020), (77, 175, 7024), (81, 177, 7028), (85, 179, 7036), (89, 180, 7044), (94, 181, 7048), (98, 186, 7052), (102, 187, 7073)]]
def lkN : List (List (Nat × Nat × Nat)) := [[], [(11, 23, 1083), (20, 51, 1104)], [], [], [], [], [], [], [], [], [], [], [], [], [], [], [], [], []]
def lkC : List (List (Nat × Nat × Nat)) := [[], [(9, 4, 1081), (18, 7, 1102), (38, 5, 1123), (47, 8, 1125)], [], [(9, 77, 2032)], [], [], [(195, 5, 3104), (209, 2, 3133)], [], [], [], [(9, 0, 1029), (21, 9, 1048), (28, 1, 1075), (38, 6, 1235), (47, 3, 2026)], [], [], [], [], [], [], [], [(7, 10, 1021), (10, 11, 4204)]]
def lkS : List (List (Nat × Nat × Nat)) := [[], [], [], [], [], [], [], [], [], [(69, 4, 2140)], [(200, 5, 4151), (229, 6, 4181), (231, 7, 4182), (233, 8, 4183), (235, 9, 4184), (210, 10, 4192), (212, 11, 4193), (214, 12, 4194)], [], [], [], [], [], [], [], []]
def lkI : List (List (Nat × Int × Nat)) := [[], [], [], [], [], [], [(147, 6713202, 3091), (252, 7566701, 3191), (181, 7170414, 3212), (182, 7168376, 3213)], [], [], [], [(56, -100002, 2094), (61, -100004, 2095), (92, -100001, 4051)], [(183, -100002, 5232), (188, -100004, 5233), (446, -100001, 6209)], [], [], [], [], [], [], []]
def lkL : List (List (Nat × Int × Nat)) := [[(38, 10, 4190), (40, 48, 4191)], [(87, 20000, 3218)], [], [(94, -1, 4046)], [], [], [(255, 1000000000, 3192)], [], [], [], [(168, -100001, 4097), (177, -100003, 4106), (237, -1, 4185)], [(177, 8, 5228), (189, 255, 5234), (191, 97, 6018), (193, 122, 6019), (195, 48, 6034), (197, 57, 6035), (419, 20000, 6151), (402, -1, 6188), (447, 3, 6205), (465, -100001, 7010), (467, -100003, 7019), (482, 10, 7072)], [], [], [], [], [], [], [(13, 4294967295, 7077)]]
/-- static fields: (entry, kind, word): kind 0 COMPACT_STRINGS, 1 the formatter, 2 WORDS (a nest mate's) -/
def lkG : List (List (Nat × Nat × Nat)) := [[], [], [], [], [], [], [], [], [], [(66, 2, 2123)], [], [], [(38, 0, 2153), (1053, 1, 2194)], [], [], [], [], [], []]
def ym_0 : MethodName := ⟨RX0, "<init>", "(I)V"⟩
def ym_1 : MethodName := ⟨RX0, "at", "(I)I"⟩
def ym_2 : MethodName := ⟨RX0, "add", "(I)V"⟩
def ym_3 : MethodName := ⟨RX0, "addText", "(Ljava/lang/String;)V"⟩
def ym_4 : MethodName := ⟨RX0, "addName", "(I)V"⟩
def ym_5 : MethodName := ⟨RX0, "addSize", "(J)V"⟩
def ym_6 : MethodName := ⟨RX1, "<init>", "()V"⟩
def ym_7 : MethodName := ⟨RX1, "clear", "()V"⟩
def ym_8 : MethodName := ⟨RX1, "addValue", "(I)V"⟩
def ym_9 : MethodName := ⟨RX1, "valueAt", "(I)I"⟩
def ym_10 : MethodName := ⟨RX1, "isTooLarge", "()Z"⟩
def ym_11 : MethodName := ⟨RX2, "<init>", "(IIII)V"⟩
def ym_12 : MethodName := ⟨RX3, "<init>", "(LProblemTexts$Declared;)V"⟩
def ym_13 : MethodName := ⟨RX3, "make", "(LProblemTexts$Declared;)V"⟩
def ym_14 : MethodName := ⟨RX3, "makeRow", "(I)V"⟩
def ym_15 : MethodName := ⟨RX3, "start", "([J)V"⟩
def ym_16 : MethodName := ⟨RX3, "addSum", "(LProblemTexts$Part;JI)V"⟩
def ym_17 : MethodName := ⟨RX3, "addHolder", "(LProblemTexts$Factor;JI)V"⟩
def ym_18 : MethodName := ⟨RX3, "addInner", "(LProblemTexts$Factor;JI)V"⟩
def ym_19 : MethodName := ⟨RX3, "stand", "(III)V"⟩
def ym_20 : MethodName := ⟨RX3, "valueOf", "(LProblemTexts$Factor;I)J"⟩
def ym_21 : MethodName := ⟨RX3, "numberFor", "(I)I"⟩
def ym_22 : MethodName := ⟨RX3, "atPoint", "([J)J"⟩
def ym_23 : MethodName := ⟨RX4, "<init>", "()V"⟩
def ym_24 : MethodName := ⟨RX4, "add", "(III)V"⟩
def ym_25 : MethodName := ⟨RX4, "sortOf", "(I)I"⟩
def ym_26 : MethodName := ⟨RX4, "find", "(II)I"⟩
def ym_27 : MethodName := ⟨RX4, "nameOf", "(II)I"⟩
def ym_28 : MethodName := ⟨RX4, "letter", "(II)I"⟩
def ym_29 : MethodName := ⟨RX5, "<init>", "(Z)V"⟩
def ym_30 : MethodName := ⟨RX5, "add", "(LProblemTexts$Factor;)V"⟩
def ym_31 : MethodName := ⟨RX6, "<init>", "(LProblemTexts$Tokens;LProblemTexts$Declared;)V"⟩
def ym_32 : MethodName := ⟨RX6, "readText", "(LProblemTexts$Declared;)Z"⟩
def ym_33 : MethodName := ⟨RX6, "readName", "(III)Z"⟩
def ym_34 : MethodName := ⟨RX6, "readSet", "()Z"⟩
def ym_35 : MethodName := ⟨RX6, "readTable", "()Z"⟩
def ym_36 : MethodName := ⟨RX6, "readVar", "()Z"⟩
def ym_37 : MethodName := ⟨RX6, "readRule", "()Z"⟩
def ym_38 : MethodName := ⟨RX6, "readRelation", "(I)Z"⟩
def ym_39 : MethodName := ⟨RX6, "readGoal", "()Z"⟩
def ym_40 : MethodName := ⟨RX6, "readOf", "()Z"⟩
def ym_41 : MethodName := ⟨RX6, "readSetName", "()I"⟩
def ym_42 : MethodName := ⟨RX6, "readValue", "()Z"⟩
def ym_43 : MethodName := ⟨RX6, "readIndices", "()Z"⟩
def ym_44 : MethodName := ⟨RX6, "setAround", "(I)I"⟩
def ym_45 : MethodName := ⟨RX6, "dropIndices", "(I)V"⟩
def ym_46 : MethodName := ⟨RX6, "readSum", "(I)LProblemTexts$Part;"⟩
def ym_47 : MethodName := ⟨RX6, "readFactor", "(I)LProblemTexts$Factor;"⟩
def ym_48 : MethodName := ⟨RX6, "readNamed", "()LProblemTexts$Factor;"⟩
def ym_49 : MethodName := ⟨RX6, "readPlace", "(II)I"⟩
def ym_50 : MethodName := ⟨RX6, "readInner", "(I)LProblemTexts$Factor;"⟩
def ym_51 : MethodName := ⟨RX7, "<init>", "()V"⟩
def ym_52 : MethodName := ⟨RX7, "add", "(II)V"⟩
def ym_53 : MethodName := ⟨RX7, "sizeOf", "(I)I"⟩
def ym_54 : MethodName := ⟨RX7, "numberAt", "(II)I"⟩
def ym_55 : MethodName := ⟨RX7, "offsetOf", "(II)I"⟩
def ym_56 : MethodName := ⟨RX7, "isWithin", "(II)Z"⟩
def ym_57 : MethodName := ⟨RX8, "<init>", "(LProblemTexts$Sets;I)V"⟩
def ym_58 : MethodName := ⟨RX8, "clear", "()V"⟩
def ym_59 : MethodName := ⟨RX8, "add", "(II)V"⟩
def ym_60 : MethodName := ⟨RX8, "spot", "(III)I"⟩
def ym_61 : MethodName := ⟨RX8, "owner", "(I)I"⟩
def ym_62 : MethodName := ⟨RX8, "firstNumber", "(I)I"⟩
def ym_63 : MethodName := ⟨RX8, "secondNumber", "(I)I"⟩
def ym_64 : MethodName := ⟨RX9, "<init>", "()V"⟩
def ym_65 : MethodName := ⟨RX9, "scan", "(LProblemTexts$Bytes;)V"⟩
def ym_66 : MethodName := ⟨RX9, "scanLetters", "(LProblemTexts$Bytes;I)I"⟩
def ym_67 : MethodName := ⟨RX9, "scanDigits", "(LProblemTexts$Bytes;I)I"⟩
def ym_68 : MethodName := ⟨RX9, "scanSign", "(LProblemTexts$Bytes;I)I"⟩
def ym_69 : MethodName := ⟨RX9, "add", "(III)V"⟩
def ym_70 : MethodName := ⟨RX9, "kind", "()I"⟩
def ym_71 : MethodName := ⟨RX9, "place", "()I"⟩
def ym_72 : MethodName := ⟨RX9, "value", "()I"⟩
def ym_73 : MethodName := ⟨RX9, "named", "()I"⟩
def ym_74 : MethodName := ⟨RX9, "advance", "()V"⟩
def ym_75 : MethodName := ⟨RX9, "take", "(I)Z"⟩
def ym_76 : MethodName := ⟨RX9, "refuse", "()Z"⟩
def ym_77 : MethodName := ⟨RX9, "refuseAt", "(I)V"⟩
def ym_78 : MethodName := ⟨RX9, "isLetter", "(I)Z"⟩
def ym_79 : MethodName := ⟨RX9, "isDigit", "(I)Z"⟩
def ym_80 : MethodName := ⟨RX10, "<init>", "()V"⟩
def ym_81 : MethodName := ⟨RX10, "feed", "(IJ)I"⟩
def ym_82 : MethodName := ⟨RX10, "cut", "(I)I"⟩
def ym_83 : MethodName := ⟨RX10, "read", "()I"⟩
def ym_84 : MethodName := ⟨RX10, "name", "(III)I"⟩
def ym_85 : MethodName := ⟨RX10, "set", "(II)I"⟩
def ym_86 : MethodName := ⟨RX10, "data", "(III)I"⟩
def ym_87 : MethodName := ⟨RX10, "column", "(III)I"⟩
def ym_88 : MethodName := ⟨RX10, "about", "(II)I"⟩
def ym_89 : MethodName := ⟨RX10, "row", "(II)I"⟩
def ym_90 : MethodName := ⟨RX10, "factor", "(II)J"⟩
def ym_91 : MethodName := ⟨RX10, "right", "(I)J"⟩
def ym_92 : MethodName := ⟨RX10, "price", "(I)J"⟩
def ym_93 : MethodName := ⟨RX10, "count", "(I)I"⟩
def ym_94 : MethodName := ⟨RX10, "put", "(II)I"⟩
def ym_95 : MethodName := ⟨RX10, "left", "(I)J"⟩
def ym_96 : MethodName := ⟨RX10, "holds", "(I)I"⟩
def ym_97 : MethodName := ⟨RX10, "broken", "(I)I"⟩
def ym_98 : MethodName := ⟨RX10, "worth", "()J"⟩
def ym_99 : MethodName := ⟨RX10, "print", "(I)I"⟩
def ym_100 : MethodName := ⟨RX10, "out", "(I)I"⟩
def ym_101 : MethodName := ⟨RX10, "isColumn", "(I)Z"⟩
def ym_102 : MethodName := ⟨RX10, "isRow", "(I)Z"⟩
def ym_103 : MethodName := ⟨RX10, "isKept", "(I)Z"⟩
def ym_104 : MethodName := ⟨RX10, "printTerm", "(JIZ)V"⟩
def ym_105 : MethodName := ⟨RX10, "printRight", "(J)V"⟩
def ym_106 : MethodName := ⟨RX11, "<init>", "()V"⟩
def ym_107 : MethodName := ⟨RX11, "in", "(JJJ)Z"⟩
def ym_108 : MethodName := ⟨RX11, "feed", "(IJ)I"⟩
def ym_109 : MethodName := ⟨RX11, "cut", "(I)I"⟩
def ym_110 : MethodName := ⟨RX11, "at", "(I)I"⟩
def ym_111 : MethodName := ⟨RX11, "isLetter", "(I)Z"⟩
def ym_112 : MethodName := ⟨RX11, "isDigit", "(I)Z"⟩
def ym_113 : MethodName := ⟨RX11, "letters", "()V"⟩
def ym_114 : MethodName := ⟨RX11, "coded", "(IIII)I"⟩
def ym_115 : MethodName := ⟨RX11, "wordOf", "()I"⟩
def ym_116 : MethodName := ⟨RX11, "digits", "()V"⟩
def ym_117 : MethodName := ⟨RX11, "sign", "(I)V"⟩
def ym_118 : MethodName := ⟨RX11, "take", "()V"⟩
def ym_119 : MethodName := ⟨RX11, "fails", "(I)V"⟩
def ym_120 : MethodName := ⟨RX11, "is", "(I)Z"⟩
def ym_121 : MethodName := ⟨RX11, "isSign", "(I)Z"⟩
def ym_122 : MethodName := ⟨RX11, "goesOn", "()Z"⟩
def ym_123 : MethodName := ⟨RX11, "find", "([III)I"⟩
def ym_124 : MethodName := ⟨RX11, "newName", "()I"⟩
def ym_125 : MethodName := ⟨RX11, "setNamed", "()I"⟩
def ym_126 : MethodName := ⟨RX11, "of", "([II)V"⟩
def ym_127 : MethodName := ⟨RX11, "manyOf", "(I)I"⟩
def ym_128 : MethodName := ⟨RX11, "value", "()I"⟩
def ym_129 : MethodName := ⟨RX11, "setTold", "()V"⟩
def ym_130 : MethodName := ⟨RX11, "dataTold", "()V"⟩
def ym_131 : MethodName := ⟨RX11, "varTold", "()V"⟩
def ym_132 : MethodName := ⟨RX11, "indices", "()I"⟩
def ym_133 : MethodName := ⟨RX11, "ruleTold", "()V"⟩
def ym_134 : MethodName := ⟨RX11, "goalTold", "()V"⟩
def ym_135 : MethodName := ⟨RX11, "readAll", "()V"⟩
def ym_136 : MethodName := ⟨RX11, "emit", "(IIII)V"⟩
def ym_137 : MethodName := ⟨RX11, "beginSum", "()V"⟩
def ym_138 : MethodName := ⟨RX11, "beginPart", "()V"⟩
def ym_139 : MethodName := ⟨RX11, "sum", "()J"⟩
def ym_140 : MethodName := ⟨RX11, "factor", "()I"⟩
def ym_141 : MethodName := ⟨RX11, "place", "(I)I"⟩
def ym_142 : MethodName := ⟨RX11, "isWithin", "(II)Z"⟩
def ym_143 : MethodName := ⟨RX11, "named", "()V"⟩
def ym_144 : MethodName := ⟨RX11, "behind", "()I"⟩
def ym_145 : MethodName := ⟨RX11, "closes", "()V"⟩
def ym_146 : MethodName := ⟨RX11, "push", "(J)V"⟩
def ym_147 : MethodName := ⟨RX11, "placed", "(I)I"⟩
def ym_148 : MethodName := ⟨RX11, "offset", "(IIII)I"⟩
def ym_149 : MethodName := ⟨RX11, "times", "()V"⟩
def ym_150 : MethodName := ⟨RX11, "plus", "(J)V"⟩
def ym_151 : MethodName := ⟨RX11, "go", "(II)V"⟩
def ym_152 : MethodName := ⟨RX11, "loop", "(I)I"⟩
def ym_153 : MethodName := ⟨RX11, "endOf", "(I)I"⟩
def ym_154 : MethodName := ⟨RX11, "again", "(I)I"⟩
def ym_155 : MethodName := ⟨RX11, "rowsOf", "(I)I"⟩
def ym_156 : MethodName := ⟨RX11, "read", "()I"⟩
def ym_157 : MethodName := ⟨RX11, "keepThings", "()V"⟩
def ym_158 : MethodName := ⟨RX11, "keepColumns", "(I)V"⟩
def ym_159 : MethodName := ⟨RX11, "keepRows", "()V"⟩
def ym_160 : MethodName := ⟨RX11, "letter", "(II)I"⟩
def ym_161 : MethodName := ⟨RX11, "name", "(III)I"⟩
def ym_162 : MethodName := ⟨RX11, "set", "(II)I"⟩
def ym_163 : MethodName := ⟨RX11, "isIn", "(II)Z"⟩
def ym_164 : MethodName := ⟨RX11, "keptOffset", "(IIII)I"⟩
def ym_165 : MethodName := ⟨RX11, "data", "(III)I"⟩
def ym_166 : MethodName := ⟨RX11, "column", "(III)I"⟩
def ym_167 : MethodName := ⟨RX11, "isColumn", "(I)Z"⟩
def ym_168 : MethodName := ⟨RX11, "isRow", "(I)Z"⟩
def ym_169 : MethodName := ⟨RX11, "about", "(II)I"⟩
def ym_170 : MethodName := ⟨RX11, "row", "(II)I"⟩
def ym_171 : MethodName := ⟨RX11, "factor", "(II)J"⟩
def ym_172 : MethodName := ⟨RX11, "right", "(I)J"⟩
def ym_173 : MethodName := ⟨RX11, "price", "(I)J"⟩
def ym_174 : MethodName := ⟨RX11, "count", "(I)I"⟩
def ym_175 : MethodName := ⟨RX11, "put", "(II)I"⟩
def ym_176 : MethodName := ⟨RX11, "leftOf", "(I)J"⟩
def ym_177 : MethodName := ⟨RX11, "left", "(I)J"⟩
def ym_178 : MethodName := ⟨RX11, "isKept", "(I)Z"⟩
def ym_179 : MethodName := ⟨RX11, "holds", "(I)I"⟩
def ym_180 : MethodName := ⟨RX11, "broken", "(I)I"⟩
def ym_181 : MethodName := ⟨RX11, "worth", "()J"⟩
def ym_182 : MethodName := ⟨RX11, "say", "(I)V"⟩
def ym_183 : MethodName := ⟨RX11, "sayName", "(I)V"⟩
def ym_184 : MethodName := ⟨RX11, "saySize", "(J)V"⟩
def ym_185 : MethodName := ⟨RX11, "sayColumn", "(IJZ)V"⟩
def ym_186 : MethodName := ⟨RX11, "print", "(I)I"⟩
def ym_187 : MethodName := ⟨RX11, "out", "(I)I"⟩
def ym_188 : MethodName := ⟨RJ13, "compare", "(JJ)I"⟩
def ym_189 : MethodName := ⟨RJ0, "length", "()I"⟩
def ym_190 : MethodName := ⟨RJ0, "charAt", "(I)C"⟩
def ym_191 : MethodName := ⟨RJ0, "indexOf", "(I)I"⟩
def ym_192 : MethodName := ⟨RJ0, "indexOf", "(II)I"⟩
def ym_193 : MethodName := ⟨RJ0, "coder", "()B"⟩
def ym_194 : MethodName := ⟨RJ0, "isLatin1", "()Z"⟩
def ym_195 : MethodName := ⟨RJ0, "checkIndex", "(II)V"⟩
def ym_196 : MethodName := ⟨RJ1, "charAt", "([BI)C"⟩
def ym_197 : MethodName := ⟨RJ1, "canEncode", "(I)Z"⟩
def ym_198 : MethodName := ⟨RJ1, "indexOf", "([BIII)I"⟩
def ym_199 : MethodName := ⟨RJ1, "indexOfChar", "([BIII)I"⟩
def ym_200 : MethodName := ⟨RJ7, "fill", "([JJ)V"⟩
def ym_201 : MethodName := ⟨RJ3, "checkIndex", "(IILjava/util/function/BiFunction;)I"⟩
def ym_202 : MethodName := ⟨RL, "law", "([I)Z"⟩
/-- a method: name, bytes, locals, what it answers, own class, arguments (the receiver too), kind: 0 by class, 1 static, 2 constructor -/
def mt_0 : List (MethodName × ByteArray × Nat × Option FieldType × Nat × Nat × Nat) := [(ym_0, prog_2_method_1_code, 2, none, 0, 2, 2), (ym_1, prog_2_method_2_code, 2, (some .int), 0, 2, 0), (ym_2, prog_2_method_3_code, 2, none, 0, 2, 0), (ym_3, prog_2_method_4_code, 3, none, 0, 2, 0), (ym_4, prog_2_method_5_code, 4, none, 0, 2, 0), (ym_5, prog_2_method_6_code, 8, none, 0, 2, 0), (ym_6, prog_3_method_1_code, 1, none, 1, 1, 2), (ym_7, prog_3_method_2_code, 1, none, 1, 1, 0), (ym_8, prog_3_method_3_code, 2, none, 1, 2, 0), (ym_9, prog_3_method_4_code, 2, (some .int), 1, 2, 0), (ym_10, prog_3_method_5_code, 1, (some .boolean), 1, 1, 0), (ym_11, prog_4_method_1_code, 5, none, 2, 5, 2), (ym_12, prog_5_method_1_code, 2, none, 3, 2, 2), (ym_13, prog_5_method_2_code, 4, none, 3, 2, 0), (ym_14, prog_5_method_3_code, 3, none, 3, 2, 0), (ym_15, prog_5_method_4_code, 2, none, 3, 2, 0), (ym_16, prog_5_method_5_code, 9, none, 3, 4, 0), (ym_17, prog_5_method_6_code, 6, none, 3, 4, 0), (ym_18, prog_5_method_7_code, 9, none, 3, 4, 0), (ym_19, prog_5_method_8_code, 4, none, 3, 4, 0)]
def mt_1 : List (MethodName × ByteArray × Nat × Option FieldType × Nat × Nat × Nat) := [(ym_20, prog_5_method_9_code, 7, (some .long), 3, 3, 0), (ym_21, prog_5_method_10_code, 2, (some .int), 3, 2, 0), (ym_22, prog_5_method_11_code, 5, (some .long), 3, 2, 0), (ym_23, prog_6_method_1_code, 1, none, 4, 1, 2), (ym_24, prog_6_method_2_code, 4, none, 4, 4, 0), (ym_25, prog_6_method_3_code, 3, (some .int), 4, 2, 0), (ym_26, prog_6_method_4_code, 4, (some .int), 4, 3, 0), (ym_27, prog_6_method_5_code, 4, (some .int), 4, 3, 0), (ym_28, prog_6_method_6_code, 4, (some .int), 4, 3, 0), (ym_29, prog_7_method_1_code, 2, none, 5, 2, 2), (ym_30, prog_7_method_2_code, 2, none, 5, 2, 0), (ym_31, prog_8_method_1_code, 3, none, 6, 3, 2), (ym_32, prog_8_method_2_code, 4, (some .boolean), 6, 2, 0), (ym_33, prog_8_method_3_code, 4, (some .boolean), 6, 4, 0), (ym_34, prog_8_method_4_code, 3, (some .boolean), 6, 1, 0), (ym_35, prog_8_method_5_code, 3, (some .boolean), 6, 1, 0), (ym_36, prog_8_method_6_code, 4, (some .boolean), 6, 1, 0), (ym_37, prog_8_method_7_code, 2, (some .boolean), 6, 1, 0), (ym_38, prog_8_method_8_code, 2, (some .boolean), 6, 2, 0), (ym_39, prog_8_method_9_code, 1, (some .boolean), 6, 1, 0)]
def mt_2 : List (MethodName × ByteArray × Nat × Option FieldType × Nat × Nat × Nat) := [(ym_40, prog_8_method_10_code, 1, (some .boolean), 6, 1, 0), (ym_41, prog_8_method_11_code, 2, (some .int), 6, 1, 0), (ym_42, prog_8_method_12_code, 2, (some .boolean), 6, 1, 0), (ym_43, prog_8_method_13_code, 4, (some .boolean), 6, 1, 0), (ym_44, prog_8_method_14_code, 2, (some .int), 6, 2, 0), (ym_45, prog_8_method_15_code, 2, none, 6, 2, 0), (ym_46, prog_8_method_16_code, 8, (some (.object "ProblemTexts$Part")), 6, 2, 0), (ym_47, prog_8_method_17_code, 3, (some (.object "ProblemTexts$Factor")), 6, 2, 0), (ym_48, prog_8_method_18_code, 6, (some (.object "ProblemTexts$Factor")), 6, 1, 0), (ym_49, prog_8_method_19_code, 5, (some .int), 6, 3, 0), (ym_50, prog_8_method_20_code, 8, (some (.object "ProblemTexts$Factor")), 6, 2, 0), (ym_51, prog_9_method_1_code, 1, none, 7, 1, 2), (ym_52, prog_9_method_2_code, 3, none, 7, 3, 0), (ym_53, prog_9_method_3_code, 2, (some .int), 7, 2, 0), (ym_54, prog_9_method_4_code, 3, (some .int), 7, 3, 0), (ym_55, prog_9_method_5_code, 3, (some .int), 7, 3, 0), (ym_56, prog_9_method_6_code, 3, (some .boolean), 7, 3, 0), (ym_57, prog_10_method_1_code, 3, none, 8, 3, 2), (ym_58, prog_10_method_2_code, 1, none, 8, 1, 0), (ym_59, prog_10_method_3_code, 3, none, 8, 3, 0)]
def mt_3 : List (MethodName × ByteArray × Nat × Option FieldType × Nat × Nat × Nat) := [(ym_60, prog_10_method_4_code, 6, (some .int), 8, 4, 0), (ym_61, prog_10_method_5_code, 3, (some .int), 8, 2, 0), (ym_62, prog_10_method_6_code, 4, (some .int), 8, 2, 0), (ym_63, prog_10_method_7_code, 4, (some .int), 8, 2, 0), (ym_64, prog_11_method_1_code, 1, none, 9, 1, 2), (ym_65, prog_11_method_2_code, 5, none, 9, 2, 0), (ym_66, prog_11_method_3_code, 7, (some .int), 9, 3, 0), (ym_67, prog_11_method_4_code, 5, (some .int), 9, 3, 0), (ym_68, prog_11_method_5_code, 5, (some .int), 9, 3, 0), (ym_69, prog_11_method_6_code, 4, none, 9, 4, 0), (ym_70, prog_11_method_7_code, 1, (some .int), 9, 1, 0), (ym_71, prog_11_method_8_code, 1, (some .int), 9, 1, 0), (ym_72, prog_11_method_9_code, 1, (some .int), 9, 1, 0), (ym_73, prog_11_method_10_code, 1, (some .int), 9, 1, 0), (ym_74, prog_11_method_11_code, 1, none, 9, 1, 0), (ym_75, prog_11_method_12_code, 2, (some .boolean), 9, 2, 0), (ym_76, prog_11_method_13_code, 1, (some .boolean), 9, 1, 0), (ym_77, prog_11_method_14_code, 2, none, 9, 2, 0), (ym_78, prog_11_method_15_code, 1, (some .boolean), 9, 1, 1), (ym_79, prog_11_method_16_code, 1, (some .boolean), 9, 1, 1)]
def mt_4 : List (MethodName × ByteArray × Nat × Option FieldType × Nat × Nat × Nat) := [(ym_80, prog_1_method_1_code, 1, none, 10, 1, 2), (ym_81, prog_1_method_2_code, 5, (some .int), 10, 3, 0), (ym_82, prog_1_method_3_code, 3, (some .int), 10, 2, 0), (ym_83, prog_1_method_4_code, 2, (some .int), 10, 1, 0), (ym_84, prog_1_method_5_code, 5, (some .int), 10, 4, 0), (ym_85, prog_1_method_6_code, 3, (some .int), 10, 3, 0), (ym_86, prog_1_method_7_code, 5, (some .int), 10, 4, 0), (ym_87, prog_1_method_8_code, 5, (some .int), 10, 4, 0), (ym_88, prog_1_method_9_code, 4, (some .int), 10, 3, 0), (ym_89, prog_1_method_10_code, 4, (some .int), 10, 3, 0), (ym_90, prog_1_method_11_code, 3, (some .long), 10, 3, 0), (ym_91, prog_1_method_12_code, 2, (some .long), 10, 2, 0), (ym_92, prog_1_method_13_code, 2, (some .long), 10, 2, 0), (ym_93, prog_1_method_14_code, 2, (some .int), 10, 2, 0), (ym_94, prog_1_method_15_code, 5, (some .int), 10, 3, 0), (ym_95, prog_1_method_16_code, 2, (some .long), 10, 2, 0), (ym_96, prog_1_method_17_code, 2, (some .int), 10, 2, 0), (ym_97, prog_1_method_18_code, 4, (some .int), 10, 2, 0), (ym_98, prog_1_method_19_code, 1, (some .long), 10, 1, 0), (ym_99, prog_1_method_20_code, 5, (some .int), 10, 2, 0)]
def mt_5 : List (MethodName × ByteArray × Nat × Option FieldType × Nat × Nat × Nat) := [(ym_100, prog_1_method_21_code, 2, (some .int), 10, 2, 0), (ym_101, prog_1_method_22_code, 2, (some .boolean), 10, 2, 0), (ym_102, prog_1_method_23_code, 2, (some .boolean), 10, 2, 0), (ym_103, prog_1_method_24_code, 5, (some .boolean), 10, 2, 0), (ym_104, prog_1_method_25_code, 7, none, 10, 4, 0), (ym_105, prog_1_method_26_code, 3, none, 10, 2, 0), (ym_106, prog_13_method_1_code, 1, none, 11, 1, 2), (ym_107, prog_13_method_2_code, 6, (some .boolean), 11, 3, 1), (ym_108, prog_13_method_3_code, 5, (some .int), 11, 3, 0), (ym_109, prog_13_method_4_code, 3, (some .int), 11, 2, 0), (ym_110, prog_13_method_5_code, 2, (some .int), 11, 2, 0), (ym_111, prog_13_method_6_code, 1, (some .boolean), 11, 1, 1), (ym_112, prog_13_method_7_code, 1, (some .boolean), 11, 1, 1), (ym_113, prog_13_method_8_code, 1, none, 11, 1, 0), (ym_114, prog_13_method_9_code, 5, (some .int), 11, 4, 1), (ym_115, prog_13_method_10_code, 1, (some .int), 11, 1, 0), (ym_116, prog_13_method_11_code, 1, none, 11, 1, 0), (ym_117, prog_13_method_12_code, 3, none, 11, 2, 0), (ym_118, prog_13_method_13_code, 2, none, 11, 1, 0), (ym_119, prog_13_method_14_code, 2, none, 11, 2, 0)]
def mt_6 : List (MethodName × ByteArray × Nat × Option FieldType × Nat × Nat × Nat) := [(ym_120, prog_13_method_15_code, 2, (some .boolean), 11, 2, 0), (ym_121, prog_13_method_16_code, 2, (some .boolean), 11, 2, 0), (ym_122, prog_13_method_17_code, 1, (some .boolean), 11, 1, 0), (ym_123, prog_13_method_18_code, 4, (some .int), 11, 3, 1), (ym_124, prog_13_method_19_code, 2, (some .int), 11, 1, 0), (ym_125, prog_13_method_20_code, 2, (some .int), 11, 1, 0), (ym_126, prog_13_method_21_code, 3, none, 11, 3, 0), (ym_127, prog_13_method_22_code, 2, (some .int), 11, 2, 0), (ym_128, prog_13_method_23_code, 3, (some .int), 11, 1, 0), (ym_129, prog_13_method_24_code, 4, none, 11, 1, 0), (ym_130, prog_13_method_25_code, 4, none, 11, 1, 0), (ym_131, prog_13_method_26_code, 5, none, 11, 1, 0), (ym_132, prog_13_method_27_code, 5, (some .int), 11, 1, 0), (ym_133, prog_13_method_28_code, 5, none, 11, 1, 0), (ym_134, prog_13_method_29_code, 1, none, 11, 1, 0), (ym_135, prog_13_method_30_code, 1, none, 11, 1, 0), (ym_136, prog_13_method_31_code, 5, none, 11, 5, 0), (ym_137, prog_13_method_32_code, 1, none, 11, 1, 0), (ym_138, prog_13_method_33_code, 1, none, 11, 1, 0), (ym_139, prog_13_method_34_code, 2, (some .long), 11, 1, 0)]
def mt_7 : List (MethodName × ByteArray × Nat × Option FieldType × Nat × Nat × Nat) := [(ym_140, prog_13_method_35_code, 5, (some .int), 11, 1, 0), (ym_141, prog_13_method_36_code, 4, (some .int), 11, 2, 0), (ym_142, prog_13_method_37_code, 3, (some .boolean), 11, 3, 0), (ym_143, prog_13_method_38_code, 8, none, 11, 1, 0), (ym_144, prog_13_method_39_code, 1, (some .int), 11, 1, 0), (ym_145, prog_13_method_40_code, 5, none, 11, 1, 0), (ym_146, prog_13_method_41_code, 4, none, 11, 2, 0), (ym_147, prog_13_method_42_code, 2, (some .int), 11, 2, 0), (ym_148, prog_13_method_43_code, 6, (some .int), 11, 5, 0), (ym_149, prog_13_method_44_code, 4, none, 11, 1, 0), (ym_150, prog_13_method_45_code, 6, none, 11, 2, 0), (ym_151, prog_13_method_46_code, 5, none, 11, 3, 0), (ym_152, prog_13_method_47_code, 4, (some .int), 11, 2, 0), (ym_153, prog_13_method_48_code, 3, (some .int), 11, 2, 0), (ym_154, prog_13_method_49_code, 6, (some .int), 11, 2, 0), (ym_155, prog_13_method_50_code, 2, (some .int), 11, 2, 0), (ym_156, prog_13_method_51_code, 6, (some .int), 11, 1, 0), (ym_157, prog_13_method_52_code, 2, none, 11, 1, 0), (ym_158, prog_13_method_53_code, 7, none, 11, 2, 0), (ym_159, prog_13_method_54_code, 6, none, 11, 1, 0)]
def mt_8 : List (MethodName × ByteArray × Nat × Option FieldType × Nat × Nat × Nat) := [(ym_160, prog_13_method_55_code, 5, (some .int), 11, 2, 1), (ym_161, prog_13_method_56_code, 4, (some .int), 11, 4, 0), (ym_162, prog_13_method_57_code, 3, (some .int), 11, 3, 0), (ym_163, prog_13_method_58_code, 3, (some .boolean), 11, 3, 0), (ym_164, prog_13_method_59_code, 6, (some .int), 11, 5, 0), (ym_165, prog_13_method_60_code, 4, (some .int), 11, 4, 0), (ym_166, prog_13_method_61_code, 4, (some .int), 11, 4, 0), (ym_167, prog_13_method_62_code, 2, (some .boolean), 11, 2, 0), (ym_168, prog_13_method_63_code, 2, (some .boolean), 11, 2, 0), (ym_169, prog_13_method_64_code, 3, (some .int), 11, 3, 0), (ym_170, prog_13_method_65_code, 3, (some .int), 11, 3, 0), (ym_171, prog_13_method_66_code, 3, (some .long), 11, 3, 0), (ym_172, prog_13_method_67_code, 2, (some .long), 11, 2, 0), (ym_173, prog_13_method_68_code, 2, (some .long), 11, 2, 0), (ym_174, prog_13_method_69_code, 2, (some .int), 11, 2, 0), (ym_175, prog_13_method_70_code, 4, (some .int), 11, 3, 0), (ym_176, prog_13_method_71_code, 5, (some .long), 11, 2, 0), (ym_177, prog_13_method_72_code, 2, (some .long), 11, 2, 0), (ym_178, prog_13_method_73_code, 6, (some .boolean), 11, 2, 0), (ym_179, prog_13_method_74_code, 2, (some .int), 11, 2, 0)]
def mt_9 : List (MethodName × ByteArray × Nat × Option FieldType × Nat × Nat × Nat) := [(ym_180, prog_13_method_75_code, 4, (some .int), 11, 2, 0), (ym_181, prog_13_method_76_code, 4, (some .long), 11, 1, 0), (ym_182, prog_13_method_77_code, 2, none, 11, 2, 0), (ym_183, prog_13_method_78_code, 3, none, 11, 2, 0), (ym_184, prog_13_method_79_code, 7, none, 11, 2, 0), (ym_185, prog_13_method_80_code, 5, none, 11, 4, 0), (ym_186, prog_13_method_81_code, 4, (some .int), 11, 2, 0), (ym_187, prog_13_method_82_code, 2, (some .int), 11, 2, 0), (ym_188, prog_15_method_42_code, 4, (some .int), 15, 2, 1), (ym_189, prog_17_method_54_code, 1, (some .int), 12, 1, 0), (ym_190, prog_17_method_56_code, 2, (some .char), 12, 2, 0), (ym_191, prog_17_method_79_code, 2, (some .int), 12, 2, 0), (ym_192, prog_17_method_80_code, 3, (some .int), 12, 3, 0), (ym_193, prog_17_method_152_code, 1, (some .byte), 12, 1, 0), (ym_194, prog_17_method_154_code, 1, (some .boolean), 12, 1, 0), (ym_195, prog_17_method_155_code, 2, none, 12, 2, 1), (ym_196, prog_18_method_2_code, 2, (some .char), 13, 2, 1), (ym_197, prog_18_method_4_code, 1, (some .boolean), 13, 1, 1), (ym_198, prog_18_method_22_code, 4, (some .int), 13, 4, 1), (ym_199, prog_18_method_23_code, 6, (some .int), 13, 4, 1)]
def mt_10 : List (MethodName × ByteArray × Nat × Option FieldType × Nat × Nat × Nat) := [(ym_200, prog_20_method_101_code, 5, none, 16, 2, 1), (ym_201, prog_21_method_11_code, 3, (some .int), 17, 3, 1), (ym_202, code, 4, (some .boolean), 18, 1, 1)]
def mtL : List (MethodName × ByteArray × Nat × Option FieldType × Nat × Nat × Nat) := mt_0 ++ (mt_1 ++ (mt_2 ++ (mt_3 ++ (mt_4 ++ (mt_5 ++ (mt_6 ++ (mt_7 ++ (mt_8 ++ (mt_9 ++ (mt_10))))))))))
/-- the places of a method's words: code, static or instance, initialized, selects -/
def mpL : List (Nat × Nat × Nat × Nat) := [(1033, 1032, 1002, 0), (2115, 2113, 1002, 2114), (2099, 2097, 1002, 2098), (4155, 4153, 1002, 4154), (4149, 4147, 1002, 4148), (4189, 4187, 1002, 4188), (1079, 1078, 1005, 0), (2233, 2231, 1005, 2232), (3069, 3067, 1005, 3068), (4031, 4029, 1005, 4030), (3217, 3215, 1005, 3216), (3137, 3136, 1018, 0), (2030, 2029, 1010, 0), (3222, 3220, 1010, 3221), (3230, 3229, 1010, 22), (4007, 4006, 1010, 23), (4014, 4013, 1010, 24), (4045, 4044, 1010, 29), (4035, 4034, 1010, 27), (4040, 4039, 1010, 28), (4018, 4017, 1010, 25), (4022, 4021, 1010, 26), (4122, 4120, 1010, 4121), (1085, 1084, 1006, 0), (3029, 3027, 1006, 3028), (3021, 3019, 1006, 3020), (3057, 3055, 1006, 3056), (4055, 4053, 1006, 4054), (4059, 4057, 1006, 4058), (3108, 3107, 1017, 0), (3203, 3201, 1017, 3202), (1239, 1238, 1009, 0), (2229, 2227, 1009, 2228), (3009, 3008, 1009, 5), (3005, 3004, 1009, 4), (3045, 3044, 1009, 6), (3078, 3077, 1009, 10), (3090, 3089, 1009, 11), (3207, 3206, 1009, 20), (3211, 3210, 1009, 21), (3049, 3048, 1009, 7), (3053, 3052, 1009, 8), (3065, 3064, 1009, 9), (3095, 3094, 1009, 12), (3099, 3098, 1009, 13), (3199, 3198, 1009, 19), (3103, 3102, 1009, 14), (3132, 3131, 1009, 15), (3174, 3173, 1009, 16), (3178, 3177, 1009, 17), (3190, 3189, 1009, 18), (1106, 1105, 1007, 0), (3041, 3039, 1007, 3040), (3061, 3059, 1007, 3060), (3239, 3237, 1007, 3238), (3186, 3184, 1007, 3185), (3182, 3180, 1007, 3181), (1129, 1128, 1008, 0), (2237, 2235, 1008, 2236), (3073, 3071, 1008, 3072), (4026, 4024, 1008, 4025), (3226, 3224, 1008, 3225), (3234, 3232, 1008, 3233), (4003, 4001, 1008, 4002), (1052, 1051, 1004, 0), (2111, 2109, 1004, 2110), (2122, 2121, 1004, 0), (2135, 2134, 1004, 2), (2139, 2138, 1004, 3), (2128, 2127, 1004, 1), (3001, 2239, 1004, 3000), (3082, 3080, 1004, 3081), (3037, 3035, 1004, 3036), (3017, 3015, 1004, 3016), (3013, 3011, 1004, 3012), (3033, 3031, 1004, 3032), (3025, 3023, 1004, 3024), (3086, 3084, 1004, 3085), (2118, 2117, 1004, 0), (2131, 2130, 1004, 0), (1025, 1024, 1001, 0), (2093, 2091, 1001, 2092), (2103, 2101, 1001, 2102), (2107, 2105, 1001, 2106), (4050, 4048, 1001, 4049), (4063, 4061, 1001, 4062), (4067, 4065, 1001, 4066), (4073, 4071, 1001, 4072), (4077, 4075, 1001, 4076), (4084, 4082, 1001, 4083), (4088, 4086, 1001, 4087), (4101, 4099, 1001, 4100), (4105, 4103, 1001, 4104), (4110, 4108, 1001, 4109), (4114, 4112, 1001, 4113), (4118, 4116, 1001, 4117), (4126, 4124, 1001, 4125), (4137, 4135, 1001, 4136), (4141, 4139, 1001, 4140), (4145, 4143, 1001, 4144), (4202, 4200, 1001, 4201), (4096, 4095, 1001, 31), (4092, 4091, 1001, 30), (4130, 4129, 1001, 32), (4180, 4179, 1001, 33), (4198, 4197, 1001, 34), (4208, 4207, 1011, 0), (5231, 5230, 1011, 0), (5227, 5225, 1011, 5226), (5238, 5236, 1011, 5237), (6014, 6013, 1011, 37), (6017, 6016, 1011, 0), (6033, 6032, 1011, 0), (6023, 6022, 1011, 38), (6030, 6029, 1011, 0), (6027, 6026, 1011, 39), (6039, 6038, 1011, 40), (6043, 6042, 1011, 41), (6010, 6009, 1011, 36), (6055, 6054, 1011, 44), (6066, 6065, 1011, 46), (6070, 6069, 1011, 47), (6047, 6046, 1011, 42), (6062, 6061, 1011, 0), (6059, 6058, 1011, 45), (6082, 6081, 1011, 50), (6078, 6077, 1011, 49), (6086, 6085, 1011, 51), (6090, 6089, 1011, 52), (6051, 6050, 1011, 43), (6074, 6073, 1011, 48), (6094, 6093, 1011, 53), (6102, 6101, 1011, 55), (6098, 6097, 1011, 54), (6146, 6145, 1011, 66), (6006, 6005, 1011, 35), (6114, 6113, 1011, 58), (6110, 6109, 1011, 57), (6118, 6117, 1011, 59), (6106, 6105, 1011, 56), (6122, 6121, 1011, 60), (6130, 6129, 1011, 62), (6134, 6133, 1011, 63), (6126, 6125, 1011, 61), (6138, 6137, 1011, 64), (6142, 6141, 1011, 65), (6171, 6170, 1011, 72), (6179, 6178, 1011, 74), (6175, 6174, 1011, 73), (6183, 6182, 1011, 75), (6187, 6186, 1011, 76), (6167, 6166, 1011, 71), (6192, 6191, 1011, 77), (6196, 6195, 1011, 78), (6200, 6199, 1011, 79), (6150, 6149, 1011, 67), (6002, 6000, 1011, 6001), (6155, 6154, 1011, 68), (6159, 6158, 1011, 69), (6163, 6162, 1011, 70), (6208, 6207, 1011, 0), (6204, 6202, 1011, 6203), (6213, 6211, 1011, 6212), (6221, 6220, 1011, 80), (6225, 6224, 1011, 81), (6217, 6215, 1011, 6216), (6229, 6227, 1011, 6228), (6237, 6236, 1011, 82), (7005, 7004, 1011, 83), (6233, 6231, 1011, 6232), (7001, 6239, 1011, 7000), (7009, 7007, 1011, 7008), (7014, 7012, 1011, 7013), (7018, 7016, 1011, 7017), (7023, 7021, 1011, 7022), (7027, 7025, 1011, 7026), (7035, 7034, 1011, 84), (7031, 7029, 1011, 7030), (7043, 7042, 1011, 85), (7039, 7037, 1011, 7038), (7047, 7045, 1011, 7046), (7051, 7049, 1011, 7050), (7063, 7062, 1011, 87), (7059, 7058, 1011, 86), (7071, 7070, 1011, 89), (7067, 7066, 1011, 88), (7055, 7053, 1011, 7054), (7076, 7074, 1011, 7075), (4133, 4132, 1020, 0), (2158, 2156, 1012, 2157), (4160, 4158, 1012, 4159), (2144, 2142, 1012, 2143), (2148, 2146, 1012, 2147), (2162, 2160, 1012, 2161), (2152, 2150, 1012, 2151), (4166, 4165, 1012, 0), (4163, 4162, 1013, 0), (2168, 2167, 1013, 0), (2165, 2164, 1013, 0), (2175, 2174, 1013, 0), (4010, 4009, 1019, 0), (4169, 4168, 1015, 0), (0, 0, 0, 0)]
def mT (n : Nat) : MethodName × ByteArray × Nat × Option FieldType × Nat × Nat × Nat := mtL.getD n (ym_0, ⟨#[]⟩, 0, none, 0, 0, 0)
/-- ProblemTexts$Bytes.<init>(I)V -/
def cd_0 : List (Nat × Instr × Nat) := [(0, .aload 0, 1), (1, .monitorenter, 3), (4, .aload 0, 1), (5, .sipush (0), 1), (6, .iload 1, 1), (7, .saload, 3), (10, .newarray .byte, 2), (12, .putfield 0, 3), (15, .return_, 1)]
/-- ProblemTexts$Bytes.at(I)I -/
def cd_1 : List (Nat × Instr × Nat) := [(0, .iload 1, 1), (1, .ifCond .lt 12, 3), (4, .iload 1, 1), (5, .aload 0, 1), (6, .getfield 1, 3), (9, .if_icmp .lt 16, 3), (12, .sipush (-1), 1), (13, .goto 26, 3), (16, .aload 0, 1), (17, .getfield 0, 3), (20, .iload 1, 1), (21, .baload, 1), (22, .sipush (255), 3), (25, .iand, 1), (26, .ireturn, 1)]
/-- ProblemTexts$Bytes.add(I)V -/
def cd_2 : List (Nat × Instr × Nat) := [(0, .aload 0, 1), (1, .getfield 1, 3), (4, .aload 0, 1), (5, .getfield 0, 3), (8, .arraylength, 1), (9, .if_icmp .ge 33, 3), (12, .aload 0, 1), (13, .getfield 0, 3), (16, .aload 0, 1), (17, .getfield 1, 3), (20, .iload 1, 1), (21, .i2b, 1), (22, .bastore, 1), (23, .aload 0, 1), (24, .dup, 1), (25, .getfield 1, 3), (28, .sipush (1), 1), (29, .iadd, 1), (30, .putfield 1, 3), (33, .return_, 1)]
/-- ProblemTexts$Bytes.addText(Ljava/lang/String;)V -/
def cd_3 : List (Nat × Instr × Nat) := [(0, .sipush (0), 1), (1, .istore 2, 1), (2, .iload 2, 1), (3, .aload 1, 1), (4, .invokevirtual 189, 3), (7, .if_icmp .ge 25, 3), (10, .aload 0, 1), (11, .aload 1, 1), (12, .iload 2, 1), (13, .invokevirtual 190, 3), (16, .invokevirtual 2, 3), (19, .iinc 2 1, 3), (22, .goto 2, 3), (25, .return_, 1)]
/-- ProblemTexts$Bytes.addName(I)V -/
def cd_4 : List (Nat × Instr × Nat) := [(0, .sipush (24), 2), (2, .istore 2, 1), (3, .iload 2, 1), (4, .ifCond .lt 30, 3), (7, .iload 1, 1), (8, .iload 2, 1), (9, .iushr, 1), (10, .sipush (255), 3), (13, .iand, 1), (14, .istore 3, 1), (15, .iload 3, 1), (16, .ifCond .eq 24, 3), (19, .aload 0, 1), (20, .iload 3, 1), (21, .invokevirtual 2, 3), (24, .iinc 2 (-8), 3), (27, .goto 3, 3), (30, .return_, 1)]
/-- ProblemTexts$Bytes.addSize(J)V -/
def cd_5 : List (Nat × Instr × Nat) := [(0, .lload 1, 1), (1, .jsr_w 0, 1), (2, .lcmp, 1), (3, .ifCond .le 11, 3), (6, .lload 1, 1), (7, .lneg, 1), (8, .goto 12, 3), (11, .lload 1, 1), (12, .lstore 3, 1), (13, .aload 0, 1), (14, .getfield 1, 3), (17, .sipush (1), 1), (18, .iadd, 1), (19, .istore 5, 2), (21, .lload 3, 1), (22, .jsr_w (10), 3), (25, .ldiv, 1), (26, .lstore 6, 2), (28, .lload 6, 2), (30, .jsr_w 0, 1), (31, .lcmp, 1), (32, .ifCond .eq 49, 3), (35, .iinc 5 1, 3), (38, .lload 6, 2), (40, .jsr_w (10), 3), (43, .ldiv, 1), (44, .lstore 6, 2), (46, .goto 28, 3), (49, .iload 5, 2), (51, .aload 0, 1), (52, .getfield 0, 3), (55, .arraylength, 1), (56, .if_icmp .le 60, 3), (59, .return_, 1), (60, .iload 5, 2), (62, .sipush (1), 1), (63, .isub, 1), (64, .istore 6, 2), (66, .iload 6, 2), (68, .aload 0, 1), (69, .getfield 1, 3), (72, .if_icmp .lt 105, 3), (75, .aload 0, 1), (76, .getfield 0, 3), (79, .iload 6, 2), (81, .jsr_w (48), 3), (84, .lload 3, 1), (85, .jsr_w (10), 3), (88, .lrem, 1), (89, .lsub, 1), (90, .l2i, 1), (91, .i2b, 1), (92, .bastore, 1), (93, .lload 3, 1), (94, .jsr_w (10), 3), (97, .ldiv, 1), (98, .lstore 3, 1), (99, .iinc 6 (-1), 3), (102, .goto 66, 3), (105, .aload 0, 1), (106, .iload 5, 2), (108, .putfield 1, 3), (111, .return_, 1)]
/-- ProblemTexts$Declared.<init>()V -/
def cd_6 : List (Nat × Instr × Nat) := [(0, .aload 0, 1), (1, .monitorenter, 3), (4, .aload 0, 1), (5, .new 4, 3), (8, .dup, 1), (9, .invokespecial 1023, 3), (12, .putfield 100, 3), (15, .aload 0, 1), (16, .new 7, 3), (19, .dup, 1), (20, .invokespecial 1051, 3), (23, .putfield 101, 3), (26, .aload 0, 1), (27, .sipush (400), 3), (30, .newarray .int, 2), (32, .putfield 105, 3), (35, .aload 0, 1), (36, .sipush (6), 2), (38, .newarray .int, 2), (40, .putfield 107, 3), (43, .aload 0, 1), (44, .sipush (6), 2), (46, .newarray .int, 2), (48, .putfield 108, 3), (51, .aload 0, 1), (52, .sipush (10), 2), (54, .newarray .int, 2), (56, .putfield 109, 3), (59, .aload 0, 1), (60, .sipush (10), 2), (62, .anewarray 5, 3), (65, .putfield 110, 3), (68, .aload 0, 1), (69, .sipush (10), 2), (71, .anewarray 5, 3), (74, .putfield 111, 3), (77, .aload 0, 1), (78, .new 8, 3), (81, .dup, 1), (82, .aload 0, 1), (83, .getfield 101, 3), (86, .sipush (6), 2), (88, .invokespecial 57, 3), (91, .putfield 102, 3), (94, .aload 0, 1), (95, .new 8, 3), (98, .dup, 1), (99, .aload 0, 1), (100, .getfield 101, 3), (103, .sipush (6), 2), (105, .invokespecial 57, 3), (108, .putfield 103, 3), (111, .aload 0, 1), (112, .new 8, 3), (115, .dup, 1), (116, .aload 0, 1), (117, .getfield 101, 3), (120, .sipush (10), 2), (122, .invokespecial 57, 3), (125, .putfield 104, 3), (128, .return_, 1)]
/-- ProblemTexts$Declared.clear()V -/
def cd_7 : List (Nat × Instr × Nat) := [(0, .aload 0, 1), (1, .getfield 100, 3), (4, .sipush (0), 1), (5, .putfield 403, 3), (8, .aload 0, 1), (9, .getfield 101, 3), (12, .sipush (0), 1), (13, .putfield 702, 3), (16, .aload 0, 1), (17, .getfield 102, 3), (20, .invokevirtual 58, 3), (23, .aload 0, 1), (24, .getfield 103, 3), (27, .invokevirtual 58, 3), (30, .aload 0, 1), (31, .getfield 104, 3), (34, .invokevirtual 58, 3), (37, .aload 0, 1), (38, .sipush (0), 1), (39, .putfield 106, 3), (42, .aload 0, 1), (43, .sipush (0), 1), (44, .putfield 112, 3), (47, .aload 0, 1), (48, .jsr 0, 1), (49, .putfield 113, 3), (52, .aload 0, 1), (53, .jsr_w 0, 1), (54, .putfield 114, 3), (57, .return_, 1)]
/-- ProblemTexts$Declared.addValue(I)V -/
def cd_8 : List (Nat × Instr × Nat) := [(0, .aload 0, 1), (1, .getfield 106, 3), (4, .aload 0, 1), (5, .getfield 105, 3), (8, .arraylength, 1), (9, .if_icmp .ge 32, 3), (12, .aload 0, 1), (13, .getfield 105, 3), (16, .aload 0, 1), (17, .getfield 106, 3), (20, .iload 1, 1), (21, .iastore, 1), (22, .aload 0, 1), (23, .dup, 1), (24, .getfield 106, 3), (27, .sipush (1), 1), (28, .iadd, 1), (29, .putfield 106, 3), (32, .return_, 1)]
/-- ProblemTexts$Declared.valueAt(I)I -/
def cd_9 : List (Nat × Instr × Nat) := [(0, .iload 1, 1), (1, .ifCond .lt 12, 3), (4, .iload 1, 1), (5, .aload 0, 1), (6, .getfield 106, 3), (9, .if_icmp .lt 16, 3), (12, .sipush (0), 1), (13, .goto 22, 3), (16, .aload 0, 1), (17, .getfield 105, 3), (20, .iload 1, 1), (21, .iaload, 1), (22, .ireturn, 1)]
/-- ProblemTexts$Declared.isTooLarge()Z -/
def cd_10 : List (Nat × Instr × Nat) := [(0, .aload 0, 1), (1, .getfield 103, 3), (4, .getfield 805, 3), (7, .sipush (40), 2), (9, .if_icmp .gt 35, 3), (12, .aload 0, 1), (13, .getfield 104, 3), (16, .getfield 805, 3), (19, .sipush (40), 2), (21, .if_icmp .gt 35, 3), (24, .aload 0, 1), (25, .getfield 114, 3), (28, .jsr_w (20000), 3), (31, .lcmp, 1), (32, .ifCond .le 39, 3), (35, .sipush (1), 1), (36, .goto 40, 3), (39, .sipush (0), 1), (40, .ireturn, 1)]
/-- ProblemTexts$Factor.<init>(IIII)V -/
def cd_11 : List (Nat × Instr × Nat) := [(0, .aload 0, 1), (1, .monitorenter, 3), (4, .aload 0, 1), (5, .iload 1, 1), (6, .putfield 200, 3), (9, .aload 0, 1), (10, .iload 2, 1), (11, .putfield 201, 3), (14, .aload 0, 1), (15, .iload 3, 1), (16, .putfield 202, 3), (19, .aload 0, 1), (20, .iload 4, 2), (22, .putfield 203, 3), (25, .aload 0, 1), (26, .iload 1, 1), (27, .sipush (3), 1), (28, .if_icmp .ne 35, 3), (31, .sipush (1), 1), (32, .goto 36, 3), (35, .sipush (0), 1), (36, .putfield 205, 3), (39, .return_, 1)]
/-- ProblemTexts$Model.<init>(LProblemTexts$Declared;)V -/
def cd_12 : List (Nat × Instr × Nat) := [(0, .aload 0, 1), (1, .monitorenter, 3), (4, .aload 0, 1), (5, .sipush (40), 2), (7, .sipush (40), 2), (9, .multianewarray 6 2, 4), (13, .putfield 301, 3), (16, .aload 0, 1), (17, .sipush (40), 2), (19, .newarray .long, 2), (21, .putfield 302, 3), (24, .aload 0, 1), (25, .sipush (40), 2), (27, .newarray .long, 2), (29, .putfield 303, 3), (32, .aload 0, 1), (33, .sipush (40), 2), (35, .newarray .int, 2), (37, .putfield 305, 3), (40, .aload 0, 1), (41, .sipush (18), 2), (43, .newarray .int, 2), (45, .putfield 306, 3), (48, .aload 0, 1), (49, .aload 1, 1), (50, .putfield 300, 3), (53, .aload 0, 1), (54, .aload 0, 1), (55, .getfield 303, 3), (58, .putfield 307, 3), (61, .return_, 1)]
/-- ProblemTexts$Model.make(LProblemTexts$Declared;)V -/
def cd_13 : List (Nat × Instr × Nat) := [(0, .aload 0, 1), (1, .aload 1, 1), (2, .putfield 300, 3), (5, .sipush (0), 1), (6, .istore 2, 1), (7, .iload 2, 1), (8, .aload 0, 1), (9, .getfield 300, 3), (12, .getfield 103, 3), (15, .getfield 805, 3), (18, .if_icmp .ge 69, 3), (21, .iload 2, 1), (22, .sipush (40), 2), (24, .if_icmp .ge 69, 3), (27, .aload 0, 1), (28, .getfield 300, 3), (31, .getfield 103, 3), (34, .iload 2, 1), (35, .invokevirtual 61, 3), (38, .istore 3, 1), (39, .aload 0, 1), (40, .getfield 305, 3), (43, .iload 2, 1), (44, .iload 3, 1), (45, .sipush (-1), 1), (46, .if_icmp .ne 53, 3), (49, .sipush (0), 1), (50, .goto 62, 3), (53, .aload 0, 1), (54, .getfield 300, 3), (57, .getfield 107, 3), (60, .iload 3, 1), (61, .iaload, 1), (62, .iastore, 1), (63, .iinc 2 1, 3), (66, .goto 7, 3), (69, .sipush (0), 1), (70, .istore 2, 1), (71, .iload 2, 1), (72, .aload 0, 1), (73, .getfield 300, 3), (76, .getfield 104, 3), (79, .getfield 805, 3), (82, .if_icmp .ge 102, 3), (85, .iload 2, 1), (86, .sipush (40), 2), (88, .if_icmp .ge 102, 3), (91, .aload 0, 1), (92, .iload 2, 1), (93, .invokevirtual 14, 3), (96, .iinc 2 1, 3), (99, .goto 71, 3), (102, .aload 0, 1), (103, .aload 0, 1), (104, .getfield 303, 3), (107, .invokevirtual 15, 3), (110, .aload 0, 1), (111, .aload 0, 1), (112, .getfield 300, 3), (115, .getfield 113, 3), (118, .jsr_w 1, 1), (119, .sipush (0), 1), (120, .invokevirtual 16, 3), (123, .aload 0, 1), (124, .aload 0, 1), (125, .getfield 308, 3), (128, .putfield 304, 3), (131, .return_, 1)]
/-- ProblemTexts$Model.makeRow(I)V -/
def cd_14 : List (Nat × Instr × Nat) := [(0, .aload 0, 1), (1, .getfield 300, 3), (4, .getfield 104, 3), (7, .iload 1, 1), (8, .invokevirtual 61, 3), (11, .istore 2, 1), (12, .iload 2, 1), (13, .sipush (-1), 1), (14, .if_icmp .ne 18, 3), (17, .return_, 1), (18, .aload 0, 1), (19, .getfield 306, 3), (22, .sipush (0), 1), (23, .aload 0, 1), (24, .getfield 300, 3), (27, .getfield 104, 3), (30, .iload 1, 1), (31, .invokevirtual 62, 3), (34, .iastore, 1), (35, .aload 0, 1), (36, .getfield 306, 3), (39, .sipush (1), 1), (40, .aload 0, 1), (41, .getfield 300, 3), (44, .getfield 104, 3), (47, .iload 1, 1), (48, .invokevirtual 63, 3), (51, .iastore, 1), (52, .aload 0, 1), (53, .aload 0, 1), (54, .getfield 301, 3), (57, .iload 1, 1), (58, .aaload, 1), (59, .invokevirtual 15, 3), (62, .aload 0, 1), (63, .aload 0, 1), (64, .getfield 300, 3), (67, .getfield 110, 3), (70, .iload 2, 1), (71, .aaload, 1), (72, .jsr_w 1, 1), (73, .sipush (0), 1), (74, .invokevirtual 16, 3), (77, .aload 0, 1), (78, .aload 0, 1), (79, .getfield 300, 3), (82, .getfield 111, 3), (85, .iload 2, 1), (86, .aaload, 1), (87, .jsr_w (-1), 3), (90, .sipush (0), 1), (91, .invokevirtual 16, 3), (94, .aload 0, 1), (95, .getfield 302, 3), (98, .iload 1, 1), (99, .aload 0, 1), (100, .getfield 308, 3), (103, .lneg, 1), (104, .lastore, 1), (105, .return_, 1)]
/-- ProblemTexts$Model.start([J)V -/
def cd_15 : List (Nat × Instr × Nat) := [(0, .aload 0, 1), (1, .aload 1, 1), (2, .putfield 307, 3), (5, .aload 0, 1), (6, .getfield 307, 3), (9, .jsr_w 0, 1), (10, .invokestatic 200, 3), (13, .aload 0, 1), (14, .jsr_w 0, 1), (15, .putfield 308, 3), (18, .return_, 1)]
/-- ProblemTexts$Model.addSum(LProblemTexts$Part;JI)V -/
def cd_16 : List (Nat × Instr × Nat) := [(0, .aload 1, 1), (1, .astore 5, 2), (3, .aload 5, 2), (5, .ifnull 104, 3), (8, .aload 5, 2), (10, .getfield 500, 3), (13, .ifCond .eq 21, 3), (16, .lload 2, 1), (17, .lneg, 1), (18, .goto 22, 3), (21, .lload 2, 1), (22, .lstore 6, 2), (24, .aload 5, 2), (26, .getfield 501, 3), (29, .astore 8, 2), (31, .aload 8, 2), (33, .ifnull 59, 3), (36, .lload 6, 2), (38, .aload 0, 1), (39, .aload 8, 2), (41, .iload 4, 2), (43, .invokevirtual 20, 3), (46, .lmul, 1), (47, .lstore 6, 2), (49, .aload 8, 2), (51, .getfield 206, 3), (54, .astore 8, 2), (56, .goto 31, 3), (59, .aload 5, 2), (61, .getfield 502, 3), (64, .ifnonnull 81, 3), (67, .aload 0, 1), (68, .dup, 1), (69, .getfield 308, 3), (72, .lload 6, 2), (74, .ladd, 1), (75, .putfield 308, 3), (78, .goto 94, 3), (81, .aload 0, 1), (82, .aload 5, 2), (84, .getfield 502, 3), (87, .lload 6, 2), (89, .iload 4, 2), (91, .invokevirtual 17, 3), (94, .aload 5, 2), (96, .getfield 503, 3), (99, .astore 5, 2), (101, .goto 3, 3), (104, .return_, 1)]
/-- ProblemTexts$Model.addHolder(LProblemTexts$Factor;JI)V -/
def cd_17 : List (Nat × Instr × Nat) := [(0, .aload 1, 1), (1, .getfield 200, 3), (4, .sipush (4), 1), (5, .if_icmp .ne 17, 3), (8, .aload 0, 1), (9, .aload 1, 1), (10, .lload 2, 1), (11, .iload 4, 2), (13, .invokevirtual 18, 3), (16, .return_, 1), (17, .aload 0, 1), (18, .getfield 300, 3), (21, .getfield 103, 3), (24, .aload 1, 1), (25, .getfield 201, 3), (28, .aload 0, 1), (29, .aload 1, 1), (30, .getfield 202, 3), (33, .invokevirtual 21, 3), (36, .aload 0, 1), (37, .aload 1, 1), (38, .getfield 203, 3), (41, .invokevirtual 21, 3), (44, .invokevirtual 60, 3), (47, .istore 5, 2), (49, .iload 5, 2), (51, .ifCond .lt 75, 3), (54, .iload 5, 2), (56, .aload 0, 1), (57, .getfield 307, 3), (60, .arraylength, 1), (61, .if_icmp .ge 75, 3), (64, .aload 0, 1), (65, .getfield 307, 3), (68, .iload 5, 2), (70, .dup2, 1), (71, .laload, 1), (72, .lload 2, 1), (73, .ladd, 1), (74, .lastore, 1), (75, .return_, 1)]
/-- ProblemTexts$Model.addInner(LProblemTexts$Factor;JI)V -/
def cd_18 : List (Nat × Instr × Nat) := [(0, .iload 4, 2), (2, .sipush (8), 2), (4, .if_icmp .lt 8, 3), (7, .return_, 1), (8, .aload 0, 1), (9, .getfield 300, 3), (12, .getfield 101, 3), (15, .aload 1, 1), (16, .getfield 202, 3), (19, .invokevirtual 53, 3), (22, .istore 5, 2), (24, .aload 0, 1), (25, .getfield 300, 3), (28, .getfield 101, 3), (31, .aload 1, 1), (32, .getfield 203, 3), (35, .invokevirtual 53, 3), (38, .istore 6, 2), (40, .sipush (0), 1), (41, .istore 7, 2), (43, .iload 7, 2), (45, .iload 5, 2), (47, .if_icmp .ge 115, 3), (50, .aload 0, 1), (51, .aload 1, 1), (52, .getfield 201, 3), (55, .aload 1, 1), (56, .getfield 202, 3), (59, .iload 7, 2), (61, .invokevirtual 19, 3), (64, .sipush (0), 1), (65, .istore 8, 2), (67, .iload 8, 2), (69, .iload 6, 2), (71, .if_icmp .ge 109, 3), (74, .aload 0, 1), (75, .aload 1, 1), (76, .getfield 201, 3), (79, .sipush (1), 1), (80, .iadd, 1), (81, .aload 1, 1), (82, .getfield 203, 3), (85, .iload 8, 2), (87, .invokevirtual 19, 3), (90, .aload 0, 1), (91, .aload 1, 1), (92, .getfield 204, 3), (95, .lload 2, 1), (96, .iload 4, 2), (98, .sipush (1), 1), (99, .iadd, 1), (100, .invokevirtual 16, 3), (103, .iinc 8 1, 3), (106, .goto 67, 3), (109, .iinc 7 1, 3), (112, .goto 43, 3), (115, .return_, 1)]
/-- ProblemTexts$Model.stand(III)V -/
def cd_19 : List (Nat × Instr × Nat) := [(0, .iload 2, 1), (1, .sipush (-1), 1), (2, .if_icmp .eq 36, 3), (5, .iload 1, 1), (6, .ifCond .lt 36, 3), (9, .iload 1, 1), (10, .aload 0, 1), (11, .getfield 306, 3), (14, .arraylength, 1), (15, .if_icmp .ge 36, 3), (18, .aload 0, 1), (19, .getfield 306, 3), (22, .iload 1, 1), (23, .aload 0, 1), (24, .getfield 300, 3), (27, .getfield 101, 3), (30, .iload 2, 1), (31, .iload 3, 1), (32, .invokevirtual 54, 3), (35, .iastore, 1), (36, .return_, 1)]
/-- ProblemTexts$Model.valueOf(LProblemTexts$Factor;I)J -/
def cd_20 : List (Nat × Instr × Nat) := [(0, .aload 1, 1), (1, .getfield 200, 3), (4, .tableswitch 89 (0) (2) #[32, 38, 50], 28), (32, .aload 1, 1), (33, .getfield 201, 3), (36, .i2l, 1), (37, .lreturn, 1), (38, .aload 0, 1), (39, .aload 1, 1), (40, .getfield 201, 3), (43, .sipush (-1), 1), (44, .ixor, 1), (45, .invokevirtual 21, 3), (48, .i2l, 1), (49, .lreturn, 1), (50, .aload 0, 1), (51, .getfield 300, 3), (54, .aload 0, 1), (55, .getfield 300, 3), (58, .getfield 102, 3), (61, .aload 1, 1), (62, .getfield 201, 3), (65, .aload 0, 1), (66, .aload 1, 1), (67, .getfield 202, 3), (70, .invokevirtual 21, 3), (73, .aload 0, 1), (74, .aload 1, 1), (75, .getfield 203, 3), (78, .invokevirtual 21, 3), (81, .invokevirtual 60, 3), (84, .invokevirtual 9, 3), (87, .i2l, 1), (88, .lreturn, 1), (89, .aload 0, 1), (90, .getfield 308, 3), (93, .lstore 3, 1), (94, .aload 0, 1), (95, .jsr_w 0, 1), (96, .putfield 308, 3), (99, .aload 0, 1), (100, .aload 1, 1), (101, .jsr_w 1, 1), (102, .iload 2, 1), (103, .invokevirtual 18, 3), (106, .aload 0, 1), (107, .getfield 308, 3), (110, .lstore 5, 2), (112, .aload 0, 1), (113, .lload 3, 1), (114, .putfield 308, 3), (117, .lload 5, 2), (119, .lreturn, 1)]
/-- ProblemTexts$Model.numberFor(I)I -/
def cd_21 : List (Nat × Instr × Nat) := [(0, .iload 1, 1), (1, .ifCond .lt 6, 3), (4, .iload 1, 1), (5, .ireturn, 1), (6, .iload 1, 1), (7, .sipush (-1), 1), (8, .ixor, 1), (9, .aload 0, 1), (10, .getfield 306, 3), (13, .arraylength, 1), (14, .if_icmp .ge 28, 3), (17, .aload 0, 1), (18, .getfield 306, 3), (21, .iload 1, 1), (22, .sipush (-1), 1), (23, .ixor, 1), (24, .iaload, 1), (25, .goto 29, 3), (28, .sipush (0), 1), (29, .ireturn, 1)]
/-- ProblemTexts$Model.atPoint([J)J -/
def cd_22 : List (Nat × Instr × Nat) := [(0, .jsr_w 0, 1), (1, .lstore 2, 1), (2, .sipush (0), 1), (3, .istore 4, 2), (5, .iload 4, 2), (7, .aload 0, 1), (8, .getfield 300, 3), (11, .getfield 103, 3), (14, .getfield 805, 3), (17, .if_icmp .ge 49, 3), (20, .iload 4, 2), (22, .aload 1, 1), (23, .arraylength, 1), (24, .if_icmp .ge 49, 3), (27, .lload 2, 1), (28, .aload 1, 1), (29, .iload 4, 2), (31, .laload, 1), (32, .aload 0, 1), (33, .getfield 305, 3), (36, .iload 4, 2), (38, .iaload, 1), (39, .i2l, 1), (40, .lmul, 1), (41, .ladd, 1), (42, .lstore 2, 1), (43, .iinc 4 1, 3), (46, .goto 5, 3), (49, .lload 2, 1), (50, .lreturn, 1)]
/-- ProblemTexts$Names.<init>()V -/
def cd_23 : List (Nat × Instr × Nat) := [(0, .aload 0, 1), (1, .monitorenter, 3), (4, .aload 0, 1), (5, .sipush (46), 2), (7, .newarray .int, 2), (9, .putfield 400, 3), (12, .aload 0, 1), (13, .sipush (46), 2), (15, .newarray .int, 2), (17, .putfield 401, 3), (20, .aload 0, 1), (21, .sipush (46), 2), (23, .newarray .int, 2), (25, .putfield 402, 3), (28, .return_, 1)]
/-- ProblemTexts$Names.add(III)V -/
def cd_24 : List (Nat × Instr × Nat) := [(0, .aload 0, 1), (1, .getfield 403, 3), (4, .sipush (46), 2), (6, .if_icmp .ge 49, 3), (9, .aload 0, 1), (10, .getfield 400, 3), (13, .aload 0, 1), (14, .getfield 403, 3), (17, .iload 1, 1), (18, .iastore, 1), (19, .aload 0, 1), (20, .getfield 401, 3), (23, .aload 0, 1), (24, .getfield 403, 3), (27, .iload 2, 1), (28, .iastore, 1), (29, .aload 0, 1), (30, .getfield 402, 3), (33, .aload 0, 1), (34, .getfield 403, 3), (37, .iload 3, 1), (38, .iastore, 1), (39, .aload 0, 1), (40, .dup, 1), (41, .getfield 403, 3), (44, .sipush (1), 1), (45, .iadd, 1), (46, .putfield 403, 3), (49, .return_, 1)]
/-- ProblemTexts$Names.sortOf(I)I -/
def cd_25 : List (Nat × Instr × Nat) := [(0, .sipush (0), 1), (1, .istore 2, 1), (2, .iload 2, 1), (3, .aload 0, 1), (4, .getfield 403, 3), (7, .if_icmp .ge 33, 3), (10, .aload 0, 1), (11, .getfield 400, 3), (14, .iload 2, 1), (15, .iaload, 1), (16, .iload 1, 1), (17, .if_icmp .ne 27, 3), (20, .aload 0, 1), (21, .getfield 401, 3), (24, .iload 2, 1), (25, .iaload, 1), (26, .ireturn, 1), (27, .iinc 2 1, 3), (30, .goto 2, 3), (33, .sipush (-1), 1), (34, .ireturn, 1)]
/-- ProblemTexts$Names.find(II)I -/
def cd_26 : List (Nat × Instr × Nat) := [(0, .sipush (0), 1), (1, .istore 3, 1), (2, .iload 3, 1), (3, .aload 0, 1), (4, .getfield 403, 3), (7, .if_icmp .ge 43, 3), (10, .aload 0, 1), (11, .getfield 400, 3), (14, .iload 3, 1), (15, .iaload, 1), (16, .iload 2, 1), (17, .if_icmp .ne 37, 3), (20, .aload 0, 1), (21, .getfield 401, 3), (24, .iload 3, 1), (25, .iaload, 1), (26, .iload 1, 1), (27, .if_icmp .ne 37, 3), (30, .aload 0, 1), (31, .getfield 402, 3), (34, .iload 3, 1), (35, .iaload, 1), (36, .ireturn, 1), (37, .iinc 3 1, 3), (40, .goto 2, 3), (43, .sipush (-1), 1), (44, .ireturn, 1)]
/-- ProblemTexts$Names.nameOf(II)I -/
def cd_27 : List (Nat × Instr × Nat) := [(0, .sipush (0), 1), (1, .istore 3, 1), (2, .iload 3, 1), (3, .aload 0, 1), (4, .getfield 403, 3), (7, .if_icmp .ge 43, 3), (10, .aload 0, 1), (11, .getfield 401, 3), (14, .iload 3, 1), (15, .iaload, 1), (16, .iload 1, 1), (17, .if_icmp .ne 37, 3), (20, .aload 0, 1), (21, .getfield 402, 3), (24, .iload 3, 1), (25, .iaload, 1), (26, .iload 2, 1), (27, .if_icmp .ne 37, 3), (30, .aload 0, 1), (31, .getfield 400, 3), (34, .iload 3, 1), (35, .iaload, 1), (36, .ireturn, 1), (37, .iinc 3 1, 3), (40, .goto 2, 3), (43, .sipush (0), 1), (44, .ireturn, 1)]
/-- ProblemTexts$Names.letter(II)I -/
def cd_28 : List (Nat × Instr × Nat) := [(0, .sipush (0), 1), (1, .istore 3, 1), (2, .iload 3, 1), (3, .sipush (4), 1), (4, .if_icmp .ge 22, 3), (7, .iload 1, 1), (8, .sipush (8), 2), (10, .iload 3, 1), (11, .imul, 1), (12, .iushr, 1), (13, .ifCond .eq 22, 3), (16, .iinc 3 1, 3), (19, .goto 2, 3), (22, .iload 2, 1), (23, .ifCond .lt 31, 3), (26, .iload 2, 1), (27, .iload 3, 1), (28, .if_icmp .lt 35, 3), (31, .sipush (-1), 1), (32, .goto 49, 3), (35, .iload 1, 1), (36, .sipush (8), 2), (38, .iload 3, 1), (39, .sipush (1), 1), (40, .isub, 1), (41, .iload 2, 1), (42, .isub, 1), (43, .imul, 1), (44, .iushr, 1), (45, .sipush (255), 3), (48, .iand, 1), (49, .ireturn, 1)]
/-- ProblemTexts$Part.<init>(Z)V -/
def cd_29 : List (Nat × Instr × Nat) := [(0, .aload 0, 1), (1, .monitorenter, 3), (4, .aload 0, 1), (5, .iload 1, 1), (6, .putfield 500, 3), (9, .return_, 1)]
/-- ProblemTexts$Part.add(LProblemTexts$Factor;)V -/
def cd_30 : List (Nat × Instr × Nat) := [(0, .aload 1, 1), (1, .getfield 205, 3), (4, .ifCond .eq 15, 3), (7, .aload 0, 1), (8, .aload 1, 1), (9, .putfield 502, 3), (12, .goto 28, 3), (15, .aload 1, 1), (16, .aload 0, 1), (17, .getfield 501, 3), (20, .putfield 206, 3), (23, .aload 0, 1), (24, .aload 1, 1), (25, .putfield 501, 3), (28, .return_, 1)]
/-- ProblemTexts$Reader.<init>(LProblemTexts$Tokens;LProblemTexts$Declared;)V -/
def cd_31 : List (Nat × Instr × Nat) := [(0, .aload 0, 1), (1, .monitorenter, 3), (4, .aload 0, 1), (5, .sipush (18), 2), (7, .newarray .int, 2), (9, .putfield 605, 3), (12, .aload 0, 1), (13, .aload 1, 1), (14, .putfield 600, 3), (17, .aload 0, 1), (18, .aload 2, 1), (19, .putfield 601, 3), (22, .return_, 1)]
/-- ProblemTexts$Reader.readText(LProblemTexts$Declared;)Z -/
def cd_32 : List (Nat × Instr × Nat) := [(0, .aload 0, 1), (1, .aload 1, 1), (2, .putfield 601, 3), (5, .aload 0, 1), (6, .getfield 601, 3), (9, .invokevirtual 7, 3), (12, .aload 0, 1), (13, .sipush (0), 1), (14, .putfield 606, 3), (17, .sipush (0), 1), (18, .istore 2, 1), (19, .iload 2, 1), (20, .sipush (400), 3), (23, .if_icmp .ge 154, 3), (26, .aload 0, 1), (27, .getfield 600, 3), (30, .invokevirtual 70, 3), (33, .lookupswitch 134 #[(1, 92), (7562612, 94), (7758194, 110), (1684108385, 102), (1735352684, 126), (1920298085, 118)], 59), (92, .sipush (1), 1), (93, .ireturn, 1), (94, .aload 0, 1), (95, .invokevirtual 34, 3), (98, .istore 3, 1), (99, .goto 142, 3), (102, .aload 0, 1), (103, .invokevirtual 35, 3), (106, .istore 3, 1), (107, .goto 142, 3), (110, .aload 0, 1), (111, .invokevirtual 36, 3), (114, .istore 3, 1), (115, .goto 142, 3), (118, .aload 0, 1), (119, .invokevirtual 37, 3), (122, .istore 3, 1), (123, .goto 142, 3), (126, .aload 0, 1), (127, .invokevirtual 39, 3), (130, .istore 3, 1), (131, .goto 142, 3), (134, .aload 0, 1), (135, .getfield 600, 3), (138, .invokevirtual 76, 3), (141, .istore 3, 1), (142, .iload 3, 1), (143, .ifCond .ne 148, 3), (146, .sipush (0), 1), (147, .ireturn, 1), (148, .iinc 2 1, 3), (151, .goto 19, 3), (154, .aload 0, 1), (155, .getfield 600, 3), (158, .invokevirtual 76, 3), (161, .ireturn, 1)]
/-- ProblemTexts$Reader.readName(III)Z -/
def cd_33 : List (Nat × Instr × Nat) := [(0, .aload 0, 1), (1, .getfield 600, 3), (4, .invokevirtual 74, 3), (7, .aload 0, 1), (8, .getfield 600, 3), (11, .invokevirtual 70, 3), (14, .sipush (3), 1), (15, .if_icmp .ne 44, 3), (18, .iload 2, 1), (19, .iload 3, 1), (20, .if_icmp .ge 44, 3), (23, .aload 0, 1), (24, .getfield 601, 3), (27, .getfield 100, 3), (30, .aload 0, 1), (31, .getfield 600, 3), (34, .invokevirtual 73, 3), (37, .invokevirtual 25, 3), (40, .sipush (-1), 1), (41, .if_icmp .eq 52, 3), (44, .aload 0, 1), (45, .getfield 600, 3), (48, .invokevirtual 76, 3), (51, .ireturn, 1), (52, .aload 0, 1), (53, .getfield 601, 3), (56, .getfield 100, 3), (59, .aload 0, 1), (60, .getfield 600, 3), (63, .invokevirtual 73, 3), (66, .iload 1, 1), (67, .iload 2, 1), (68, .invokevirtual 24, 3), (71, .aload 0, 1), (72, .getfield 600, 3), (75, .invokevirtual 74, 3), (78, .sipush (1), 1), (79, .ireturn, 1)]
/-- ProblemTexts$Reader.readSet()Z -/
def cd_34 : List (Nat × Instr × Nat) := [(0, .aload 0, 1), (1, .sipush (0), 1), (2, .aload 0, 1), (3, .getfield 601, 3), (6, .getfield 101, 3), (9, .getfield 702, 3), (12, .sipush (6), 2), (14, .invokevirtual 33, 3), (17, .ifCond .eq 32, 3), (20, .aload 0, 1), (21, .getfield 600, 3), (24, .sipush (61), 2), (26, .invokevirtual 75, 3), (29, .ifCond .ne 34, 3), (32, .sipush (0), 1), (33, .ireturn, 1), (34, .aload 0, 1), (35, .getfield 600, 3), (38, .invokevirtual 72, 3), (41, .istore 1, 1), (42, .aload 0, 1), (43, .getfield 600, 3), (46, .sipush (4), 1), (47, .invokevirtual 75, 3), (50, .ifCond .eq 65, 3), (53, .aload 0, 1), (54, .getfield 600, 3), (57, .sipush (7), 2), (59, .invokevirtual 75, 3), (62, .ifCond .ne 67, 3), (65, .sipush (0), 1), (66, .ireturn, 1), (67, .aload 0, 1), (68, .getfield 600, 3), (71, .invokevirtual 72, 3), (74, .iload 1, 1), (75, .isub, 1), (76, .sipush (1), 1), (77, .iadd, 1), (78, .istore 2, 1), (79, .aload 0, 1), (80, .getfield 600, 3), (83, .invokevirtual 70, 3), (86, .sipush (4), 1), (87, .if_icmp .ne 100, 3), (90, .iload 2, 1), (91, .ifCond .lt 100, 3), (94, .iload 2, 1), (95, .sipush (8), 2), (97, .if_icmp .le 108, 3), (100, .aload 0, 1), (101, .getfield 600, 3), (104, .invokevirtual 76, 3), (107, .ireturn, 1), (108, .aload 0, 1), (109, .getfield 600, 3), (112, .invokevirtual 74, 3), (115, .aload 0, 1), (116, .getfield 601, 3), (119, .getfield 101, 3), (122, .iload 1, 1), (123, .iload 2, 1), (124, .invokevirtual 52, 3), (127, .aload 0, 1), (128, .getfield 600, 3), (131, .sipush (59), 2), (133, .invokevirtual 75, 3), (136, .ireturn, 1)]
/-- ProblemTexts$Reader.readTable()Z -/
def cd_35 : List (Nat × Instr × Nat) := [(0, .aload 0, 1), (1, .sipush (1), 1), (2, .aload 0, 1), (3, .getfield 601, 3), (6, .getfield 102, 3), (9, .getfield 804, 3), (12, .sipush (6), 2), (14, .invokevirtual 33, 3), (17, .ifCond .eq 39, 3), (20, .aload 0, 1), (21, .invokevirtual 40, 3), (24, .ifCond .eq 39, 3), (27, .aload 0, 1), (28, .getfield 600, 3), (31, .sipush (61), 2), (33, .invokevirtual 75, 3), (36, .ifCond .ne 41, 3), (39, .sipush (0), 1), (40, .ireturn, 1), (41, .aload 0, 1), (42, .getfield 601, 3), (45, .getfield 101, 3), (48, .aload 0, 1), (49, .getfield 603, 3), (52, .invokevirtual 53, 3), (55, .aload 0, 1), (56, .getfield 601, 3), (59, .getfield 101, 3), (62, .aload 0, 1), (63, .getfield 604, 3), (66, .invokevirtual 53, 3), (69, .imul, 1), (70, .istore 1, 1), (71, .sipush (0), 1), (72, .istore 2, 1), (73, .iload 2, 1), (74, .iload 1, 1), (75, .if_icmp .ge 104, 3), (78, .aload 0, 1), (79, .invokevirtual 42, 3), (82, .ifCond .ne 87, 3), (85, .sipush (0), 1), (86, .ireturn, 1), (87, .aload 0, 1), (88, .getfield 601, 3), (91, .aload 0, 1), (92, .getfield 602, 3), (95, .invokevirtual 8, 3), (98, .iinc 2 1, 3), (101, .goto 73, 3), (104, .aload 0, 1), (105, .getfield 601, 3), (108, .getfield 102, 3), (111, .aload 0, 1), (112, .getfield 603, 3), (115, .aload 0, 1), (116, .getfield 604, 3), (119, .invokevirtual 59, 3), (122, .aload 0, 1), (123, .getfield 600, 3), (126, .sipush (59), 2), (128, .invokevirtual 75, 3), (131, .ireturn, 1)]
/-- ProblemTexts$Reader.readVar()Z -/
def cd_36 : List (Nat × Instr × Nat) := [(0, .aload 0, 1), (1, .getfield 601, 3), (4, .getfield 103, 3), (7, .getfield 804, 3), (10, .istore 1, 1), (11, .aload 0, 1), (12, .sipush (2), 1), (13, .iload 1, 1), (14, .sipush (6), 2), (16, .invokevirtual 33, 3), (19, .ifCond .eq 49, 3), (22, .aload 0, 1), (23, .invokevirtual 40, 3), (26, .ifCond .eq 49, 3), (29, .aload 0, 1), (30, .getfield 600, 3), (33, .sipush (26990), 3), (36, .invokevirtual 75, 3), (39, .ifCond .eq 49, 3), (42, .aload 0, 1), (43, .invokevirtual 42, 3), (46, .ifCond .ne 51, 3), (49, .sipush (0), 1), (50, .ireturn, 1), (51, .aload 0, 1), (52, .getfield 602, 3), (55, .istore 2, 1), (56, .aload 0, 1), (57, .getfield 600, 3), (60, .sipush (7), 2), (62, .invokevirtual 75, 3), (65, .ifCond .ne 70, 3), (68, .sipush (0), 1), (69, .ireturn, 1), (70, .aload 0, 1), (71, .getfield 600, 3), (74, .invokevirtual 71, 3), (77, .istore 3, 1), (78, .aload 0, 1), (79, .invokevirtual 42, 3), (82, .ifCond .ne 87, 3), (85, .sipush (0), 1), (86, .ireturn, 1), (87, .aload 0, 1), (88, .getfield 602, 3), (91, .iload 2, 1), (92, .if_icmp .ge 105, 3), (95, .aload 0, 1), (96, .getfield 600, 3), (99, .iload 3, 1), (100, .invokevirtual 77, 3), (103, .sipush (0), 1), (104, .ireturn, 1), (105, .aload 0, 1), (106, .getfield 601, 3), (109, .getfield 107, 3), (112, .iload 1, 1), (113, .iload 2, 1), (114, .iastore, 1), (115, .aload 0, 1), (116, .getfield 601, 3), (119, .getfield 108, 3), (122, .iload 1, 1), (123, .aload 0, 1), (124, .getfield 602, 3), (127, .iastore, 1), (128, .aload 0, 1), (129, .getfield 601, 3), (132, .getfield 103, 3), (135, .aload 0, 1), (136, .getfield 603, 3), (139, .aload 0, 1), (140, .getfield 604, 3), (143, .invokevirtual 59, 3), (146, .aload 0, 1), (147, .getfield 600, 3), (150, .sipush (59), 2), (152, .invokevirtual 75, 3), (155, .ireturn, 1)]
/-- ProblemTexts$Reader.readRule()Z -/
def cd_37 : List (Nat × Instr × Nat) := [(0, .aload 0, 1), (1, .getfield 601, 3), (4, .getfield 104, 3), (7, .getfield 804, 3), (10, .istore 1, 1), (11, .aload 0, 1), (12, .sipush (3), 1), (13, .iload 1, 1), (14, .sipush (10), 2), (16, .invokevirtual 33, 3), (19, .ifCond .ne 24, 3), (22, .sipush (0), 1), (23, .ireturn, 1), (24, .aload 0, 1), (25, .getfield 600, 3), (28, .invokevirtual 70, 3), (31, .sipush (6713202), 2), (33, .if_icmp .ne 52, 3), (36, .aload 0, 1), (37, .getfield 600, 3), (40, .invokevirtual 74, 3), (43, .aload 0, 1), (44, .invokevirtual 43, 3), (47, .ifCond .ne 52, 3), (50, .sipush (0), 1), (51, .ireturn, 1), (52, .aload 0, 1), (53, .getfield 600, 3), (56, .sipush (58), 2), (58, .invokevirtual 75, 3), (61, .ifCond .ne 66, 3), (64, .sipush (0), 1), (65, .ireturn, 1), (66, .aload 0, 1), (67, .getfield 601, 3), (70, .getfield 104, 3), (73, .aload 0, 1), (74, .sipush (0), 1), (75, .invokevirtual 44, 3), (78, .aload 0, 1), (79, .sipush (1), 1), (80, .invokevirtual 44, 3), (83, .invokevirtual 59, 3), (86, .aload 0, 1), (87, .aload 0, 1), (88, .getfield 601, 3), (91, .getfield 101, 3), (94, .aload 0, 1), (95, .sipush (0), 1), (96, .invokevirtual 44, 3), (99, .invokevirtual 53, 3), (102, .aload 0, 1), (103, .getfield 601, 3), (106, .getfield 101, 3), (109, .aload 0, 1), (110, .sipush (1), 1), (111, .invokevirtual 44, 3), (114, .invokevirtual 53, 3), (117, .imul, 1), (118, .i2l, 1), (119, .putfield 607, 3), (122, .aload 0, 1), (123, .getfield 601, 3), (126, .getfield 110, 3), (129, .iload 1, 1), (130, .aload 0, 1), (131, .sipush (0), 1), (132, .invokevirtual 46, 3), (135, .aastore, 1), (136, .aload 0, 1), (137, .getfield 601, 3), (140, .getfield 110, 3), (143, .iload 1, 1), (144, .aaload, 1), (145, .ifnull 156, 3), (148, .aload 0, 1), (149, .iload 1, 1), (150, .invokevirtual 38, 3), (153, .ifCond .ne 158, 3), (156, .sipush (0), 1), (157, .ireturn, 1), (158, .aload 0, 1), (159, .getfield 601, 3), (162, .getfield 111, 3), (165, .iload 1, 1), (166, .aload 0, 1), (167, .sipush (0), 1), (168, .invokevirtual 46, 3), (171, .aastore, 1), (172, .aload 0, 1), (173, .sipush (0), 1), (174, .invokevirtual 45, 3), (177, .aload 0, 1), (178, .getfield 601, 3), (181, .getfield 111, 3), (184, .iload 1, 1), (185, .aaload, 1), (186, .ifnull 205, 3), (189, .aload 0, 1), (190, .getfield 600, 3), (193, .sipush (59), 2), (195, .invokevirtual 75, 3), (198, .ifCond .eq 205, 3), (201, .sipush (1), 1), (202, .goto 206, 3), (205, .sipush (0), 1), (206, .ireturn, 1)]
/-- ProblemTexts$Reader.readRelation(I)Z -/
def cd_38 : List (Nat × Instr × Nat) := [(0, .aload 0, 1), (1, .getfield 600, 3), (4, .invokevirtual 70, 3), (7, .lookupswitch 79 #[(5, 40), (6, 66), (61, 53)], 33), (40, .aload 0, 1), (41, .getfield 601, 3), (44, .getfield 109, 3), (47, .iload 1, 1), (48, .sipush (-1), 1), (49, .iastore, 1), (50, .goto 87, 3), (53, .aload 0, 1), (54, .getfield 601, 3), (57, .getfield 109, 3), (60, .iload 1, 1), (61, .sipush (0), 1), (62, .iastore, 1), (63, .goto 87, 3), (66, .aload 0, 1), (67, .getfield 601, 3), (70, .getfield 109, 3), (73, .iload 1, 1), (74, .sipush (1), 1), (75, .iastore, 1), (76, .goto 87, 3), (79, .aload 0, 1), (80, .getfield 600, 3), (83, .invokevirtual 76, 3), (86, .ireturn, 1), (87, .aload 0, 1), (88, .getfield 600, 3), (91, .invokevirtual 74, 3), (94, .sipush (1), 1), (95, .ireturn, 1)]
/-- ProblemTexts$Reader.readGoal()Z -/
def cd_39 : List (Nat × Instr × Nat) := [(0, .aload 0, 1), (1, .getfield 601, 3), (4, .getfield 112, 3), (7, .ifCond .eq 18, 3), (10, .aload 0, 1), (11, .getfield 600, 3), (14, .invokevirtual 76, 3), (17, .ireturn, 1), (18, .aload 0, 1), (19, .getfield 600, 3), (22, .invokevirtual 74, 3), (25, .aload 0, 1), (26, .getfield 600, 3), (29, .invokevirtual 70, 3), (32, .sipush (7170414), 2), (34, .if_icmp .eq 57, 3), (37, .aload 0, 1), (38, .getfield 600, 3), (41, .invokevirtual 70, 3), (44, .sipush (7168376), 2), (46, .if_icmp .eq 57, 3), (49, .aload 0, 1), (50, .getfield 600, 3), (53, .invokevirtual 76, 3), (56, .ireturn, 1), (57, .aload 0, 1), (58, .getfield 601, 3), (61, .aload 0, 1), (62, .getfield 600, 3), (65, .invokevirtual 70, 3), (68, .sipush (7170414), 2), (70, .if_icmp .ne 77, 3), (73, .sipush (1), 1), (74, .goto 78, 3), (77, .sipush (2), 1), (78, .putfield 112, 3), (81, .aload 0, 1), (82, .getfield 600, 3), (85, .invokevirtual 74, 3), (88, .aload 0, 1), (89, .jsr_w 1, 1), (90, .putfield 607, 3), (93, .aload 0, 1), (94, .getfield 601, 3), (97, .aload 0, 1), (98, .sipush (0), 1), (99, .invokevirtual 46, 3), (102, .putfield 113, 3), (105, .aload 0, 1), (106, .getfield 601, 3), (109, .getfield 113, 3), (112, .ifnull 131, 3), (115, .aload 0, 1), (116, .getfield 600, 3), (119, .sipush (59), 2), (121, .invokevirtual 75, 3), (124, .ifCond .eq 131, 3), (127, .sipush (1), 1), (128, .goto 132, 3), (131, .sipush (0), 1), (132, .ireturn, 1)]
/-- ProblemTexts$Reader.readOf()Z -/
def cd_40 : List (Nat × Instr × Nat) := [(0, .aload 0, 1), (1, .sipush (-1), 1), (2, .putfield 603, 3), (5, .aload 0, 1), (6, .sipush (-1), 1), (7, .putfield 604, 3), (10, .aload 0, 1), (11, .getfield 600, 3), (14, .invokevirtual 70, 3), (17, .sipush (91), 2), (19, .if_icmp .eq 24, 3), (22, .sipush (1), 1), (23, .ireturn, 1), (24, .aload 0, 1), (25, .getfield 600, 3), (28, .invokevirtual 74, 3), (31, .aload 0, 1), (32, .aload 0, 1), (33, .invokevirtual 41, 3), (36, .putfield 603, 3), (39, .aload 0, 1), (40, .getfield 603, 3), (43, .sipush (-1), 1), (44, .if_icmp .ne 49, 3), (47, .sipush (0), 1), (48, .ireturn, 1), (49, .aload 0, 1), (50, .getfield 600, 3), (53, .invokevirtual 70, 3), (56, .sipush (44), 2), (58, .if_icmp .ne 86, 3), (61, .aload 0, 1), (62, .getfield 600, 3), (65, .invokevirtual 74, 3), (68, .aload 0, 1), (69, .aload 0, 1), (70, .invokevirtual 41, 3), (73, .putfield 604, 3), (76, .aload 0, 1), (77, .getfield 604, 3), (80, .sipush (-1), 1), (81, .if_icmp .ne 86, 3), (84, .sipush (0), 1), (85, .ireturn, 1), (86, .aload 0, 1), (87, .getfield 600, 3), (90, .sipush (93), 2), (92, .invokevirtual 75, 3), (95, .ireturn, 1)]
/-- ProblemTexts$Reader.readSetName()I -/
def cd_41 : List (Nat × Instr × Nat) := [(0, .aload 0, 1), (1, .getfield 601, 3), (4, .getfield 100, 3), (7, .sipush (0), 1), (8, .aload 0, 1), (9, .getfield 600, 3), (12, .invokevirtual 73, 3), (15, .invokevirtual 26, 3), (18, .istore 1, 1), (19, .iload 1, 1), (20, .sipush (-1), 1), (21, .if_icmp .ne 35, 3), (24, .aload 0, 1), (25, .getfield 600, 3), (28, .invokevirtual 76, 3), (31, .pop, 1), (32, .goto 42, 3), (35, .aload 0, 1), (36, .getfield 600, 3), (39, .invokevirtual 74, 3), (42, .iload 1, 1), (43, .ireturn, 1)]
/-- ProblemTexts$Reader.readValue()Z -/
def cd_42 : List (Nat × Instr × Nat) := [(0, .aload 0, 1), (1, .getfield 600, 3), (4, .invokevirtual 70, 3), (7, .sipush (45), 2), (9, .if_icmp .ne 16, 3), (12, .sipush (1), 1), (13, .goto 17, 3), (16, .sipush (0), 1), (17, .istore 1, 1), (18, .iload 1, 1), (19, .ifCond .eq 29, 3), (22, .aload 0, 1), (23, .getfield 600, 3), (26, .invokevirtual 74, 3), (29, .aload 0, 1), (30, .iload 1, 1), (31, .ifCond .eq 45, 3), (34, .aload 0, 1), (35, .getfield 600, 3), (38, .invokevirtual 72, 3), (41, .ineg, 1), (42, .goto 52, 3), (45, .aload 0, 1), (46, .getfield 600, 3), (49, .invokevirtual 72, 3), (52, .putfield 602, 3), (55, .aload 0, 1), (56, .getfield 600, 3), (59, .sipush (4), 1), (60, .invokevirtual 75, 3), (63, .ireturn, 1)]
/-- ProblemTexts$Reader.readIndices()Z -/
def cd_43 : List (Nat × Instr × Nat) := [(0, .sipush (1), 1), (1, .istore 1, 1), (2, .iload 1, 1), (3, .ifCond .lt 185, 3), (6, .aload 0, 1), (7, .getfield 600, 3), (10, .invokevirtual 73, 3), (13, .istore 2, 1), (14, .aload 0, 1), (15, .getfield 600, 3), (18, .invokevirtual 70, 3), (21, .sipush (3), 1), (22, .if_icmp .ne 40, 3), (25, .aload 0, 1), (26, .getfield 601, 3), (29, .getfield 100, 3), (32, .iload 2, 1), (33, .invokevirtual 25, 3), (36, .sipush (-1), 1), (37, .if_icmp .eq 48, 3), (40, .aload 0, 1), (41, .getfield 600, 3), (44, .invokevirtual 76, 3), (47, .ireturn, 1), (48, .aload 0, 1), (49, .getfield 600, 3), (52, .invokevirtual 74, 3), (55, .aload 0, 1), (56, .getfield 600, 3), (59, .sipush (26990), 3), (62, .invokevirtual 75, 3), (65, .ifCond .ne 70, 3), (68, .sipush (0), 1), (69, .ireturn, 1), (70, .aload 0, 1), (71, .getfield 601, 3), (74, .getfield 100, 3), (77, .sipush (0), 1), (78, .aload 0, 1), (79, .getfield 600, 3), (82, .invokevirtual 73, 3), (85, .invokevirtual 26, 3), (88, .istore 3, 1), (89, .iload 3, 1), (90, .sipush (-1), 1), (91, .if_icmp .ne 102, 3), (94, .aload 0, 1), (95, .getfield 600, 3), (98, .invokevirtual 76, 3), (101, .ireturn, 1), (102, .aload 0, 1), (103, .getfield 600, 3), (106, .invokevirtual 74, 3), (109, .aload 0, 1), (110, .getfield 606, 3), (113, .sipush (18), 2), (115, .if_icmp .ge 154, 3), (118, .aload 0, 1), (119, .getfield 601, 3), (122, .getfield 100, 3), (125, .iload 2, 1), (126, .sipush (4), 1), (127, .aload 0, 1), (128, .getfield 606, 3), (131, .invokevirtual 24, 3), (134, .aload 0, 1), (135, .getfield 605, 3), (138, .aload 0, 1), (139, .getfield 606, 3), (142, .iload 3, 1), (143, .iastore, 1), (144, .aload 0, 1), (145, .dup, 1), (146, .getfield 606, 3), (149, .sipush (1), 1), (150, .iadd, 1), (151, .putfield 606, 3), (154, .iload 1, 1), (155, .ifCond .eq 170, 3), (158, .aload 0, 1), (159, .getfield 600, 3), (162, .invokevirtual 70, 3), (165, .sipush (44), 2), (167, .if_icmp .eq 172, 3), (170, .sipush (1), 1), (171, .ireturn, 1), (172, .aload 0, 1), (173, .getfield 600, 3), (176, .invokevirtual 74, 3), (179, .iinc 1 (-1), 3), (182, .goto 2, 3), (185, .sipush (1), 1), (186, .ireturn, 1)]
/-- ProblemTexts$Reader.setAround(I)I -/
def cd_44 : List (Nat × Instr × Nat) := [(0, .iload 1, 1), (1, .ifCond .lt 12, 3), (4, .iload 1, 1), (5, .aload 0, 1), (6, .getfield 606, 3), (9, .if_icmp .lt 16, 3), (12, .sipush (-1), 1), (13, .goto 22, 3), (16, .aload 0, 1), (17, .getfield 605, 3), (20, .iload 1, 1), (21, .iaload, 1), (22, .ireturn, 1)]
/-- ProblemTexts$Reader.dropIndices(I)V -/
def cd_45 : List (Nat × Instr × Nat) := [(0, .aload 0, 1), (1, .getfield 601, 3), (4, .getfield 100, 3), (7, .dup, 1), (8, .getfield 403, 3), (11, .aload 0, 1), (12, .getfield 606, 3), (15, .iload 1, 1), (16, .isub, 1), (17, .isub, 1), (18, .putfield 403, 3), (21, .aload 0, 1), (22, .iload 1, 1), (23, .putfield 606, 3), (26, .return_, 1)]
/-- ProblemTexts$Reader.readSum(I)LProblemTexts$Part; -/
def cd_46 : List (Nat × Instr × Nat) := [(0, .new 5, 3), (3, .dup, 1), (4, .aload 0, 1), (5, .getfield 600, 3), (8, .invokevirtual 70, 3), (11, .sipush (45), 2), (13, .if_icmp .ne 20, 3), (16, .sipush (1), 1), (17, .goto 21, 3), (20, .sipush (0), 1), (21, .invokespecial 29, 3), (24, .astore 2, 1), (25, .aload 2, 1), (26, .getfield 500, 3), (29, .ifCond .eq 39, 3), (32, .aload 0, 1), (33, .getfield 600, 3), (36, .invokevirtual 74, 3), (39, .aload 2, 1), (40, .astore 3, 1), (41, .sipush (0), 1), (42, .istore 4, 2), (44, .iload 4, 2), (46, .sipush (400), 3), (49, .if_icmp .ge 187, 3), (52, .aload 0, 1), (53, .getfield 600, 3), (56, .invokevirtual 71, 3), (59, .istore 5, 2), (61, .aload 0, 1), (62, .iload 1, 1), (63, .invokevirtual 47, 3), (66, .astore 6, 2), (68, .aload 6, 2), (70, .ifnonnull 75, 3), (73, .jsr 0, 1), (74, .areturn, 1), (75, .aload 6, 2), (77, .getfield 205, 3), (80, .ifCond .eq 101, 3), (83, .aload 3, 1), (84, .getfield 502, 3), (87, .ifnull 101, 3), (90, .aload 0, 1), (91, .getfield 600, 3), (94, .iload 5, 2), (96, .invokevirtual 77, 3), (99, .jsr 0, 1), (100, .areturn, 1), (101, .aload 3, 1), (102, .aload 6, 2), (104, .invokevirtual 30, 3), (107, .aload 0, 1), (108, .getfield 600, 3), (111, .invokevirtual 70, 3), (114, .istore 7, 2), (116, .iload 7, 2), (118, .sipush (42), 2), (120, .if_icmp .eq 139, 3), (123, .iload 7, 2), (125, .sipush (43), 2), (127, .if_icmp .eq 139, 3), (130, .iload 7, 2), (132, .sipush (45), 2), (134, .if_icmp .eq 139, 3), (137, .aload 2, 1), (138, .areturn, 1), (139, .aload 0, 1), (140, .getfield 600, 3), (143, .invokevirtual 74, 3), (146, .iload 7, 2), (148, .sipush (42), 2), (150, .if_icmp .eq 181, 3), (153, .aload 3, 1), (154, .new 5, 3), (157, .dup, 1), (158, .iload 7, 2), (160, .sipush (45), 2), (162, .if_icmp .ne 169, 3), (165, .sipush (1), 1), (166, .goto 170, 3), (169, .sipush (0), 1), (170, .invokespecial 29, 3), (173, .putfield 503, 3), (176, .aload 3, 1), (177, .getfield 503, 3), (180, .astore 3, 1), (181, .iinc 4 1, 3), (184, .goto 44, 3), (187, .aload 0, 1), (188, .getfield 600, 3), (191, .invokevirtual 76, 3), (194, .pop, 1), (195, .jsr 0, 1), (196, .areturn, 1)]
/-- ProblemTexts$Reader.readFactor(I)LProblemTexts$Factor; -/
def cd_47 : List (Nat × Instr × Nat) := [(0, .aload 0, 1), (1, .getfield 601, 3), (4, .dup, 1), (5, .getfield 114, 3), (8, .aload 0, 1), (9, .getfield 607, 3), (12, .ladd, 1), (13, .putfield 114, 3), (16, .aload 0, 1), (17, .getfield 600, 3), (20, .invokevirtual 70, 3), (23, .lookupswitch 102 #[(3, 91), (4, 64), (40, 96), (7566701, 96)], 41), (64, .new 2, 3), (67, .dup, 1), (68, .sipush (0), 1), (69, .aload 0, 1), (70, .getfield 600, 3), (73, .invokevirtual 72, 3), (76, .sipush (-1), 1), (77, .sipush (-1), 1), (78, .invokespecial 11, 3), (81, .astore 2, 1), (82, .aload 0, 1), (83, .getfield 600, 3), (86, .invokevirtual 74, 3), (89, .aload 2, 1), (90, .areturn, 1), (91, .aload 0, 1), (92, .invokevirtual 48, 3), (95, .areturn, 1), (96, .aload 0, 1), (97, .iload 1, 1), (98, .invokevirtual 50, 3), (101, .areturn, 1), (102, .aload 0, 1), (103, .getfield 600, 3), (106, .invokevirtual 76, 3), (109, .pop, 1), (110, .jsr 0, 1), (111, .areturn, 1)]
/-- ProblemTexts$Reader.readNamed()LProblemTexts$Factor; -/
def cd_48 : List (Nat × Instr × Nat) := [(0, .aload 0, 1), (1, .getfield 601, 3), (4, .getfield 100, 3), (7, .aload 0, 1), (8, .getfield 600, 3), (11, .invokevirtual 73, 3), (14, .invokevirtual 25, 3), (17, .istore 1, 1), (18, .aload 0, 1), (19, .getfield 601, 3), (22, .getfield 100, 3), (25, .iload 1, 1), (26, .aload 0, 1), (27, .getfield 600, 3), (30, .invokevirtual 73, 3), (33, .invokevirtual 26, 3), (36, .istore 2, 1), (37, .iload 1, 1), (38, .sipush (4), 1), (39, .if_icmp .eq 62, 3), (42, .iload 1, 1), (43, .sipush (1), 1), (44, .if_icmp .eq 62, 3), (47, .iload 1, 1), (48, .sipush (2), 1), (49, .if_icmp .eq 62, 3), (52, .aload 0, 1), (53, .getfield 600, 3), (56, .invokevirtual 76, 3), (59, .pop, 1), (60, .jsr 0, 1), (61, .areturn, 1), (62, .aload 0, 1), (63, .getfield 600, 3), (66, .invokevirtual 74, 3), (69, .iload 1, 1), (70, .sipush (4), 1), (71, .if_icmp .ne 86, 3), (74, .new 2, 3), (77, .dup, 1), (78, .sipush (1), 1), (79, .iload 2, 1), (80, .sipush (-1), 1), (81, .sipush (-1), 1), (82, .invokespecial 11, 3), (85, .areturn, 1), (86, .iload 1, 1), (87, .sipush (1), 1), (88, .if_icmp .ne 101, 3), (91, .aload 0, 1), (92, .getfield 601, 3), (95, .getfield 102, 3), (98, .goto 108, 3), (101, .aload 0, 1), (102, .getfield 601, 3), (105, .getfield 103, 3), (108, .astore 3, 1), (109, .sipush (0), 1), (110, .istore 4, 2), (112, .sipush (0), 1), (113, .istore 5, 2), (115, .aload 3, 1), (116, .getfield 801, 3), (119, .iload 2, 1), (120, .iaload, 1), (121, .sipush (-1), 1), (122, .if_icmp .eq 199, 3), (125, .aload 0, 1), (126, .sipush (91), 2), (128, .aload 3, 1), (129, .getfield 801, 3), (132, .iload 2, 1), (133, .iaload, 1), (134, .invokevirtual 49, 3), (137, .istore 4, 2), (139, .iload 4, 2), (141, .sipush (-1000), 3), (144, .if_icmp .ne 149, 3), (147, .jsr 0, 1), (148, .areturn, 1), (149, .aload 3, 1), (150, .getfield 802, 3), (153, .iload 2, 1), (154, .iaload, 1), (155, .sipush (-1), 1), (156, .if_icmp .ne 163, 3), (159, .sipush (0), 1), (160, .goto 175, 3), (163, .aload 0, 1), (164, .sipush (44), 2), (166, .aload 3, 1), (167, .getfield 802, 3), (170, .iload 2, 1), (171, .iaload, 1), (172, .invokevirtual 49, 3), (175, .istore 5, 2), (177, .iload 5, 2), (179, .sipush (-1000), 3), (182, .if_icmp .eq 197, 3), (185, .aload 0, 1), (186, .getfield 600, 3), (189, .sipush (93), 2), (191, .invokevirtual 75, 3), (194, .ifCond .ne 199, 3), (197, .jsr 0, 1), (198, .areturn, 1), (199, .new 2, 3), (202, .dup, 1), (203, .iload 1, 1), (204, .sipush (1), 1), (205, .if_icmp .ne 212, 3), (208, .sipush (2), 1), (209, .goto 213, 3), (212, .sipush (3), 1), (213, .iload 2, 1), (214, .iload 4, 2), (216, .iload 5, 2), (218, .invokespecial 11, 3), (221, .areturn, 1)]
/-- ProblemTexts$Reader.readPlace(II)I -/
def cd_49 : List (Nat × Instr × Nat) := [(0, .aload 0, 1), (1, .getfield 600, 3), (4, .iload 1, 1), (5, .invokevirtual 75, 3), (8, .ifCond .ne 15, 3), (11, .sipush (-1000), 3), (14, .ireturn, 1), (15, .sipush (-1000), 3), (18, .istore 3, 1), (19, .aload 0, 1), (20, .getfield 601, 3), (23, .getfield 100, 3), (26, .sipush (4), 1), (27, .aload 0, 1), (28, .getfield 600, 3), (31, .invokevirtual 73, 3), (34, .invokevirtual 26, 3), (37, .istore 4, 2), (39, .iload 4, 2), (41, .sipush (-1), 1), (42, .if_icmp .eq 70, 3), (45, .aload 0, 1), (46, .getfield 601, 3), (49, .getfield 101, 3), (52, .aload 0, 1), (53, .iload 4, 2), (55, .invokevirtual 44, 3), (58, .iload 2, 1), (59, .invokevirtual 56, 3), (62, .ifCond .eq 70, 3), (65, .iload 4, 2), (67, .sipush (-1), 1), (68, .ixor, 1), (69, .istore 3, 1), (70, .aload 0, 1), (71, .getfield 600, 3), (74, .invokevirtual 70, 3), (77, .sipush (4), 1), (78, .if_icmp .ne 111, 3), (81, .aload 0, 1), (82, .getfield 601, 3), (85, .getfield 101, 3), (88, .iload 2, 1), (89, .aload 0, 1), (90, .getfield 600, 3), (93, .invokevirtual 72, 3), (96, .invokevirtual 55, 3), (99, .sipush (-1), 1), (100, .if_icmp .eq 111, 3), (103, .aload 0, 1), (104, .getfield 600, 3), (107, .invokevirtual 72, 3), (110, .istore 3, 1), (111, .iload 3, 1), (112, .sipush (-1000), 3), (115, .if_icmp .ne 129, 3), (118, .aload 0, 1), (119, .getfield 600, 3), (122, .invokevirtual 76, 3), (125, .pop, 1), (126, .goto 136, 3), (129, .aload 0, 1), (130, .getfield 600, 3), (133, .invokevirtual 74, 3), (136, .iload 3, 1), (137, .ireturn, 1)]
/-- ProblemTexts$Reader.readInner(I)LProblemTexts$Factor; -/
def cd_50 : List (Nat × Instr × Nat) := [(0, .iload 1, 1), (1, .sipush (8), 2), (3, .if_icmp .lt 16, 3), (6, .aload 0, 1), (7, .getfield 600, 3), (10, .invokevirtual 76, 3), (13, .pop, 1), (14, .jsr 0, 1), (15, .areturn, 1), (16, .aload 0, 1), (17, .getfield 606, 3), (20, .istore 2, 1), (21, .aload 0, 1), (22, .getfield 607, 3), (25, .lstore 3, 1), (26, .aload 0, 1), (27, .getfield 600, 3), (30, .invokevirtual 70, 3), (33, .sipush (7566701), 2), (35, .if_icmp .ne 42, 3), (38, .sipush (1), 1), (39, .goto 43, 3), (42, .sipush (0), 1), (43, .istore 5, 2), (45, .aload 0, 1), (46, .getfield 600, 3), (49, .invokevirtual 74, 3), (52, .iload 5, 2), (54, .ifCond .eq 90, 3), (57, .aload 0, 1), (58, .getfield 600, 3), (61, .sipush (40), 2), (63, .invokevirtual 75, 3), (66, .ifCond .eq 88, 3), (69, .aload 0, 1), (70, .invokevirtual 43, 3), (73, .ifCond .eq 88, 3), (76, .aload 0, 1), (77, .getfield 600, 3), (80, .sipush (58), 2), (82, .invokevirtual 75, 3), (85, .ifCond .ne 90, 3), (88, .jsr 0, 1), (89, .areturn, 1), (90, .new 2, 3), (93, .dup, 1), (94, .sipush (4), 1), (95, .iload 2, 1), (96, .aload 0, 1), (97, .iload 2, 1), (98, .invokevirtual 44, 3), (101, .aload 0, 1), (102, .iload 2, 1), (103, .sipush (1), 1), (104, .iadd, 1), (105, .invokevirtual 44, 3), (108, .invokespecial 11, 3), (111, .astore 6, 2), (113, .aload 0, 1), (114, .dup, 1), (115, .getfield 607, 3), (118, .aload 0, 1), (119, .getfield 601, 3), (122, .getfield 101, 3), (125, .aload 6, 2), (127, .getfield 202, 3), (130, .invokevirtual 53, 3), (133, .aload 0, 1), (134, .getfield 601, 3), (137, .getfield 101, 3), (140, .aload 6, 2), (142, .getfield 203, 3), (145, .invokevirtual 53, 3), (148, .imul, 1), (149, .i2l, 1), (150, .lmul, 1), (151, .putfield 607, 3), (154, .aload 0, 1), (155, .aload 0, 1), (156, .getfield 607, 3), (159, .jsr_w (1000000000), 3), (162, .caload, 3), (165, .putfield 607, 3), (168, .aload 6, 2), (170, .aload 0, 1), (171, .iload 1, 1), (172, .sipush (1), 1), (173, .iadd, 1), (174, .invokevirtual 46, 3), (177, .putfield 204, 3), (180, .aload 6, 2), (182, .getfield 204, 3), (185, .ifnull 200, 3), (188, .aload 0, 1), (189, .getfield 600, 3), (192, .sipush (41), 2), (194, .invokevirtual 75, 3), (197, .ifCond .ne 202, 3), (200, .jsr 0, 1), (201, .areturn, 1), (202, .aload 6, 2), (204, .getfield 204, 3), (207, .astore 7, 2), (209, .aload 7, 2), (211, .ifnull 250, 3), (214, .aload 6, 2), (216, .aload 6, 2), (218, .getfield 205, 3), (221, .ifCond .ne 232, 3), (224, .aload 7, 2), (226, .getfield 502, 3), (229, .ifnull 236, 3), (232, .sipush (1), 1), (233, .goto 237, 3), (236, .sipush (0), 1), (237, .putfield 205, 3), (240, .aload 7, 2), (242, .getfield 503, 3), (245, .astore 7, 2), (247, .goto 209, 3), (250, .aload 0, 1), (251, .lload 3, 1), (252, .putfield 607, 3), (255, .aload 0, 1), (256, .iload 2, 1), (257, .invokevirtual 45, 3), (260, .aload 6, 2), (262, .areturn, 1)]
/-- ProblemTexts$Sets.<init>()V -/
def cd_51 : List (Nat × Instr × Nat) := [(0, .aload 0, 1), (1, .monitorenter, 3), (4, .aload 0, 1), (5, .sipush (6), 2), (7, .newarray .int, 2), (9, .putfield 700, 3), (12, .aload 0, 1), (13, .sipush (6), 2), (15, .newarray .int, 2), (17, .putfield 701, 3), (20, .return_, 1)]
/-- ProblemTexts$Sets.add(II)V -/
def cd_52 : List (Nat × Instr × Nat) := [(0, .aload 0, 1), (1, .getfield 702, 3), (4, .sipush (6), 2), (6, .if_icmp .ge 39, 3), (9, .aload 0, 1), (10, .getfield 700, 3), (13, .aload 0, 1), (14, .getfield 702, 3), (17, .iload 1, 1), (18, .iastore, 1), (19, .aload 0, 1), (20, .getfield 701, 3), (23, .aload 0, 1), (24, .getfield 702, 3), (27, .iload 2, 1), (28, .iastore, 1), (29, .aload 0, 1), (30, .dup, 1), (31, .getfield 702, 3), (34, .sipush (1), 1), (35, .iadd, 1), (36, .putfield 702, 3), (39, .return_, 1)]
/-- ProblemTexts$Sets.sizeOf(I)I -/
def cd_53 : List (Nat × Instr × Nat) := [(0, .iload 1, 1), (1, .ifCond .lt 12, 3), (4, .iload 1, 1), (5, .aload 0, 1), (6, .getfield 702, 3), (9, .if_icmp .lt 16, 3), (12, .sipush (1), 1), (13, .goto 22, 3), (16, .aload 0, 1), (17, .getfield 701, 3), (20, .iload 1, 1), (21, .iaload, 1), (22, .ireturn, 1)]
/-- ProblemTexts$Sets.numberAt(II)I -/
def cd_54 : List (Nat × Instr × Nat) := [(0, .iload 1, 1), (1, .ifCond .lt 12, 3), (4, .iload 1, 1), (5, .aload 0, 1), (6, .getfield 702, 3), (9, .if_icmp .lt 16, 3), (12, .sipush (-1), 1), (13, .goto 24, 3), (16, .aload 0, 1), (17, .getfield 700, 3), (20, .iload 1, 1), (21, .iaload, 1), (22, .iload 2, 1), (23, .iadd, 1), (24, .ireturn, 1)]
/-- ProblemTexts$Sets.offsetOf(II)I -/
def cd_55 : List (Nat × Instr × Nat) := [(0, .iload 1, 1), (1, .ifCond .lt 12, 3), (4, .iload 1, 1), (5, .aload 0, 1), (6, .getfield 702, 3), (9, .if_icmp .lt 14, 3), (12, .sipush (0), 1), (13, .ireturn, 1), (14, .iload 2, 1), (15, .aload 0, 1), (16, .getfield 700, 3), (19, .iload 1, 1), (20, .iaload, 1), (21, .if_icmp .lt 41, 3), (24, .iload 2, 1), (25, .aload 0, 1), (26, .getfield 700, 3), (29, .iload 1, 1), (30, .iaload, 1), (31, .isub, 1), (32, .aload 0, 1), (33, .getfield 701, 3), (36, .iload 1, 1), (37, .iaload, 1), (38, .if_icmp .lt 45, 3), (41, .sipush (-1), 1), (42, .goto 53, 3), (45, .iload 2, 1), (46, .aload 0, 1), (47, .getfield 700, 3), (50, .iload 1, 1), (51, .iaload, 1), (52, .isub, 1), (53, .ireturn, 1)]
/-- ProblemTexts$Sets.isWithin(II)Z -/
def cd_56 : List (Nat × Instr × Nat) := [(0, .iload 1, 1), (1, .ifCond .lt 24, 3), (4, .iload 1, 1), (5, .aload 0, 1), (6, .getfield 702, 3), (9, .if_icmp .ge 24, 3), (12, .iload 2, 1), (13, .ifCond .lt 24, 3), (16, .iload 2, 1), (17, .aload 0, 1), (18, .getfield 702, 3), (21, .if_icmp .lt 26, 3), (24, .sipush (0), 1), (25, .ireturn, 1), (26, .aload 0, 1), (27, .getfield 701, 3), (30, .iload 1, 1), (31, .iaload, 1), (32, .ifCond .eq 79, 3), (35, .aload 0, 1), (36, .getfield 700, 3), (39, .iload 1, 1), (40, .iaload, 1), (41, .aload 0, 1), (42, .getfield 700, 3), (45, .iload 2, 1), (46, .iaload, 1), (47, .if_icmp .lt 83, 3), (50, .aload 0, 1), (51, .getfield 700, 3), (54, .iload 1, 1), (55, .iaload, 1), (56, .aload 0, 1), (57, .getfield 701, 3), (60, .iload 1, 1), (61, .iaload, 1), (62, .iadd, 1), (63, .aload 0, 1), (64, .getfield 700, 3), (67, .iload 2, 1), (68, .iaload, 1), (69, .aload 0, 1), (70, .getfield 701, 3), (73, .iload 2, 1), (74, .iaload, 1), (75, .iadd, 1), (76, .if_icmp .gt 83, 3), (79, .sipush (1), 1), (80, .goto 84, 3), (83, .sipush (0), 1), (84, .ireturn, 1)]
/-- ProblemTexts$Things.<init>(LProblemTexts$Sets;I)V -/
def cd_57 : List (Nat × Instr × Nat) := [(0, .aload 0, 1), (1, .monitorenter, 3), (4, .aload 0, 1), (5, .aload 1, 1), (6, .putfield 800, 3), (9, .aload 0, 1), (10, .sipush (0), 1), (11, .iload 2, 1), (12, .saload, 3), (15, .newarray .int, 2), (17, .putfield 801, 3), (20, .aload 0, 1), (21, .sipush (0), 1), (22, .iload 2, 1), (23, .saload, 3), (26, .newarray .int, 2), (28, .putfield 802, 3), (31, .aload 0, 1), (32, .sipush (0), 1), (33, .iload 2, 1), (34, .saload, 3), (37, .newarray .int, 2), (39, .putfield 803, 3), (42, .return_, 1)]
/-- ProblemTexts$Things.clear()V -/
def cd_58 : List (Nat × Instr × Nat) := [(0, .aload 0, 1), (1, .sipush (0), 1), (2, .putfield 804, 3), (5, .aload 0, 1), (6, .sipush (0), 1), (7, .putfield 805, 3), (10, .return_, 1)]
/-- ProblemTexts$Things.add(II)V -/
def cd_59 : List (Nat × Instr × Nat) := [(0, .aload 0, 1), (1, .getfield 804, 3), (4, .aload 0, 1), (5, .getfield 803, 3), (8, .arraylength, 1), (9, .if_icmp .ge 81, 3), (12, .aload 0, 1), (13, .getfield 801, 3), (16, .aload 0, 1), (17, .getfield 804, 3), (20, .iload 1, 1), (21, .iastore, 1), (22, .aload 0, 1), (23, .getfield 802, 3), (26, .aload 0, 1), (27, .getfield 804, 3), (30, .iload 2, 1), (31, .iastore, 1), (32, .aload 0, 1), (33, .getfield 803, 3), (36, .aload 0, 1), (37, .getfield 804, 3), (40, .aload 0, 1), (41, .getfield 805, 3), (44, .iastore, 1), (45, .aload 0, 1), (46, .dup, 1), (47, .getfield 805, 3), (50, .aload 0, 1), (51, .getfield 800, 3), (54, .iload 1, 1), (55, .invokevirtual 53, 3), (58, .aload 0, 1), (59, .getfield 800, 3), (62, .iload 2, 1), (63, .invokevirtual 53, 3), (66, .imul, 1), (67, .iadd, 1), (68, .putfield 805, 3), (71, .aload 0, 1), (72, .dup, 1), (73, .getfield 804, 3), (76, .sipush (1), 1), (77, .iadd, 1), (78, .putfield 804, 3), (81, .return_, 1)]
/-- ProblemTexts$Things.spot(III)I -/
def cd_60 : List (Nat × Instr × Nat) := [(0, .iload 1, 1), (1, .ifCond .lt 12, 3), (4, .iload 1, 1), (5, .aload 0, 1), (6, .getfield 804, 3), (9, .if_icmp .lt 14, 3), (12, .sipush (-1), 1), (13, .ireturn, 1), (14, .aload 0, 1), (15, .getfield 800, 3), (18, .aload 0, 1), (19, .getfield 801, 3), (22, .iload 1, 1), (23, .iaload, 1), (24, .iload 2, 1), (25, .invokevirtual 55, 3), (28, .istore 4, 2), (30, .aload 0, 1), (31, .getfield 800, 3), (34, .aload 0, 1), (35, .getfield 802, 3), (38, .iload 1, 1), (39, .iaload, 1), (40, .iload 3, 1), (41, .invokevirtual 55, 3), (44, .istore 5, 2), (46, .iload 4, 2), (48, .sipush (-1), 1), (49, .if_icmp .eq 58, 3), (52, .iload 5, 2), (54, .sipush (-1), 1), (55, .if_icmp .ne 62, 3), (58, .sipush (-1), 1), (59, .goto 88, 3), (62, .aload 0, 1), (63, .getfield 803, 3), (66, .iload 1, 1), (67, .iaload, 1), (68, .iload 4, 2), (70, .aload 0, 1), (71, .getfield 800, 3), (74, .aload 0, 1), (75, .getfield 802, 3), (78, .iload 1, 1), (79, .iaload, 1), (80, .invokevirtual 53, 3), (83, .imul, 1), (84, .iadd, 1), (85, .iload 5, 2), (87, .iadd, 1), (88, .ireturn, 1)]
/-- ProblemTexts$Things.owner(I)I -/
def cd_61 : List (Nat × Instr × Nat) := [(0, .iload 1, 1), (1, .ifCond .lt 12, 3), (4, .iload 1, 1), (5, .aload 0, 1), (6, .getfield 805, 3), (9, .if_icmp .lt 14, 3), (12, .sipush (-1), 1), (13, .ireturn, 1), (14, .aload 0, 1), (15, .getfield 804, 3), (18, .sipush (1), 1), (19, .isub, 1), (20, .istore 2, 1), (21, .iload 2, 1), (22, .ifCond .le 41, 3), (25, .aload 0, 1), (26, .getfield 803, 3), (29, .iload 2, 1), (30, .iaload, 1), (31, .iload 1, 1), (32, .if_icmp .le 41, 3), (35, .iinc 2 (-1), 3), (38, .goto 21, 3), (41, .iload 2, 1), (42, .ireturn, 1)]
/-- ProblemTexts$Things.firstNumber(I)I -/
def cd_62 : List (Nat × Instr × Nat) := [(0, .aload 0, 1), (1, .iload 1, 1), (2, .invokevirtual 61, 3), (5, .istore 2, 1), (6, .iload 2, 1), (7, .sipush (-1), 1), (8, .if_icmp .ne 15, 3), (11, .sipush (0), 1), (12, .goto 28, 3), (15, .aload 0, 1), (16, .getfield 800, 3), (19, .aload 0, 1), (20, .getfield 802, 3), (23, .iload 2, 1), (24, .iaload, 1), (25, .invokevirtual 53, 3), (28, .istore 3, 1), (29, .iload 3, 1), (30, .ifCond .gt 37, 3), (33, .sipush (-1), 1), (34, .goto 60, 3), (37, .aload 0, 1), (38, .getfield 800, 3), (41, .aload 0, 1), (42, .getfield 801, 3), (45, .iload 2, 1), (46, .iaload, 1), (47, .iload 1, 1), (48, .aload 0, 1), (49, .getfield 803, 3), (52, .iload 2, 1), (53, .iaload, 1), (54, .isub, 1), (55, .iload 3, 1), (56, .idiv, 1), (57, .invokevirtual 54, 3), (60, .ireturn, 1)]
/-- ProblemTexts$Things.secondNumber(I)I -/
def cd_63 : List (Nat × Instr × Nat) := [(0, .aload 0, 1), (1, .iload 1, 1), (2, .invokevirtual 61, 3), (5, .istore 2, 1), (6, .iload 2, 1), (7, .sipush (-1), 1), (8, .if_icmp .ne 15, 3), (11, .sipush (0), 1), (12, .goto 28, 3), (15, .aload 0, 1), (16, .getfield 800, 3), (19, .aload 0, 1), (20, .getfield 802, 3), (23, .iload 2, 1), (24, .iaload, 1), (25, .invokevirtual 53, 3), (28, .istore 3, 1), (29, .iload 3, 1), (30, .ifCond .gt 37, 3), (33, .sipush (-1), 1), (34, .goto 60, 3), (37, .aload 0, 1), (38, .getfield 800, 3), (41, .aload 0, 1), (42, .getfield 802, 3), (45, .iload 2, 1), (46, .iaload, 1), (47, .iload 1, 1), (48, .aload 0, 1), (49, .getfield 803, 3), (52, .iload 2, 1), (53, .iaload, 1), (54, .isub, 1), (55, .iload 3, 1), (56, .irem, 1), (57, .invokevirtual 54, 3), (60, .ireturn, 1)]
/-- ProblemTexts$Tokens.<init>()V -/
def cd_64 : List (Nat × Instr × Nat) := [(0, .aload 0, 1), (1, .monitorenter, 3), (4, .aload 0, 1), (5, .sipush (401), 3), (8, .newarray .int, 2), (10, .putfield 900, 3), (13, .aload 0, 1), (14, .sipush (401), 3), (17, .newarray .int, 2), (19, .putfield 901, 3), (22, .aload 0, 1), (23, .sipush (401), 3), (26, .newarray .int, 2), (28, .putfield 902, 3), (31, .return_, 1)]
/-- ProblemTexts$Tokens.scan(LProblemTexts$Bytes;)V -/
def cd_65 : List (Nat × Instr × Nat) := [(0, .aload 0, 1), (1, .sipush (0), 1), (2, .putfield 903, 3), (5, .aload 0, 1), (6, .sipush (0), 1), (7, .putfield 904, 3), (10, .aload 0, 1), (11, .sipush (0), 1), (12, .putfield 905, 3), (15, .sipush (0), 1), (16, .istore 3, 1), (17, .iload 3, 1), (18, .aload 1, 1), (19, .getfield 1, 3), (22, .if_icmp .ge 105, 3), (25, .aload 1, 1), (26, .iload 3, 1), (27, .invokevirtual 1, 3), (30, .istore 4, 2), (32, .iload 4, 2), (34, .invokestatic 78, 3), (37, .ifCond .eq 50, 3), (40, .aload 0, 1), (41, .aload 1, 1), (42, .iload 3, 1), (43, .invokevirtual 66, 3), (46, .istore 2, 1), (47, .goto 94, 3), (50, .iload 4, 2), (52, .invokestatic 79, 3), (55, .ifCond .eq 68, 3), (58, .aload 0, 1), (59, .aload 1, 1), (60, .iload 3, 1), (61, .invokevirtual 67, 3), (64, .istore 2, 1), (65, .goto 94, 3), (68, .iload 4, 2), (70, .sipush (32), 2), (72, .if_icmp .eq 82, 3), (75, .iload 4, 2), (77, .sipush (10), 2), (79, .if_icmp .ne 87, 3), (82, .sipush (1), 1), (83, .istore 2, 1), (84, .goto 94, 3), (87, .aload 0, 1), (88, .aload 1, 1), (89, .iload 3, 1), (90, .invokevirtual 68, 3), (93, .istore 2, 1), (94, .iload 3, 1), (95, .sipush (1), 1), (96, .iload 2, 1), (97, .saload, 3), (100, .iadd, 1), (101, .istore 3, 1), (102, .goto 17, 3), (105, .aload 0, 1), (106, .sipush (1), 1), (107, .aload 1, 1), (108, .getfield 1, 3), (111, .sipush (0), 1), (112, .invokevirtual 69, 3), (115, .return_, 1)]
/-- ProblemTexts$Tokens.scanLetters(LProblemTexts$Bytes;I)I -/
def cd_66 : List (Nat × Instr × Nat) := [(0, .sipush (0), 1), (1, .istore 3, 1), (2, .iload 2, 1), (3, .istore 4, 2), (5, .iload 4, 2), (7, .aload 1, 1), (8, .getfield 1, 3), (11, .if_icmp .ge 44, 3), (14, .aload 1, 1), (15, .iload 4, 2), (17, .invokevirtual 1, 3), (20, .invokestatic 78, 3), (23, .ifCond .eq 44, 3), (26, .iload 3, 1), (27, .sipush (8), 2), (29, .ishl, 1), (30, .aload 1, 1), (31, .iload 4, 2), (33, .invokevirtual 1, 3), (36, .ior, 1), (37, .istore 3, 1), (38, .iinc 4 1, 3), (41, .goto 5, 3), (44, .sipush (3), 1), (45, .istore 5, 2), (47, .sipush (0), 1), (48, .istore 6, 2), (50, .iload 6, 2), (52, .jsr 3, 3), (55, .arraylength, 1), (56, .if_icmp .ge 78, 3), (59, .jsr 3, 3), (62, .iload 6, 2), (64, .iaload, 1), (65, .iload 3, 1), (66, .if_icmp .ne 72, 3), (69, .iload 3, 1), (70, .istore 5, 2), (72, .iinc 6 1, 3), (75, .goto 50, 3), (78, .aload 0, 1), (79, .iload 4, 2), (81, .iload 2, 1), (82, .isub, 1), (83, .sipush (4), 1), (84, .if_icmp .le 91, 3), (87, .sipush (2), 1), (88, .goto 93, 3), (91, .iload 5, 2), (93, .iload 2, 1), (94, .iload 3, 1), (95, .invokevirtual 69, 3), (98, .iload 4, 2), (100, .iload 2, 1), (101, .isub, 1), (102, .ireturn, 1)]
/-- ProblemTexts$Tokens.scanDigits(LProblemTexts$Bytes;I)I -/
def cd_67 : List (Nat × Instr × Nat) := [(0, .sipush (0), 1), (1, .istore 3, 1), (2, .iload 2, 1), (3, .istore 4, 2), (5, .iload 4, 2), (7, .aload 1, 1), (8, .getfield 1, 3), (11, .if_icmp .ge 47, 3), (14, .aload 1, 1), (15, .iload 4, 2), (17, .invokevirtual 1, 3), (20, .invokestatic 79, 3), (23, .ifCond .eq 47, 3), (26, .iload 3, 1), (27, .sipush (10), 2), (29, .imul, 1), (30, .aload 1, 1), (31, .iload 4, 2), (33, .invokevirtual 1, 3), (36, .iadd, 1), (37, .sipush (48), 2), (39, .isub, 1), (40, .istore 3, 1), (41, .iinc 4 1, 3), (44, .goto 5, 3), (47, .aload 0, 1), (48, .iload 4, 2), (50, .iload 2, 1), (51, .isub, 1), (52, .sipush (4), 1), (53, .if_icmp .le 60, 3), (56, .sipush (2), 1), (57, .goto 61, 3), (60, .sipush (4), 1), (61, .iload 2, 1), (62, .iload 3, 1), (63, .invokevirtual 69, 3), (66, .iload 4, 2), (68, .iload 2, 1), (69, .isub, 1), (70, .ireturn, 1)]
/-- ProblemTexts$Tokens.scanSign(LProblemTexts$Bytes;I)I -/
def cd_68 : List (Nat × Instr × Nat) := [(0, .aload 1, 1), (1, .iload 2, 1), (2, .invokevirtual 1, 3), (5, .istore 3, 1), (6, .aload 1, 1), (7, .iload 2, 1), (8, .sipush (1), 1), (9, .iadd, 1), (10, .invokevirtual 1, 3), (13, .istore 4, 2), (15, .iload 3, 1), (16, .sipush (60), 2), (18, .if_icmp .ne 37, 3), (21, .iload 4, 2), (23, .sipush (61), 2), (25, .if_icmp .ne 37, 3), (28, .aload 0, 1), (29, .sipush (5), 1), (30, .iload 2, 1), (31, .sipush (0), 1), (32, .invokevirtual 69, 3), (35, .sipush (2), 1), (36, .ireturn, 1), (37, .iload 3, 1), (38, .sipush (62), 2), (40, .if_icmp .ne 60, 3), (43, .iload 4, 2), (45, .sipush (61), 2), (47, .if_icmp .ne 60, 3), (50, .aload 0, 1), (51, .sipush (6), 2), (53, .iload 2, 1), (54, .sipush (0), 1), (55, .invokevirtual 69, 3), (58, .sipush (2), 1), (59, .ireturn, 1), (60, .iload 3, 1), (61, .sipush (46), 2), (63, .if_icmp .ne 83, 3), (66, .iload 4, 2), (68, .sipush (46), 2), (70, .if_icmp .ne 83, 3), (73, .aload 0, 1), (74, .sipush (7), 2), (76, .iload 2, 1), (77, .sipush (0), 1), (78, .invokevirtual 69, 3), (81, .sipush (2), 1), (82, .ireturn, 1), (83, .aload 0, 1), (84, .jsr 4, 2), (86, .iload 3, 1), (87, .i2c, 1), (88, .invokevirtual 191, 3), (91, .ifCond .ge 98, 3), (94, .sipush (2), 1), (95, .goto 99, 3), (98, .iload 3, 1), (99, .iload 2, 1), (100, .sipush (0), 1), (101, .invokevirtual 69, 3), (104, .sipush (1), 1), (105, .ireturn, 1)]
/-- ProblemTexts$Tokens.add(III)V -/
def cd_69 : List (Nat × Instr × Nat) := [(0, .aload 0, 1), (1, .getfield 903, 3), (4, .aload 0, 1), (5, .getfield 900, 3), (8, .arraylength, 1), (9, .if_icmp .ge 52, 3), (12, .aload 0, 1), (13, .getfield 900, 3), (16, .aload 0, 1), (17, .getfield 903, 3), (20, .iload 1, 1), (21, .iastore, 1), (22, .aload 0, 1), (23, .getfield 901, 3), (26, .aload 0, 1), (27, .getfield 903, 3), (30, .iload 2, 1), (31, .iastore, 1), (32, .aload 0, 1), (33, .getfield 902, 3), (36, .aload 0, 1), (37, .getfield 903, 3), (40, .iload 3, 1), (41, .iastore, 1), (42, .aload 0, 1), (43, .dup, 1), (44, .getfield 903, 3), (47, .sipush (1), 1), (48, .iadd, 1), (49, .putfield 903, 3), (52, .return_, 1)]
/-- ProblemTexts$Tokens.kind()I -/
def cd_70 : List (Nat × Instr × Nat) := [(0, .aload 0, 1), (1, .getfield 900, 3), (4, .aload 0, 1), (5, .getfield 904, 3), (8, .iaload, 1), (9, .ireturn, 1)]
/-- ProblemTexts$Tokens.place()I -/
def cd_71 : List (Nat × Instr × Nat) := [(0, .aload 0, 1), (1, .getfield 901, 3), (4, .aload 0, 1), (5, .getfield 904, 3), (8, .iaload, 1), (9, .ireturn, 1)]
/-- ProblemTexts$Tokens.value()I -/
def cd_72 : List (Nat × Instr × Nat) := [(0, .aload 0, 1), (1, .getfield 902, 3), (4, .aload 0, 1), (5, .getfield 904, 3), (8, .iaload, 1), (9, .ireturn, 1)]
/-- ProblemTexts$Tokens.named()I -/
def cd_73 : List (Nat × Instr × Nat) := [(0, .aload 0, 1), (1, .getfield 900, 3), (4, .aload 0, 1), (5, .getfield 904, 3), (8, .iaload, 1), (9, .sipush (3), 1), (10, .if_icmp .ne 25, 3), (13, .aload 0, 1), (14, .getfield 902, 3), (17, .aload 0, 1), (18, .getfield 904, 3), (21, .iaload, 1), (22, .goto 26, 3), (25, .sipush (0), 1), (26, .ireturn, 1)]
/-- ProblemTexts$Tokens.advance()V -/
def cd_74 : List (Nat × Instr × Nat) := [(0, .aload 0, 1), (1, .getfield 904, 3), (4, .sipush (1), 1), (5, .iadd, 1), (6, .aload 0, 1), (7, .getfield 903, 3), (10, .if_icmp .ge 23, 3), (13, .aload 0, 1), (14, .dup, 1), (15, .getfield 904, 3), (18, .sipush (1), 1), (19, .iadd, 1), (20, .putfield 904, 3), (23, .return_, 1)]
/-- ProblemTexts$Tokens.take(I)Z -/
def cd_75 : List (Nat × Instr × Nat) := [(0, .aload 0, 1), (1, .getfield 900, 3), (4, .aload 0, 1), (5, .getfield 904, 3), (8, .iaload, 1), (9, .iload 1, 1), (10, .if_icmp .eq 31, 3), (13, .aload 0, 1), (14, .sipush (-10), 2), (16, .aload 0, 1), (17, .getfield 901, 3), (20, .aload 0, 1), (21, .getfield 904, 3), (24, .iaload, 1), (25, .isub, 1), (26, .putfield 905, 3), (29, .sipush (0), 1), (30, .ireturn, 1), (31, .aload 0, 1), (32, .getfield 904, 3), (35, .sipush (1), 1), (36, .iadd, 1), (37, .aload 0, 1), (38, .getfield 903, 3), (41, .if_icmp .ge 54, 3), (44, .aload 0, 1), (45, .dup, 1), (46, .getfield 904, 3), (49, .sipush (1), 1), (50, .iadd, 1), (51, .putfield 904, 3), (54, .sipush (1), 1), (55, .ireturn, 1)]
/-- ProblemTexts$Tokens.refuse()Z -/
def cd_76 : List (Nat × Instr × Nat) := [(0, .aload 0, 1), (1, .sipush (-10), 2), (3, .aload 0, 1), (4, .getfield 901, 3), (7, .aload 0, 1), (8, .getfield 904, 3), (11, .iaload, 1), (12, .isub, 1), (13, .putfield 905, 3), (16, .sipush (0), 1), (17, .ireturn, 1)]
/-- ProblemTexts$Tokens.refuseAt(I)V -/
def cd_77 : List (Nat × Instr × Nat) := [(0, .aload 0, 1), (1, .sipush (-10), 2), (3, .iload 1, 1), (4, .isub, 1), (5, .putfield 905, 3), (8, .return_, 1)]
/-- ProblemTexts$Tokens.isLetter(I)Z -/
def cd_78 : List (Nat × Instr × Nat) := [(0, .iload 0, 1), (1, .sipush (97), 2), (3, .if_icmp .lt 16, 3), (6, .iload 0, 1), (7, .sipush (122), 2), (9, .if_icmp .gt 16, 3), (12, .sipush (1), 1), (13, .goto 17, 3), (16, .sipush (0), 1), (17, .ireturn, 1)]
/-- ProblemTexts$Tokens.isDigit(I)Z -/
def cd_79 : List (Nat × Instr × Nat) := [(0, .iload 0, 1), (1, .sipush (48), 2), (3, .if_icmp .lt 16, 3), (6, .iload 0, 1), (7, .sipush (57), 2), (9, .if_icmp .gt 16, 3), (12, .sipush (1), 1), (13, .goto 17, 3), (16, .sipush (0), 1), (17, .ireturn, 1)]
/-- ProblemTexts.<init>()V -/
def cd_80 : List (Nat × Instr × Nat) := [(0, .aload 0, 1), (1, .monitorenter, 3), (4, .aload 0, 1), (5, .new 0, 3), (8, .dup, 1), (9, .sipush (400), 3), (12, .invokespecial 0, 3), (15, .putfield 1000, 3), (18, .aload 0, 1), (19, .new 0, 3), (22, .dup, 1), (23, .sipush (1551), 3), (26, .invokespecial 0, 3), (29, .putfield 1001, 3), (32, .aload 0, 1), (33, .new 9, 3), (36, .dup, 1), (37, .invokespecial 64, 3), (40, .putfield 1002, 3), (43, .aload 0, 1), (44, .new 1, 3), (47, .dup, 1), (48, .invokespecial 6, 3), (51, .putfield 1005, 3), (54, .aload 0, 1), (55, .new 1, 3), (58, .dup, 1), (59, .invokespecial 6, 3), (62, .putfield 1006, 3), (65, .aload 0, 1), (66, .new 6, 3), (69, .dup, 1), (70, .aload 0, 1), (71, .getfield 1002, 3), (74, .aload 0, 1), (75, .getfield 1006, 3), (78, .invokespecial 31, 3), (81, .putfield 1003, 3), (84, .aload 0, 1), (85, .new 3, 3), (88, .dup, 1), (89, .aload 0, 1), (90, .getfield 1005, 3), (93, .invokespecial 12, 3), (96, .putfield 1004, 3), (99, .return_, 1)]
/-- ProblemTexts.feed(IJ)I -/
def cd_81 : List (Nat × Instr × Nat) := [(0, .iload 1, 1), (1, .sipush (1), 1), (2, .if_icmp .lt 11, 3), (5, .iload 1, 1), (6, .sipush (8), 2), (8, .if_icmp .le 14, 3), (11, .sipush (-100002), 2), (13, .ireturn, 1), (14, .aload 0, 1), (15, .getfield 1000, 3), (18, .getfield 1, 3), (21, .iload 1, 1), (22, .iadd, 1), (23, .sipush (400), 3), (26, .if_icmp .le 32, 3), (29, .sipush (-100004), 2), (31, .ireturn, 1), (32, .iload 1, 1), (33, .sipush (1), 1), (34, .isub, 1), (35, .istore 4, 2), (37, .iload 4, 2), (39, .ifCond .lt 67, 3), (42, .aload 0, 1), (43, .getfield 1000, 3), (46, .lload 2, 1), (47, .sipush (8), 2), (49, .iload 4, 2), (51, .imul, 1), (52, .lushr, 1), (53, .l2i, 1), (54, .sipush (255), 3), (57, .iand, 1), (58, .invokevirtual 2, 3), (61, .iinc 4 (-1), 3), (64, .goto 37, 3), (67, .aload 0, 1), (68, .getfield 1000, 3), (71, .getfield 1, 3), (74, .ireturn, 1)]
/-- ProblemTexts.cut(I)I -/
def cd_82 : List (Nat × Instr × Nat) := [(0, .iload 1, 1), (1, .ifCond .lt 15, 3), (4, .iload 1, 1), (5, .aload 0, 1), (6, .getfield 1000, 3), (9, .getfield 1, 3), (12, .if_icmp .le 18, 3), (15, .sipush (-100002), 2), (17, .ireturn, 1), (18, .aload 0, 1), (19, .getfield 1000, 3), (22, .getfield 1, 3), (25, .iload 1, 1), (26, .isub, 1), (27, .istore 2, 1), (28, .aload 0, 1), (29, .getfield 1000, 3), (32, .iload 1, 1), (33, .putfield 1, 3), (36, .iload 2, 1), (37, .ireturn, 1)]
/-- ProblemTexts.read()I -/
def cd_83 : List (Nat × Instr × Nat) := [(0, .aload 0, 1), (1, .getfield 1002, 3), (4, .aload 0, 1), (5, .getfield 1000, 3), (8, .invokevirtual 65, 3), (11, .aload 0, 1), (12, .getfield 1000, 3), (15, .sipush (0), 1), (16, .putfield 1, 3), (19, .aload 0, 1), (20, .getfield 1003, 3), (23, .aload 0, 1), (24, .getfield 1006, 3), (27, .invokevirtual 32, 3), (30, .ifCond .ne 41, 3), (33, .aload 0, 1), (34, .getfield 1002, 3), (37, .getfield 905, 3), (40, .ireturn, 1), (41, .aload 0, 1), (42, .getfield 1006, 3), (45, .invokevirtual 10, 3), (48, .ifCond .eq 54, 3), (51, .sipush (-100004), 2), (53, .ireturn, 1), (54, .aload 0, 1), (55, .getfield 1005, 3), (58, .astore 1, 1), (59, .aload 0, 1), (60, .aload 0, 1), (61, .getfield 1006, 3), (64, .putfield 1005, 3), (67, .aload 0, 1), (68, .aload 1, 1), (69, .putfield 1006, 3), (72, .aload 0, 1), (73, .getfield 1004, 3), (76, .aload 0, 1), (77, .getfield 1005, 3), (80, .invokevirtual 13, 3), (83, .aload 0, 1), (84, .getfield 1005, 3), (87, .getfield 104, 3), (90, .getfield 805, 3), (93, .ireturn, 1)]
/-- ProblemTexts.name(III)I -/
def cd_84 : List (Nat × Instr × Nat) := [(0, .iload 1, 1), (1, .ifCond .lt 9, 3), (4, .iload 1, 1), (5, .sipush (3), 1), (6, .if_icmp .le 12, 3), (9, .sipush (-100001), 2), (11, .ireturn, 1), (12, .aload 0, 1), (13, .getfield 1005, 3), (16, .getfield 100, 3), (19, .aload 0, 1), (20, .getfield 1005, 3), (23, .getfield 100, 3), (26, .iload 1, 1), (27, .iload 2, 1), (28, .invokevirtual 27, 3), (31, .iload 3, 1), (32, .invokevirtual 28, 3), (35, .istore 4, 2), (37, .iload 4, 2), (39, .sipush (-1), 1), (40, .if_icmp .ne 48, 3), (43, .sipush (-100001), 2), (45, .goto 50, 3), (48, .iload 4, 2), (50, .ireturn, 1)]
/-- ProblemTexts.set(II)I -/
def cd_85 : List (Nat × Instr × Nat) := [(0, .iload 1, 1), (1, .ifCond .lt 18, 3), (4, .iload 1, 1), (5, .aload 0, 1), (6, .getfield 1005, 3), (9, .getfield 101, 3), (12, .getfield 702, 3), (15, .if_icmp .lt 21, 3), (18, .sipush (-100001), 2), (20, .ireturn, 1), (21, .iload 2, 1), (22, .lookupswitch 74 #[(0, 48), (1, 61)], 26), (48, .aload 0, 1), (49, .getfield 1005, 3), (52, .getfield 101, 3), (55, .getfield 701, 3), (58, .iload 1, 1), (59, .iaload, 1), (60, .ireturn, 1), (61, .aload 0, 1), (62, .getfield 1005, 3), (65, .getfield 101, 3), (68, .getfield 700, 3), (71, .iload 1, 1), (72, .iaload, 1), (73, .ireturn, 1), (74, .sipush (-100001), 2), (76, .ireturn, 1)]
/-- ProblemTexts.data(III)I -/
def cd_86 : List (Nat × Instr × Nat) := [(0, .aload 0, 1), (1, .getfield 1005, 3), (4, .getfield 102, 3), (7, .iload 1, 1), (8, .iload 2, 1), (9, .iload 3, 1), (10, .invokevirtual 60, 3), (13, .istore 4, 2), (15, .iload 4, 2), (17, .sipush (-1), 1), (18, .if_icmp .ne 26, 3), (21, .sipush (-100001), 2), (23, .goto 35, 3), (26, .aload 0, 1), (27, .getfield 1005, 3), (30, .iload 4, 2), (32, .invokevirtual 9, 3), (35, .ireturn, 1)]
/-- ProblemTexts.column(III)I -/
def cd_87 : List (Nat × Instr × Nat) := [(0, .aload 0, 1), (1, .getfield 1005, 3), (4, .getfield 103, 3), (7, .iload 1, 1), (8, .iload 2, 1), (9, .iload 3, 1), (10, .invokevirtual 60, 3), (13, .istore 4, 2), (15, .iload 4, 2), (17, .sipush (-1), 1), (18, .if_icmp .ne 26, 3), (21, .sipush (-100001), 2), (23, .goto 28, 3), (26, .iload 4, 2), (28, .ireturn, 1)]
/-- ProblemTexts.about(II)I -/
def cd_88 : List (Nat × Instr × Nat) := [(0, .aload 0, 1), (1, .getfield 1005, 3), (4, .getfield 103, 3), (7, .iload 1, 1), (8, .invokevirtual 61, 3), (11, .istore 3, 1), (12, .iload 3, 1), (13, .sipush (-1), 1), (14, .if_icmp .ne 20, 3), (17, .sipush (-100001), 2), (19, .ireturn, 1), (20, .iload 2, 1), (21, .tableswitch 116 (0) (5) #[60, 62, 74, 86, 96, 106], 39), (60, .iload 3, 1), (61, .ireturn, 1), (62, .aload 0, 1), (63, .getfield 1005, 3), (66, .getfield 103, 3), (69, .iload 1, 1), (70, .invokevirtual 62, 3), (73, .ireturn, 1), (74, .aload 0, 1), (75, .getfield 1005, 3), (78, .getfield 103, 3), (81, .iload 1, 1), (82, .invokevirtual 63, 3), (85, .ireturn, 1), (86, .aload 0, 1), (87, .getfield 1005, 3), (90, .getfield 107, 3), (93, .iload 3, 1), (94, .iaload, 1), (95, .ireturn, 1), (96, .aload 0, 1), (97, .getfield 1005, 3), (100, .getfield 108, 3), (103, .iload 3, 1), (104, .iaload, 1), (105, .ireturn, 1), (106, .aload 0, 1), (107, .getfield 1004, 3), (110, .getfield 305, 3), (113, .iload 1, 1), (114, .iaload, 1), (115, .ireturn, 1), (116, .sipush (-100001), 2), (118, .ireturn, 1)]
/-- ProblemTexts.row(II)I -/
def cd_89 : List (Nat × Instr × Nat) := [(0, .aload 0, 1), (1, .getfield 1005, 3), (4, .getfield 104, 3), (7, .iload 1, 1), (8, .invokevirtual 61, 3), (11, .istore 3, 1), (12, .iload 3, 1), (13, .sipush (-1), 1), (14, .if_icmp .ne 20, 3), (17, .sipush (-100001), 2), (19, .ireturn, 1), (20, .iload 2, 1), (21, .tableswitch 88 (0) (3) #[52, 54, 66, 78], 31), (52, .iload 3, 1), (53, .ireturn, 1), (54, .aload 0, 1), (55, .getfield 1005, 3), (58, .getfield 104, 3), (61, .iload 1, 1), (62, .invokevirtual 62, 3), (65, .ireturn, 1), (66, .aload 0, 1), (67, .getfield 1005, 3), (70, .getfield 104, 3), (73, .iload 1, 1), (74, .invokevirtual 63, 3), (77, .ireturn, 1), (78, .aload 0, 1), (79, .getfield 1005, 3), (82, .getfield 109, 3), (85, .iload 3, 1), (86, .iaload, 1), (87, .ireturn, 1), (88, .sipush (-100001), 2), (90, .ireturn, 1)]
/-- ProblemTexts.factor(II)J -/
def cd_90 : List (Nat × Instr × Nat) := [(0, .aload 0, 1), (1, .iload 1, 1), (2, .invokevirtual 102, 3), (5, .ifCond .eq 30, 3), (8, .aload 0, 1), (9, .iload 2, 1), (10, .invokevirtual 101, 3), (13, .ifCond .eq 30, 3), (16, .aload 0, 1), (17, .getfield 1004, 3), (20, .getfield 301, 3), (23, .iload 1, 1), (24, .aaload, 1), (25, .iload 2, 1), (26, .laload, 1), (27, .goto 33, 3), (30, .jsr_w (-100001), 3), (33, .lreturn, 1)]
/-- ProblemTexts.right(I)J -/
def cd_91 : List (Nat × Instr × Nat) := [(0, .aload 0, 1), (1, .iload 1, 1), (2, .invokevirtual 102, 3), (5, .ifCond .eq 20, 3), (8, .aload 0, 1), (9, .getfield 1004, 3), (12, .getfield 302, 3), (15, .iload 1, 1), (16, .laload, 1), (17, .goto 23, 3), (20, .jsr_w (-100001), 3), (23, .lreturn, 1)]
/-- ProblemTexts.price(I)J -/
def cd_92 : List (Nat × Instr × Nat) := [(0, .iload 1, 1), (1, .sipush (-1), 1), (2, .if_icmp .eq 17, 3), (5, .aload 0, 1), (6, .iload 1, 1), (7, .invokevirtual 101, 3), (10, .ifCond .ne 17, 3), (13, .jsr_w (-100001), 3), (16, .lreturn, 1), (17, .aload 0, 1), (18, .getfield 1005, 3), (21, .getfield 112, 3), (24, .ifCond .ne 31, 3), (27, .jsr_w (-100003), 3), (30, .lreturn, 1), (31, .iload 1, 1), (32, .sipush (-1), 1), (33, .if_icmp .ne 46, 3), (36, .aload 0, 1), (37, .getfield 1004, 3), (40, .getfield 304, 3), (43, .goto 55, 3), (46, .aload 0, 1), (47, .getfield 1004, 3), (50, .getfield 303, 3), (53, .iload 1, 1), (54, .laload, 1), (55, .lreturn, 1)]
/-- ProblemTexts.count(I)I -/
def cd_93 : List (Nat × Instr × Nat) := [(0, .iload 1, 1), (1, .tableswitch 155 (0) (9) #[56, 67, 78, 89, 100, 111, 122, 131, 139, 147], 55), (56, .aload 0, 1), (57, .getfield 1005, 3), (60, .getfield 101, 3), (63, .getfield 702, 3), (66, .ireturn, 1), (67, .aload 0, 1), (68, .getfield 1005, 3), (71, .getfield 102, 3), (74, .getfield 804, 3), (77, .ireturn, 1), (78, .aload 0, 1), (79, .getfield 1005, 3), (82, .getfield 103, 3), (85, .getfield 804, 3), (88, .ireturn, 1), (89, .aload 0, 1), (90, .getfield 1005, 3), (93, .getfield 104, 3), (96, .getfield 804, 3), (99, .ireturn, 1), (100, .aload 0, 1), (101, .getfield 1005, 3), (104, .getfield 103, 3), (107, .getfield 805, 3), (110, .ireturn, 1), (111, .aload 0, 1), (112, .getfield 1005, 3), (115, .getfield 104, 3), (118, .getfield 805, 3), (121, .ireturn, 1), (122, .aload 0, 1), (123, .getfield 1005, 3), (126, .getfield 114, 3), (129, .l2i, 1), (130, .ireturn, 1), (131, .aload 0, 1), (132, .getfield 1005, 3), (135, .getfield 112, 3), (138, .ireturn, 1), (139, .aload 0, 1), (140, .getfield 1000, 3), (143, .getfield 1, 3), (146, .ireturn, 1), (147, .aload 0, 1), (148, .getfield 1001, 3), (151, .getfield 1, 3), (154, .ireturn, 1), (155, .sipush (-100001), 2), (157, .ireturn, 1)]
/-- ProblemTexts.put(II)I -/
def cd_94 : List (Nat × Instr × Nat) := [(0, .aload 0, 1), (1, .getfield 1005, 3), (4, .getfield 103, 3), (7, .iload 1, 1), (8, .invokevirtual 61, 3), (11, .istore 3, 1), (12, .iload 3, 1), (13, .sipush (-1), 1), (14, .if_icmp .ne 20, 3), (17, .sipush (-100001), 2), (19, .ireturn, 1), (20, .iload 2, 1), (21, .aload 0, 1), (22, .getfield 1005, 3), (25, .getfield 107, 3), (28, .iload 3, 1), (29, .iaload, 1), (30, .if_icmp .lt 46, 3), (33, .iload 2, 1), (34, .aload 0, 1), (35, .getfield 1005, 3), (38, .getfield 108, 3), (41, .iload 3, 1), (42, .iaload, 1), (43, .if_icmp .le 49, 3), (46, .sipush (-100002), 2), (48, .ireturn, 1), (49, .aload 0, 1), (50, .getfield 1004, 3), (53, .getfield 305, 3), (56, .iload 1, 1), (57, .iaload, 1), (58, .istore 4, 2), (60, .aload 0, 1), (61, .getfield 1004, 3), (64, .getfield 305, 3), (67, .iload 1, 1), (68, .iload 2, 1), (69, .iastore, 1), (70, .iload 4, 2), (72, .ireturn, 1)]
/-- ProblemTexts.left(I)J -/
def cd_95 : List (Nat × Instr × Nat) := [(0, .aload 0, 1), (1, .iload 1, 1), (2, .invokevirtual 102, 3), (5, .ifCond .eq 27, 3), (8, .aload 0, 1), (9, .getfield 1004, 3), (12, .aload 0, 1), (13, .getfield 1004, 3), (16, .getfield 301, 3), (19, .iload 1, 1), (20, .aaload, 1), (21, .invokevirtual 22, 3), (24, .goto 30, 3), (27, .jsr_w (-100001), 3), (30, .lreturn, 1)]
/-- ProblemTexts.holds(I)I -/
def cd_96 : List (Nat × Instr × Nat) := [(0, .aload 0, 1), (1, .iload 1, 1), (2, .invokevirtual 102, 3), (5, .ifCond .ne 11, 3), (8, .sipush (-100001), 2), (10, .ireturn, 1), (11, .aload 0, 1), (12, .iload 1, 1), (13, .invokevirtual 103, 3), (16, .ifCond .eq 23, 3), (19, .sipush (1), 1), (20, .goto 24, 3), (23, .sipush (0), 1), (24, .ireturn, 1)]
/-- ProblemTexts.broken(I)I -/
def cd_97 : List (Nat × Instr × Nat) := [(0, .iload 1, 1), (1, .ifCond .ge 7, 3), (4, .sipush (-100001), 2), (6, .ireturn, 1), (7, .sipush (0), 1), (8, .istore 2, 1), (9, .sipush (0), 1), (10, .istore 3, 1), (11, .iload 3, 1), (12, .aload 0, 1), (13, .getfield 1005, 3), (16, .getfield 104, 3), (19, .getfield 805, 3), (22, .if_icmp .ge 49, 3), (25, .aload 0, 1), (26, .iload 3, 1), (27, .invokevirtual 103, 3), (30, .ifCond .ne 43, 3), (33, .iload 2, 1), (34, .iload 1, 1), (35, .if_icmp .ne 40, 3), (38, .iload 3, 1), (39, .ireturn, 1), (40, .iinc 2 1, 3), (43, .iinc 3 1, 3), (46, .goto 11, 3), (49, .sipush (-1), 1), (50, .ireturn, 1)]
/-- ProblemTexts.worth()J -/
def cd_98 : List (Nat × Instr × Nat) := [(0, .aload 0, 1), (1, .getfield 1005, 3), (4, .getfield 112, 3), (7, .ifCond .ne 16, 3), (10, .jsr_w (-100003), 3), (13, .goto 38, 3), (16, .aload 0, 1), (17, .getfield 1004, 3), (20, .aload 0, 1), (21, .getfield 1004, 3), (24, .getfield 303, 3), (27, .invokevirtual 22, 3), (30, .aload 0, 1), (31, .getfield 1004, 3), (34, .getfield 304, 3), (37, .ladd, 1), (38, .lreturn, 1)]
/-- ProblemTexts.print(I)I -/
def cd_99 : List (Nat × Instr × Nat) := [(0, .aload 0, 1), (1, .getfield 1005, 3), (4, .getfield 104, 3), (7, .iload 1, 1), (8, .invokevirtual 61, 3), (11, .istore 2, 1), (12, .iload 2, 1), (13, .sipush (-1), 1), (14, .if_icmp .ne 20, 3), (17, .sipush (-100001), 2), (19, .ireturn, 1), (20, .aload 0, 1), (21, .getfield 1001, 3), (24, .sipush (0), 1), (25, .putfield 1, 3), (28, .aload 0, 1), (29, .getfield 1001, 3), (32, .aload 0, 1), (33, .getfield 1005, 3), (36, .getfield 100, 3), (39, .sipush (3), 1), (40, .iload 2, 1), (41, .invokevirtual 27, 3), (44, .invokevirtual 4, 3), (47, .aload 0, 1), (48, .getfield 1001, 3), (51, .jsr 5, 2), (53, .invokevirtual 3, 3), (56, .sipush (1), 1), (57, .istore 3, 1), (58, .sipush (0), 1), (59, .istore 4, 2), (61, .iload 4, 2), (63, .aload 0, 1), (64, .getfield 1005, 3), (67, .getfield 103, 3), (70, .getfield 805, 3), (73, .if_icmp .ge 120, 3), (76, .aload 0, 1), (77, .getfield 1004, 3), (80, .getfield 301, 3), (83, .iload 1, 1), (84, .aaload, 1), (85, .iload 4, 2), (87, .laload, 1), (88, .jsr_w 0, 1), (89, .lcmp, 1), (90, .ifCond .eq 114, 3), (93, .aload 0, 1), (94, .aload 0, 1), (95, .getfield 1004, 3), (98, .getfield 301, 3), (101, .iload 1, 1), (102, .aaload, 1), (103, .iload 4, 2), (105, .laload, 1), (106, .iload 4, 2), (108, .iload 3, 1), (109, .invokevirtual 104, 3), (112, .sipush (0), 1), (113, .istore 3, 1), (114, .iinc 4 1, 3), (117, .goto 61, 3), (120, .iload 3, 1), (121, .ifCond .eq 133, 3), (124, .aload 0, 1), (125, .getfield 1001, 3), (128, .sipush (48), 2), (130, .invokevirtual 2, 3), (133, .aload 0, 1), (134, .getfield 1005, 3), (137, .getfield 109, 3), (140, .iload 2, 1), (141, .iaload, 1), (142, .istore 4, 2), (144, .aload 0, 1), (145, .getfield 1001, 3), (148, .iload 4, 2), (150, .ifCond .ge 158, 3), (153, .jsr 10, 2), (155, .goto 170, 3), (158, .iload 4, 2), (160, .ifCond .ne 168, 3), (163, .jsr 11, 2), (165, .goto 170, 3), (168, .jsr 12, 2), (170, .invokevirtual 3, 3), (173, .aload 0, 1), (174, .aload 0, 1), (175, .getfield 1004, 3), (178, .getfield 302, 3), (181, .iload 1, 1), (182, .laload, 1), (183, .invokevirtual 105, 3), (186, .aload 0, 1), (187, .getfield 1001, 3), (190, .getfield 1, 3), (193, .ireturn, 1)]
/-- ProblemTexts.out(I)I -/
def cd_100 : List (Nat × Instr × Nat) := [(0, .aload 0, 1), (1, .getfield 1001, 3), (4, .iload 1, 1), (5, .invokevirtual 1, 3), (8, .ireturn, 1)]
/-- ProblemTexts.isColumn(I)Z -/
def cd_101 : List (Nat × Instr × Nat) := [(0, .iload 1, 1), (1, .ifCond .lt 22, 3), (4, .iload 1, 1), (5, .aload 0, 1), (6, .getfield 1005, 3), (9, .getfield 103, 3), (12, .getfield 805, 3), (15, .if_icmp .ge 22, 3), (18, .sipush (1), 1), (19, .goto 23, 3), (22, .sipush (0), 1), (23, .ireturn, 1)]
/-- ProblemTexts.isRow(I)Z -/
def cd_102 : List (Nat × Instr × Nat) := [(0, .iload 1, 1), (1, .ifCond .lt 22, 3), (4, .iload 1, 1), (5, .aload 0, 1), (6, .getfield 1005, 3), (9, .getfield 104, 3), (12, .getfield 805, 3), (15, .if_icmp .ge 22, 3), (18, .sipush (1), 1), (19, .goto 23, 3), (22, .sipush (0), 1), (23, .ireturn, 1)]
/-- ProblemTexts.isKept(I)Z -/
def cd_103 : List (Nat × Instr × Nat) := [(0, .aload 0, 1), (1, .getfield 1005, 3), (4, .getfield 104, 3), (7, .iload 1, 1), (8, .invokevirtual 61, 3), (11, .istore 2, 1), (12, .iload 2, 1), (13, .sipush (-1), 1), (14, .if_icmp .ne 21, 3), (17, .sipush (0), 1), (18, .goto 30, 3), (21, .aload 0, 1), (22, .getfield 1005, 3), (25, .getfield 109, 3), (28, .iload 2, 1), (29, .iaload, 1), (30, .istore 3, 1), (31, .aload 0, 1), (32, .getfield 1004, 3), (35, .aload 0, 1), (36, .getfield 1004, 3), (39, .getfield 301, 3), (42, .iload 1, 1), (43, .aaload, 1), (44, .invokevirtual 22, 3), (47, .aload 0, 1), (48, .getfield 1004, 3), (51, .getfield 302, 3), (54, .iload 1, 1), (55, .laload, 1), (56, .invokestatic 188, 3), (59, .istore 4, 2), (61, .iload 4, 2), (63, .ifCond .eq 84, 3), (66, .iload 3, 1), (67, .ifCond .ge 75, 3), (70, .iload 4, 2), (72, .ifCond .lt 84, 3), (75, .iload 3, 1), (76, .ifCond .le 88, 3), (79, .iload 4, 2), (81, .ifCond .le 88, 3), (84, .sipush (1), 1), (85, .goto 89, 3), (88, .sipush (0), 1), (89, .ireturn, 1)]
/-- ProblemTexts.printTerm(JIZ)V -/
def cd_104 : List (Nat × Instr × Nat) := [(0, .iload 4, 2), (2, .ifCond .eq 28, 3), (5, .aload 0, 1), (6, .getfield 1001, 3), (9, .lload 1, 1), (10, .jsr_w 0, 1), (11, .lcmp, 1), (12, .ifCond .ge 20, 3), (15, .jsr 6, 2), (17, .goto 22, 3), (20, .jsr 7, 2), (22, .invokevirtual 3, 3), (25, .goto 48, 3), (28, .aload 0, 1), (29, .getfield 1001, 3), (32, .lload 1, 1), (33, .jsr_w 0, 1), (34, .lcmp, 1), (35, .ifCond .ge 43, 3), (38, .jsr 8, 2), (40, .goto 45, 3), (43, .jsr 9, 2), (45, .invokevirtual 3, 3), (48, .lload 1, 1), (49, .jsr_w 1, 1), (50, .lcmp, 1), (51, .ifCond .eq 79, 3), (54, .lload 1, 1), (55, .jsr_w (-1), 3), (58, .lcmp, 1), (59, .ifCond .eq 79, 3), (62, .aload 0, 1), (63, .getfield 1001, 3), (66, .lload 1, 1), (67, .invokevirtual 5, 3), (70, .aload 0, 1), (71, .getfield 1001, 3), (74, .sipush (42), 2), (76, .invokevirtual 2, 3), (79, .aload 0, 1), (80, .getfield 1001, 3), (83, .aload 0, 1), (84, .getfield 1005, 3), (87, .getfield 100, 3), (90, .sipush (2), 1), (91, .aload 0, 1), (92, .getfield 1005, 3), (95, .getfield 103, 3), (98, .iload 3, 1), (99, .invokevirtual 61, 3), (102, .invokevirtual 27, 3), (105, .invokevirtual 4, 3), (108, .aload 0, 1), (109, .getfield 1005, 3), (112, .getfield 103, 3), (115, .iload 3, 1), (116, .invokevirtual 62, 3), (119, .istore 5, 2), (121, .aload 0, 1), (122, .getfield 1005, 3), (125, .getfield 103, 3), (128, .iload 3, 1), (129, .invokevirtual 63, 3), (132, .istore 6, 2), (134, .iload 5, 2), (136, .sipush (-1), 1), (137, .if_icmp .eq 193, 3), (140, .aload 0, 1), (141, .getfield 1001, 3), (144, .sipush (91), 2), (146, .invokevirtual 2, 3), (149, .aload 0, 1), (150, .getfield 1001, 3), (153, .iload 5, 2), (155, .i2l, 1), (156, .invokevirtual 5, 3), (159, .iload 6, 2), (161, .sipush (-1), 1), (162, .if_icmp .eq 184, 3), (165, .aload 0, 1), (166, .getfield 1001, 3), (169, .sipush (44), 2), (171, .invokevirtual 2, 3), (174, .aload 0, 1), (175, .getfield 1001, 3), (178, .iload 6, 2), (180, .i2l, 1), (181, .invokevirtual 5, 3), (184, .aload 0, 1), (185, .getfield 1001, 3), (188, .sipush (93), 2), (190, .invokevirtual 2, 3), (193, .return_, 1)]
/-- ProblemTexts.printRight(J)V -/
def cd_105 : List (Nat × Instr × Nat) := [(0, .lload 1, 1), (1, .jsr_w 0, 1), (2, .lcmp, 1), (3, .ifCond .ge 15, 3), (6, .aload 0, 1), (7, .getfield 1001, 3), (10, .sipush (45), 2), (12, .invokevirtual 2, 3), (15, .aload 0, 1), (16, .getfield 1001, 3), (19, .lload 1, 1), (20, .invokevirtual 5, 3), (23, .aload 0, 1), (24, .getfield 1001, 3), (27, .sipush (59), 2), (29, .invokevirtual 2, 3), (32, .return_, 1)]
/-- ProblemTextsModel.<init>()V -/
def cd_106 : List (Nat × Instr × Nat) := [(0, .aload 0, 1), (1, .monitorenter, 3), (4, .aload 0, 1), (5, .sipush (400), 3), (8, .newarray .int, 2), (10, .putfield 1100, 3), (13, .aload 0, 1), (14, .sipush (6), 2), (16, .newarray .int, 2), (18, .putfield 1108, 3), (21, .aload 0, 1), (22, .sipush (6), 2), (24, .newarray .int, 2), (26, .putfield 1109, 3), (29, .aload 0, 1), (30, .sipush (6), 2), (32, .newarray .int, 2), (34, .putfield 1110, 3), (37, .aload 0, 1), (38, .sipush (6), 2), (40, .newarray .int, 2), (42, .putfield 1112, 3), (45, .aload 0, 1), (46, .sipush (12), 2), (48, .newarray .int, 2), (50, .putfield 1113, 3), (53, .aload 0, 1), (54, .sipush (384), 3), (57, .newarray .int, 2), (59, .putfield 1114, 3), (62, .aload 0, 1), (63, .sipush (6), 2), (65, .newarray .int, 2), (67, .putfield 1116, 3), (70, .aload 0, 1), (71, .sipush (12), 2), (73, .newarray .int, 2), (75, .putfield 1117, 3), (78, .aload 0, 1), (79, .sipush (6), 2), (81, .newarray .int, 2), (83, .putfield 1118, 3), (86, .aload 0, 1), (87, .sipush (6), 2), (89, .newarray .int, 2), (91, .putfield 1119, 3), (94, .aload 0, 1), (95, .sipush (10), 2), (97, .newarray .int, 2), (99, .putfield 1121, 3), (102, .aload 0, 1), (103, .sipush (20), 2), (105, .newarray .int, 2), (107, .putfield 1122, 3), (110, .aload 0, 1), (111, .sipush (10), 2), (113, .newarray .int, 2), (115, .putfield 1123, 3), (118, .aload 0, 1), (119, .sipush (30), 2), (121, .newarray .int, 2), (123, .putfield 1124, 3), (126, .aload 0, 1), (127, .sipush (10), 2), (129, .newarray .long, 2), (131, .putfield 1125, 3), (134, .aload 0, 1), (135, .sipush (20), 2), (137, .newarray .int, 2), (139, .putfield 1131, 3), (142, .aload 0, 1), (143, .sipush (20), 2), (145, .newarray .int, 2), (147, .putfield 1132, 3), (150, .aload 0, 1), (151, .sipush (2000), 3), (154, .newarray .int, 2), (156, .putfield 1134, 3), (159, .aload 0, 1), (160, .sipush (2000), 3), (163, .newarray .int, 2), (165, .putfield 1135, 3), (168, .aload 0, 1), (169, .sipush (2000), 3), (172, .newarray .int, 2), (174, .putfield 1136, 3), (177, .aload 0, 1), (178, .sipush (2000), 3), (181, .newarray .int, 2), (183, .putfield 1137, 3), (186, .aload 0, 1), (187, .sipush (9), 2), (189, .newarray .boolean, 2), (191, .putfield 1139, 3), (194, .aload 0, 1), (195, .sipush (9), 2), (197, .newarray .int, 2), (199, .putfield 1140, 3), (202, .aload 0, 1), (203, .sipush (9), 2), (205, .newarray .boolean, 2), (207, .putfield 1141, 3), (210, .aload 0, 1), (211, .sipush (9), 2), (213, .newarray .boolean, 2), (215, .putfield 1142, 3), (218, .aload 0, 1), (219, .sipush (9), 2), (221, .newarray .int, 2), (223, .putfield 1143, 3), (226, .aload 0, 1), (227, .sipush (9), 2), (229, .newarray .long, 2), (231, .putfield 1144, 3), (234, .aload 0, 1), (235, .sipush (9), 2), (237, .newarray .int, 2), (239, .putfield 1145, 3), (242, .aload 0, 1), (243, .sipush (9), 2), (245, .newarray .int, 2), (247, .putfield 1146, 3), (250, .aload 0, 1), (251, .sipush (1640), 3), (254, .newarray .long, 2), (256, .putfield 1153, 3), (259, .aload 0, 1), (260, .sipush (20), 2), (262, .newarray .int, 2), (264, .putfield 1155, 3), (267, .aload 0, 1), (268, .sipush (7), 2), (270, .newarray .int, 2), (272, .putfield 1156, 3), (275, .aload 0, 1), (276, .sipush (4), 1), (277, .newarray .int, 2), (279, .putfield 1157, 3), (282, .aload 0, 1), (283, .sipush (40), 2), (285, .newarray .int, 2), (287, .putfield 1158, 3), (290, .aload 0, 1), (291, .sipush (6), 2), (293, .newarray .int, 2), (295, .putfield 1159, 3), (298, .aload 0, 1), (299, .sipush (6), 2), (301, .newarray .int, 2), (303, .putfield 1160, 3), (306, .aload 0, 1), (307, .sipush (12), 2), (309, .newarray .int, 2), (311, .putfield 1161, 3), (314, .aload 0, 1), (315, .sipush (384), 3), (318, .newarray .int, 2), (320, .putfield 1162, 3), (323, .aload 0, 1), (324, .sipush (12), 2), (326, .newarray .int, 2), (328, .putfield 1163, 3), (331, .aload 0, 1), (332, .sipush (7), 2), (334, .newarray .int, 2), (336, .putfield 1164, 3), (339, .aload 0, 1), (340, .sipush (40), 2), (342, .newarray .int, 2), (344, .putfield 1166, 3), (347, .aload 0, 1), (348, .sipush (40), 2), (350, .newarray .int, 2), (352, .putfield 1167, 3), (355, .aload 0, 1), (356, .sipush (40), 2), (358, .newarray .int, 2), (360, .putfield 1168, 3), (363, .aload 0, 1), (364, .sipush (40), 2), (366, .newarray .int, 2), (368, .putfield 1169, 3), (371, .aload 0, 1), (372, .sipush (40), 2), (374, .newarray .int, 2), (376, .putfield 1170, 3), (379, .aload 0, 1), (380, .sipush (40), 2), (382, .newarray .int, 2), (384, .putfield 1171, 3), (387, .aload 0, 1), (388, .sipush (40), 2), (390, .newarray .int, 2), (392, .putfield 1173, 3), (395, .aload 0, 1), (396, .sipush (40), 2), (398, .newarray .int, 2), (400, .putfield 1174, 3), (403, .aload 0, 1), (404, .sipush (40), 2), (406, .newarray .int, 2), (408, .putfield 1175, 3), (411, .aload 0, 1), (412, .sipush (40), 2), (414, .newarray .int, 2), (416, .putfield 1176, 3), (419, .aload 0, 1), (420, .sipush (1640), 3), (423, .newarray .long, 2), (425, .putfield 1177, 3), (428, .aload 0, 1), (429, .sipush (41), 2), (431, .newarray .long, 2), (433, .putfield 1179, 3), (436, .aload 0, 1), (437, .sipush (2400), 3), (440, .newarray .int, 2), (442, .putfield 1182, 3), (445, .aload 0, 1), (446, .sipush (20), 2), (448, .newarray .int, 2), (450, .putfield 1183, 3), (453, .return_, 1)]
/-- ProblemTextsModel.in(JJJ)Z -/
def cd_107 : List (Nat × Instr × Nat) := [(0, .lload 0, 1), (1, .lload 2, 1), (2, .lcmp, 1), (3, .ifCond .lt 17, 3), (6, .lload 0, 1), (7, .lload 4, 2), (9, .lcmp, 1), (10, .ifCond .gt 17, 3), (13, .sipush (1), 1), (14, .goto 18, 3), (17, .sipush (0), 1), (18, .ireturn, 1)]
/-- ProblemTextsModel.feed(IJ)I -/
def cd_108 : List (Nat × Instr × Nat) := [(0, .iload 1, 1), (1, .i2l, 1), (2, .jsr_w 1, 1), (3, .jsr_w (8), 3), (6, .invokestatic 107, 3), (9, .ifCond .ne 15, 3), (12, .sipush (-100002), 2), (14, .ireturn, 1), (15, .aload 0, 1), (16, .getfield 1101, 3), (19, .iload 1, 1), (20, .iadd, 1), (21, .sipush (400), 3), (24, .if_icmp .le 30, 3), (27, .sipush (-100004), 2), (29, .ireturn, 1), (30, .iload 1, 1), (31, .sipush (1), 1), (32, .isub, 1), (33, .istore 4, 2), (35, .iload 4, 2), (37, .ifCond .lt 77, 3), (40, .aload 0, 1), (41, .getfield 1100, 3), (44, .aload 0, 1), (45, .getfield 1101, 3), (48, .lload 2, 1), (49, .sipush (8), 2), (51, .iload 4, 2), (53, .imul, 1), (54, .lshr, 1), (55, .jsr_w (255), 3), (58, .land, 1), (59, .l2i, 1), (60, .iastore, 1), (61, .aload 0, 1), (62, .dup, 1), (63, .getfield 1101, 3), (66, .sipush (1), 1), (67, .iadd, 1), (68, .putfield 1101, 3), (71, .iinc 4 (-1), 3), (74, .goto 35, 3), (77, .aload 0, 1), (78, .getfield 1101, 3), (81, .ireturn, 1)]
/-- ProblemTextsModel.cut(I)I -/
def cd_109 : List (Nat × Instr × Nat) := [(0, .iload 1, 1), (1, .i2l, 1), (2, .jsr_w 0, 1), (3, .aload 0, 1), (4, .getfield 1101, 3), (7, .i2l, 1), (8, .invokestatic 107, 3), (11, .ifCond .ne 17, 3), (14, .sipush (-100002), 2), (16, .ireturn, 1), (17, .aload 0, 1), (18, .getfield 1101, 3), (21, .iload 1, 1), (22, .isub, 1), (23, .istore 2, 1), (24, .aload 0, 1), (25, .iload 1, 1), (26, .putfield 1101, 3), (29, .iload 2, 1), (30, .ireturn, 1)]
/-- ProblemTextsModel.at(I)I -/
def cd_110 : List (Nat × Instr × Nat) := [(0, .iload 1, 1), (1, .aload 0, 1), (2, .getfield 1101, 3), (5, .if_icmp .ge 17, 3), (8, .aload 0, 1), (9, .getfield 1100, 3), (12, .iload 1, 1), (13, .iaload, 1), (14, .goto 18, 3), (17, .sipush (-1), 1), (18, .ireturn, 1)]
/-- ProblemTextsModel.isLetter(I)Z -/
def cd_111 : List (Nat × Instr × Nat) := [(0, .iload 0, 1), (1, .i2l, 1), (2, .jsr_w (97), 3), (5, .jsr_w (122), 3), (8, .invokestatic 107, 3), (11, .ireturn, 1)]
/-- ProblemTextsModel.isDigit(I)Z -/
def cd_112 : List (Nat × Instr × Nat) := [(0, .iload 0, 1), (1, .i2l, 1), (2, .jsr_w (48), 3), (5, .jsr_w (57), 3), (8, .invokestatic 107, 3), (11, .ireturn, 1)]
/-- ProblemTextsModel.letters()V -/
def cd_113 : List (Nat × Instr × Nat) := [(0, .aload 0, 1), (1, .sipush (0), 1), (2, .putfield 1105, 3), (5, .aload 0, 1), (6, .aload 0, 1), (7, .getfield 1104, 3), (10, .invokevirtual 110, 3), (13, .invokestatic 111, 3), (16, .ifCond .eq 75, 3), (19, .aload 0, 1), (20, .aload 0, 1), (21, .getfield 1104, 3), (24, .aload 0, 1), (25, .getfield 1103, 3), (28, .isub, 1), (29, .sipush (5), 1), (30, .if_icmp .ge 55, 3), (33, .sipush (27), 2), (35, .aload 0, 1), (36, .getfield 1105, 3), (39, .imul, 1), (40, .aload 0, 1), (41, .aload 0, 1), (42, .getfield 1104, 3), (45, .invokevirtual 110, 3), (48, .iadd, 1), (49, .sipush (96), 2), (51, .isub, 1), (52, .goto 59, 3), (55, .aload 0, 1), (56, .getfield 1105, 3), (59, .putfield 1105, 3), (62, .aload 0, 1), (63, .dup, 1), (64, .getfield 1104, 3), (67, .sipush (1), 1), (68, .iadd, 1), (69, .putfield 1104, 3), (72, .goto 5, 3), (75, .aload 0, 1), (76, .aload 0, 1), (77, .getfield 1104, 3), (80, .aload 0, 1), (81, .getfield 1103, 3), (84, .isub, 1), (85, .sipush (4), 1), (86, .if_icmp .le 93, 3), (89, .sipush (4), 1), (90, .goto 97, 3), (93, .aload 0, 1), (94, .invokevirtual 115, 3), (97, .putfield 1102, 3), (100, .return_, 1)]
/-- ProblemTextsModel.coded(IIII)I -/
def cd_114 : List (Nat × Instr × Nat) := [(0, .iload 0, 1), (1, .sipush (96), 2), (3, .isub, 1), (4, .istore 4, 2), (6, .iload 1, 1), (7, .ifCond .le 23, 3), (10, .sipush (27), 2), (12, .iload 4, 2), (14, .imul, 1), (15, .iload 1, 1), (16, .iadd, 1), (17, .sipush (96), 2), (19, .isub, 1), (20, .goto 25, 3), (23, .iload 4, 2), (25, .istore 4, 2), (27, .iload 2, 1), (28, .ifCond .le 44, 3), (31, .sipush (27), 2), (33, .iload 4, 2), (35, .imul, 1), (36, .iload 2, 1), (37, .iadd, 1), (38, .sipush (96), 2), (40, .isub, 1), (41, .goto 46, 3), (44, .iload 4, 2), (46, .istore 4, 2), (48, .iload 3, 1), (49, .ifCond .le 65, 3), (52, .sipush (27), 2), (54, .iload 4, 2), (56, .imul, 1), (57, .iload 3, 1), (58, .iadd, 1), (59, .sipush (96), 2), (61, .isub, 1), (62, .goto 67, 3), (65, .iload 4, 2), (67, .ireturn, 1)]
/-- ProblemTextsModel.wordOf()I -/
def cd_115 : List (Nat × Instr × Nat) := [(0, .aload 0, 1), (1, .getfield 1105, 3), (4, .sipush (115), 2), (6, .sipush (101), 2), (8, .sipush (116), 2), (10, .sipush (0), 1), (11, .invokestatic 114, 3), (14, .if_icmp .ne 20, 3), (17, .sipush (10), 2), (19, .ireturn, 1), (20, .aload 0, 1), (21, .getfield 1105, 3), (24, .sipush (100), 2), (26, .sipush (97), 2), (28, .sipush (116), 2), (30, .sipush (97), 2), (32, .invokestatic 114, 3), (35, .if_icmp .ne 41, 3), (38, .sipush (11), 2), (40, .ireturn, 1), (41, .aload 0, 1), (42, .getfield 1105, 3), (45, .sipush (118), 2), (47, .sipush (97), 2), (49, .sipush (114), 2), (51, .sipush (0), 1), (52, .invokestatic 114, 3), (55, .if_icmp .ne 61, 3), (58, .sipush (12), 2), (60, .ireturn, 1), (61, .aload 0, 1), (62, .getfield 1105, 3), (65, .sipush (114), 2), (67, .sipush (117), 2), (69, .sipush (108), 2), (71, .sipush (101), 2), (73, .invokestatic 114, 3), (76, .if_icmp .ne 82, 3), (79, .sipush (13), 2), (81, .ireturn, 1), (82, .aload 0, 1), (83, .getfield 1105, 3), (86, .sipush (103), 2), (88, .sipush (111), 2), (90, .sipush (97), 2), (92, .sipush (108), 2), (94, .invokestatic 114, 3), (97, .if_icmp .ne 103, 3), (100, .sipush (14), 2), (102, .ireturn, 1), (103, .aload 0, 1), (104, .getfield 1105, 3), (107, .sipush (109), 2), (109, .sipush (105), 2), (111, .sipush (110), 2), (113, .sipush (0), 1), (114, .invokestatic 114, 3), (117, .if_icmp .ne 123, 3), (120, .sipush (15), 2), (122, .ireturn, 1), (123, .aload 0, 1), (124, .getfield 1105, 3), (127, .sipush (109), 2), (129, .sipush (97), 2), (131, .sipush (120), 2), (133, .sipush (0), 1), (134, .invokestatic 114, 3), (137, .if_icmp .ne 143, 3), (140, .sipush (16), 2), (142, .ireturn, 1), (143, .aload 0, 1), (144, .getfield 1105, 3), (147, .sipush (115), 2), (149, .sipush (117), 2), (151, .sipush (109), 2), (153, .sipush (0), 1), (154, .invokestatic 114, 3), (157, .if_icmp .ne 163, 3), (160, .sipush (17), 2), (162, .ireturn, 1), (163, .aload 0, 1), (164, .getfield 1105, 3), (167, .sipush (105), 2), (169, .sipush (110), 2), (171, .sipush (0), 1), (172, .sipush (0), 1), (173, .invokestatic 114, 3), (176, .if_icmp .ne 182, 3), (179, .sipush (18), 2), (181, .ireturn, 1), (182, .aload 0, 1), (183, .getfield 1105, 3), (186, .sipush (102), 2), (188, .sipush (111), 2), (190, .sipush (114), 2), (192, .sipush (0), 1), (193, .invokestatic 114, 3), (196, .if_icmp .ne 204, 3), (199, .sipush (19), 2), (201, .goto 205, 3), (204, .sipush (1), 1), (205, .ireturn, 1)]
/-- ProblemTextsModel.digits()V -/
def cd_116 : List (Nat × Instr × Nat) := [(0, .aload 0, 1), (1, .sipush (0), 1), (2, .putfield 1105, 3), (5, .aload 0, 1), (6, .aload 0, 1), (7, .getfield 1104, 3), (10, .invokevirtual 110, 3), (13, .invokestatic 112, 3), (16, .ifCond .eq 75, 3), (19, .aload 0, 1), (20, .aload 0, 1), (21, .getfield 1104, 3), (24, .aload 0, 1), (25, .getfield 1103, 3), (28, .isub, 1), (29, .sipush (4), 1), (30, .if_icmp .ge 55, 3), (33, .sipush (10), 2), (35, .aload 0, 1), (36, .getfield 1105, 3), (39, .imul, 1), (40, .aload 0, 1), (41, .aload 0, 1), (42, .getfield 1104, 3), (45, .invokevirtual 110, 3), (48, .iadd, 1), (49, .sipush (48), 2), (51, .isub, 1), (52, .goto 59, 3), (55, .aload 0, 1), (56, .getfield 1105, 3), (59, .putfield 1105, 3), (62, .aload 0, 1), (63, .dup, 1), (64, .getfield 1104, 3), (67, .sipush (1), 1), (68, .iadd, 1), (69, .putfield 1104, 3), (72, .goto 5, 3), (75, .aload 0, 1), (76, .aload 0, 1), (77, .getfield 1104, 3), (80, .aload 0, 1), (81, .getfield 1103, 3), (84, .isub, 1), (85, .sipush (4), 1), (86, .if_icmp .le 93, 3), (89, .sipush (4), 1), (90, .goto 94, 3), (93, .sipush (2), 1), (94, .putfield 1102, 3), (97, .return_, 1)]
/-- ProblemTextsModel.sign(I)V -/
def cd_117 : List (Nat × Instr × Nat) := [(0, .aload 0, 1), (1, .dup, 1), (2, .getfield 1104, 3), (5, .sipush (1), 1), (6, .iadd, 1), (7, .putfield 1104, 3), (10, .iload 1, 1), (11, .sipush (60), 2), (13, .if_icmp .eq 22, 3), (16, .iload 1, 1), (17, .sipush (62), 2), (19, .if_icmp .ne 69, 3), (22, .aload 0, 1), (23, .aload 0, 1), (24, .aload 0, 1), (25, .getfield 1104, 3), (28, .invokevirtual 110, 3), (31, .sipush (61), 2), (33, .if_icmp .ne 52, 3), (36, .iload 1, 1), (37, .sipush (60), 2), (39, .if_icmp .ne 47, 3), (42, .sipush (20), 2), (44, .goto 53, 3), (47, .sipush (21), 2), (49, .goto 53, 3), (52, .sipush (4), 1), (53, .putfield 1102, 3), (56, .aload 0, 1), (57, .dup, 1), (58, .getfield 1104, 3), (61, .sipush (1), 1), (62, .iadd, 1), (63, .putfield 1104, 3), (66, .goto 199, 3), (69, .iload 1, 1), (70, .sipush (46), 2), (72, .if_icmp .ne 111, 3), (75, .aload 0, 1), (76, .aload 0, 1), (77, .aload 0, 1), (78, .getfield 1104, 3), (81, .invokevirtual 110, 3), (84, .sipush (46), 2), (86, .if_icmp .ne 94, 3), (89, .sipush (22), 2), (91, .goto 95, 3), (94, .sipush (4), 1), (95, .putfield 1102, 3), (98, .aload 0, 1), (99, .dup, 1), (100, .getfield 1104, 3), (103, .sipush (1), 1), (104, .iadd, 1), (105, .putfield 1104, 3), (108, .goto 199, 3), (111, .iload 1, 1), (112, .sipush (61), 2), (114, .if_icmp .eq 177, 3), (117, .iload 1, 1), (118, .sipush (43), 2), (120, .if_icmp .eq 177, 3), (123, .iload 1, 1), (124, .sipush (45), 2), (126, .if_icmp .eq 177, 3), (129, .iload 1, 1), (130, .sipush (42), 2), (132, .if_icmp .eq 177, 3), (135, .iload 1, 1), (136, .sipush (40), 2), (138, .if_icmp .eq 177, 3), (141, .iload 1, 1), (142, .sipush (41), 2), (144, .if_icmp .eq 177, 3), (147, .iload 1, 1), (148, .sipush (91), 2), (150, .if_icmp .eq 177, 3), (153, .iload 1, 1), (154, .sipush (93), 2), (156, .if_icmp .eq 177, 3), (159, .iload 1, 1), (160, .sipush (44), 2), (162, .if_icmp .eq 177, 3), (165, .iload 1, 1), (166, .sipush (59), 2), (168, .if_icmp .eq 177, 3), (171, .iload 1, 1), (172, .sipush (58), 2), (174, .if_icmp .ne 181, 3), (177, .sipush (1), 1), (178, .goto 182, 3), (181, .sipush (0), 1), (182, .istore 2, 1), (183, .aload 0, 1), (184, .iload 2, 1), (185, .ifCond .eq 195, 3), (188, .sipush (100), 2), (190, .iload 1, 1), (191, .iadd, 1), (192, .goto 196, 3), (195, .sipush (4), 1), (196, .putfield 1102, 3), (199, .return_, 1)]
/-- ProblemTextsModel.take()V -/
def cd_118 : List (Nat × Instr × Nat) := [(0, .aload 0, 1), (1, .aload 0, 1), (2, .getfield 1104, 3), (5, .invokevirtual 110, 3), (8, .sipush (32), 2), (10, .if_icmp .eq 26, 3), (13, .aload 0, 1), (14, .aload 0, 1), (15, .getfield 1104, 3), (18, .invokevirtual 110, 3), (21, .sipush (10), 2), (23, .if_icmp .ne 39, 3), (26, .aload 0, 1), (27, .dup, 1), (28, .getfield 1104, 3), (31, .sipush (1), 1), (32, .iadd, 1), (33, .putfield 1104, 3), (36, .goto 0, 3), (39, .aload 0, 1), (40, .aload 0, 1), (41, .getfield 1104, 3), (44, .putfield 1103, 3), (47, .aload 0, 1), (48, .aload 0, 1), (49, .getfield 1104, 3), (52, .invokevirtual 110, 3), (55, .istore 1, 1), (56, .iload 1, 1), (57, .sipush (-1), 1), (58, .if_icmp .ne 69, 3), (61, .aload 0, 1), (62, .sipush (3), 1), (63, .putfield 1102, 3), (66, .goto 102, 3), (69, .iload 1, 1), (70, .invokestatic 111, 3), (73, .ifCond .eq 83, 3), (76, .aload 0, 1), (77, .invokevirtual 113, 3), (80, .goto 102, 3), (83, .iload 1, 1), (84, .invokestatic 112, 3), (87, .ifCond .eq 97, 3), (90, .aload 0, 1), (91, .invokevirtual 116, 3), (94, .goto 102, 3), (97, .aload 0, 1), (98, .iload 1, 1), (99, .invokevirtual 117, 3), (102, .return_, 1)]
/-- ProblemTextsModel.fails(I)V -/
def cd_119 : List (Nat × Instr × Nat) := [(0, .aload 0, 1), (1, .aload 0, 1), (2, .getfield 1106, 3), (5, .sipush (-1), 1), (6, .if_icmp .ne 13, 3), (9, .iload 1, 1), (10, .goto 17, 3), (13, .aload 0, 1), (14, .getfield 1106, 3), (17, .putfield 1106, 3), (20, .return_, 1)]
/-- ProblemTextsModel.is(I)Z -/
def cd_120 : List (Nat × Instr × Nat) := [(0, .aload 0, 1), (1, .getfield 1106, 3), (4, .sipush (-1), 1), (5, .if_icmp .eq 10, 3), (8, .sipush (0), 1), (9, .ireturn, 1), (10, .aload 0, 1), (11, .getfield 1102, 3), (14, .iload 1, 1), (15, .if_icmp .eq 28, 3), (18, .aload 0, 1), (19, .aload 0, 1), (20, .getfield 1103, 3), (23, .invokevirtual 119, 3), (26, .sipush (0), 1), (27, .ireturn, 1), (28, .aload 0, 1), (29, .invokevirtual 118, 3), (32, .sipush (1), 1), (33, .ireturn, 1)]
/-- ProblemTextsModel.isSign(I)Z -/
def cd_121 : List (Nat × Instr × Nat) := [(0, .aload 0, 1), (1, .sipush (100), 2), (3, .iload 1, 1), (4, .iadd, 1), (5, .invokevirtual 120, 3), (8, .ireturn, 1)]
/-- ProblemTextsModel.goesOn()Z -/
def cd_122 : List (Nat × Instr × Nat) := [(0, .aload 0, 1), (1, .getfield 1106, 3), (4, .sipush (-1), 1), (5, .if_icmp .ne 12, 3), (8, .sipush (1), 1), (9, .goto 13, 3), (12, .sipush (0), 1), (13, .ireturn, 1)]
/-- ProblemTextsModel.find([III)I -/
def cd_123 : List (Nat × Instr × Nat) := [(0, .sipush (0), 1), (1, .istore 3, 1), (2, .iload 3, 1), (3, .iload 1, 1), (4, .if_icmp .ge 22, 3), (7, .aload 0, 1), (8, .iload 3, 1), (9, .iaload, 1), (10, .iload 2, 1), (11, .if_icmp .ne 16, 3), (14, .iload 3, 1), (15, .ireturn, 1), (16, .iinc 3 1, 3), (19, .goto 2, 3), (22, .sipush (-1), 1), (23, .ireturn, 1)]
/-- ProblemTextsModel.newName()I -/
def cd_124 : List (Nat × Instr × Nat) := [(0, .aload 0, 1), (1, .getfield 1105, 3), (4, .istore 1, 1), (5, .aload 0, 1), (6, .invokevirtual 122, 3), (9, .ifCond .eq 103, 3), (12, .aload 0, 1), (13, .getfield 1102, 3), (16, .sipush (1), 1), (17, .if_icmp .ne 103, 3), (20, .aload 0, 1), (21, .getfield 1108, 3), (24, .aload 0, 1), (25, .getfield 1107, 3), (28, .iload 1, 1), (29, .invokestatic 123, 3), (32, .ifCond .ge 95, 3), (35, .aload 0, 1), (36, .getfield 1112, 3), (39, .aload 0, 1), (40, .getfield 1111, 3), (43, .iload 1, 1), (44, .invokestatic 123, 3), (47, .ifCond .ge 95, 3), (50, .aload 0, 1), (51, .getfield 1116, 3), (54, .aload 0, 1), (55, .getfield 1115, 3), (58, .iload 1, 1), (59, .invokestatic 123, 3), (62, .ifCond .ge 95, 3), (65, .aload 0, 1), (66, .getfield 1121, 3), (69, .aload 0, 1), (70, .getfield 1120, 3), (73, .iload 1, 1), (74, .invokestatic 123, 3), (77, .ifCond .ge 95, 3), (80, .aload 0, 1), (81, .getfield 1131, 3), (84, .aload 0, 1), (85, .getfield 1130, 3), (88, .iload 1, 1), (89, .invokestatic 123, 3), (92, .ifCond .lt 103, 3), (95, .aload 0, 1), (96, .aload 0, 1), (97, .getfield 1103, 3), (100, .invokevirtual 119, 3), (103, .aload 0, 1), (104, .sipush (1), 1), (105, .invokevirtual 120, 3), (108, .ifCond .eq 115, 3), (111, .iload 1, 1), (112, .goto 116, 3), (115, .sipush (-1), 1), (116, .ireturn, 1)]
/-- ProblemTextsModel.setNamed()I -/
def cd_125 : List (Nat × Instr × Nat) := [(0, .aload 0, 1), (1, .getfield 1102, 3), (4, .sipush (1), 1), (5, .if_icmp .ne 26, 3), (8, .aload 0, 1), (9, .getfield 1108, 3), (12, .aload 0, 1), (13, .getfield 1107, 3), (16, .aload 0, 1), (17, .getfield 1105, 3), (20, .invokestatic 123, 3), (23, .goto 27, 3), (26, .sipush (-1), 1), (27, .istore 1, 1), (28, .iload 1, 1), (29, .sipush (-1), 1), (30, .if_icmp .ne 41, 3), (33, .aload 0, 1), (34, .aload 0, 1), (35, .getfield 1103, 3), (38, .invokevirtual 119, 3), (41, .aload 0, 1), (42, .sipush (1), 1), (43, .invokevirtual 120, 3), (46, .ifCond .eq 53, 3), (49, .iload 1, 1), (50, .goto 54, 3), (53, .sipush (-1), 1), (54, .ireturn, 1)]
/-- ProblemTextsModel.of([II)V -/
def cd_126 : List (Nat × Instr × Nat) := [(0, .aload 1, 1), (1, .iload 2, 1), (2, .sipush (-1), 1), (3, .iastore, 1), (4, .aload 1, 1), (5, .iload 2, 1), (6, .sipush (1), 1), (7, .iadd, 1), (8, .sipush (-1), 1), (9, .iastore, 1), (10, .aload 0, 1), (11, .invokevirtual 122, 3), (14, .ifCond .eq 75, 3), (17, .aload 0, 1), (18, .getfield 1102, 3), (21, .sipush (191), 3), (24, .if_icmp .ne 75, 3), (27, .aload 0, 1), (28, .invokevirtual 118, 3), (31, .aload 1, 1), (32, .iload 2, 1), (33, .aload 0, 1), (34, .invokevirtual 125, 3), (37, .iastore, 1), (38, .aload 0, 1), (39, .invokevirtual 122, 3), (42, .ifCond .eq 68, 3), (45, .aload 0, 1), (46, .getfield 1102, 3), (49, .sipush (144), 3), (52, .if_icmp .ne 68, 3), (55, .aload 0, 1), (56, .invokevirtual 118, 3), (59, .aload 1, 1), (60, .iload 2, 1), (61, .sipush (1), 1), (62, .iadd, 1), (63, .aload 0, 1), (64, .invokevirtual 125, 3), (67, .iastore, 1), (68, .aload 0, 1), (69, .sipush (93), 2), (71, .invokevirtual 121, 3), (74, .pop, 1), (75, .return_, 1)]
/-- ProblemTextsModel.manyOf(I)I -/
def cd_127 : List (Nat × Instr × Nat) := [(0, .iload 1, 1), (1, .sipush (-1), 1), (2, .if_icmp .ne 9, 3), (5, .sipush (1), 1), (6, .goto 15, 3), (9, .aload 0, 1), (10, .getfield 1110, 3), (13, .iload 1, 1), (14, .iaload, 1), (15, .ireturn, 1)]
/-- ProblemTextsModel.value()I -/
def cd_128 : List (Nat × Instr × Nat) := [(0, .sipush (1), 1), (1, .istore 1, 1), (2, .aload 0, 1), (3, .invokevirtual 122, 3), (6, .ifCond .eq 25, 3), (9, .aload 0, 1), (10, .getfield 1102, 3), (13, .sipush (145), 3), (16, .if_icmp .ne 25, 3), (19, .aload 0, 1), (20, .invokevirtual 118, 3), (23, .sipush (-1), 1), (24, .istore 1, 1), (25, .iload 1, 1), (26, .aload 0, 1), (27, .getfield 1105, 3), (30, .imul, 1), (31, .istore 2, 1), (32, .aload 0, 1), (33, .sipush (2), 1), (34, .invokevirtual 120, 3), (37, .ifCond .eq 44, 3), (40, .iload 2, 1), (41, .goto 45, 3), (44, .sipush (0), 1), (45, .ireturn, 1)]
/-- ProblemTextsModel.setTold()V -/
def cd_129 : List (Nat × Instr × Nat) := [(0, .aload 0, 1), (1, .invokevirtual 118, 3), (4, .aload 0, 1), (5, .getfield 1107, 3), (8, .sipush (6), 2), (10, .if_icmp .ne 21, 3), (13, .aload 0, 1), (14, .aload 0, 1), (15, .getfield 1103, 3), (18, .invokevirtual 119, 3), (21, .aload 0, 1), (22, .invokevirtual 124, 3), (25, .istore 1, 1), (26, .aload 0, 1), (27, .sipush (61), 2), (29, .invokevirtual 121, 3), (32, .pop, 1), (33, .aload 0, 1), (34, .getfield 1105, 3), (37, .istore 2, 1), (38, .aload 0, 1), (39, .sipush (2), 1), (40, .invokevirtual 120, 3), (43, .pop, 1), (44, .aload 0, 1), (45, .sipush (22), 2), (47, .invokevirtual 120, 3), (50, .pop, 1), (51, .aload 0, 1), (52, .invokevirtual 122, 3), (55, .ifCond .eq 97, 3), (58, .aload 0, 1), (59, .getfield 1102, 3), (62, .sipush (2), 1), (63, .if_icmp .ne 97, 3), (66, .aload 0, 1), (67, .getfield 1105, 3), (70, .iload 2, 1), (71, .sipush (1), 1), (72, .isub, 1), (73, .if_icmp .lt 89, 3), (76, .aload 0, 1), (77, .getfield 1105, 3), (80, .iload 2, 1), (81, .isub, 1), (82, .sipush (1), 1), (83, .iadd, 1), (84, .sipush (8), 2), (86, .if_icmp .le 97, 3), (89, .aload 0, 1), (90, .aload 0, 1), (91, .getfield 1103, 3), (94, .invokevirtual 119, 3), (97, .aload 0, 1), (98, .getfield 1105, 3), (101, .istore 3, 1), (102, .aload 0, 1), (103, .sipush (2), 1), (104, .invokevirtual 120, 3), (107, .pop, 1), (108, .aload 0, 1), (109, .sipush (59), 2), (111, .invokevirtual 121, 3), (114, .ifCond .eq 161, 3), (117, .aload 0, 1), (118, .getfield 1108, 3), (121, .aload 0, 1), (122, .getfield 1107, 3), (125, .iload 1, 1), (126, .iastore, 1), (127, .aload 0, 1), (128, .getfield 1109, 3), (131, .aload 0, 1), (132, .getfield 1107, 3), (135, .iload 2, 1), (136, .iastore, 1), (137, .aload 0, 1), (138, .getfield 1110, 3), (141, .aload 0, 1), (142, .getfield 1107, 3), (145, .iload 3, 1), (146, .iload 2, 1), (147, .isub, 1), (148, .sipush (1), 1), (149, .iadd, 1), (150, .iastore, 1), (151, .aload 0, 1), (152, .dup, 1), (153, .getfield 1107, 3), (156, .sipush (1), 1), (157, .iadd, 1), (158, .putfield 1107, 3), (161, .return_, 1)]
/-- ProblemTextsModel.dataTold()V -/
def cd_130 : List (Nat × Instr × Nat) := [(0, .aload 0, 1), (1, .invokevirtual 118, 3), (4, .aload 0, 1), (5, .getfield 1111, 3), (8, .sipush (6), 2), (10, .if_icmp .ne 21, 3), (13, .aload 0, 1), (14, .aload 0, 1), (15, .getfield 1103, 3), (18, .invokevirtual 119, 3), (21, .aload 0, 1), (22, .invokevirtual 124, 3), (25, .istore 1, 1), (26, .aload 0, 1), (27, .aload 0, 1), (28, .getfield 1113, 3), (31, .aload 0, 1), (32, .invokevirtual 122, 3), (35, .ifCond .eq 47, 3), (38, .sipush (2), 1), (39, .aload 0, 1), (40, .getfield 1111, 3), (43, .imul, 1), (44, .goto 48, 3), (47, .sipush (0), 1), (48, .invokevirtual 126, 3), (51, .aload 0, 1), (52, .sipush (61), 2), (54, .invokevirtual 121, 3), (57, .pop, 1), (58, .aload 0, 1), (59, .invokevirtual 122, 3), (62, .ifCond .ne 66, 3), (65, .return_, 1), (66, .aload 0, 1), (67, .aload 0, 1), (68, .getfield 1113, 3), (71, .sipush (2), 1), (72, .aload 0, 1), (73, .getfield 1111, 3), (76, .imul, 1), (77, .iaload, 1), (78, .invokevirtual 127, 3), (81, .aload 0, 1), (82, .aload 0, 1), (83, .getfield 1113, 3), (86, .sipush (2), 1), (87, .aload 0, 1), (88, .getfield 1111, 3), (91, .imul, 1), (92, .sipush (1), 1), (93, .iadd, 1), (94, .iaload, 1), (95, .invokevirtual 127, 3), (98, .imul, 1), (99, .istore 2, 1), (100, .sipush (0), 1), (101, .istore 3, 1), (102, .iload 3, 1), (103, .iload 2, 1), (104, .if_icmp .ge 138, 3), (107, .aload 0, 1), (108, .invokevirtual 122, 3), (111, .ifCond .eq 138, 3), (114, .aload 0, 1), (115, .getfield 1114, 3), (118, .sipush (64), 2), (120, .aload 0, 1), (121, .getfield 1111, 3), (124, .imul, 1), (125, .iload 3, 1), (126, .iadd, 1), (127, .aload 0, 1), (128, .invokevirtual 128, 3), (131, .iastore, 1), (132, .iinc 3 1, 3), (135, .goto 102, 3), (138, .aload 0, 1), (139, .sipush (59), 2), (141, .invokevirtual 121, 3), (144, .ifCond .eq 167, 3), (147, .aload 0, 1), (148, .getfield 1112, 3), (151, .aload 0, 1), (152, .getfield 1111, 3), (155, .iload 1, 1), (156, .iastore, 1), (157, .aload 0, 1), (158, .dup, 1), (159, .getfield 1111, 3), (162, .sipush (1), 1), (163, .iadd, 1), (164, .putfield 1111, 3), (167, .return_, 1)]
/-- ProblemTextsModel.varTold()V -/
def cd_131 : List (Nat × Instr × Nat) := [(0, .aload 0, 1), (1, .invokevirtual 118, 3), (4, .aload 0, 1), (5, .getfield 1115, 3), (8, .sipush (6), 2), (10, .if_icmp .ne 21, 3), (13, .aload 0, 1), (14, .aload 0, 1), (15, .getfield 1103, 3), (18, .invokevirtual 119, 3), (21, .aload 0, 1), (22, .invokevirtual 124, 3), (25, .istore 1, 1), (26, .aload 0, 1), (27, .aload 0, 1), (28, .getfield 1117, 3), (31, .aload 0, 1), (32, .invokevirtual 122, 3), (35, .ifCond .eq 47, 3), (38, .sipush (2), 1), (39, .aload 0, 1), (40, .getfield 1115, 3), (43, .imul, 1), (44, .goto 48, 3), (47, .sipush (0), 1), (48, .invokevirtual 126, 3), (51, .aload 0, 1), (52, .sipush (18), 2), (54, .invokevirtual 120, 3), (57, .pop, 1), (58, .aload 0, 1), (59, .invokevirtual 128, 3), (62, .istore 2, 1), (63, .aload 0, 1), (64, .sipush (22), 2), (66, .invokevirtual 120, 3), (69, .pop, 1), (70, .aload 0, 1), (71, .getfield 1103, 3), (74, .istore 3, 1), (75, .aload 0, 1), (76, .invokevirtual 128, 3), (79, .istore 4, 2), (81, .aload 0, 1), (82, .invokevirtual 122, 3), (85, .ifCond .eq 99, 3), (88, .iload 4, 2), (90, .iload 2, 1), (91, .if_icmp .ge 99, 3), (94, .aload 0, 1), (95, .iload 3, 1), (96, .invokevirtual 119, 3), (99, .aload 0, 1), (100, .sipush (59), 2), (102, .invokevirtual 121, 3), (105, .ifCond .eq 149, 3), (108, .aload 0, 1), (109, .getfield 1116, 3), (112, .aload 0, 1), (113, .getfield 1115, 3), (116, .iload 1, 1), (117, .iastore, 1), (118, .aload 0, 1), (119, .getfield 1118, 3), (122, .aload 0, 1), (123, .getfield 1115, 3), (126, .iload 2, 1), (127, .iastore, 1), (128, .aload 0, 1), (129, .getfield 1119, 3), (132, .aload 0, 1), (133, .getfield 1115, 3), (136, .iload 4, 2), (138, .iastore, 1), (139, .aload 0, 1), (140, .dup, 1), (141, .getfield 1115, 3), (144, .sipush (1), 1), (145, .iadd, 1), (146, .putfield 1115, 3), (149, .return_, 1)]
/-- ProblemTextsModel.indices()I -/
def cd_132 : List (Nat × Instr × Nat) := [(0, .sipush (0), 1), (1, .istore 1, 1), (2, .sipush (1), 1), (3, .istore 2, 1), (4, .iload 2, 1), (5, .ifCond .eq 101, 3), (8, .aload 0, 1), (9, .invokevirtual 124, 3), (12, .istore 3, 1), (13, .aload 0, 1), (14, .sipush (18), 2), (16, .invokevirtual 120, 3), (19, .pop, 1), (20, .aload 0, 1), (21, .invokevirtual 125, 3), (24, .istore 4, 2), (26, .aload 0, 1), (27, .invokevirtual 122, 3), (30, .ifCond .ne 35, 3), (33, .iload 1, 1), (34, .ireturn, 1), (35, .aload 0, 1), (36, .getfield 1131, 3), (39, .aload 0, 1), (40, .getfield 1130, 3), (43, .iload 3, 1), (44, .iastore, 1), (45, .aload 0, 1), (46, .getfield 1132, 3), (49, .aload 0, 1), (50, .getfield 1130, 3), (53, .iload 4, 2), (55, .iastore, 1), (56, .aload 0, 1), (57, .dup, 1), (58, .getfield 1130, 3), (61, .sipush (1), 1), (62, .iadd, 1), (63, .putfield 1130, 3), (66, .iinc 1 1, 3), (69, .iload 1, 1), (70, .sipush (2), 1), (71, .if_icmp .ge 88, 3), (74, .aload 0, 1), (75, .getfield 1102, 3), (78, .sipush (144), 3), (81, .if_icmp .ne 88, 3), (84, .sipush (1), 1), (85, .goto 89, 3), (88, .sipush (0), 1), (89, .istore 2, 1), (90, .iload 2, 1), (91, .ifCond .eq 98, 3), (94, .aload 0, 1), (95, .invokevirtual 118, 3), (98, .goto 4, 3), (101, .iload 1, 1), (102, .ireturn, 1)]
/-- ProblemTextsModel.ruleTold()V -/
def cd_133 : List (Nat × Instr × Nat) := [(0, .aload 0, 1), (1, .invokevirtual 118, 3), (4, .aload 0, 1), (5, .getfield 1120, 3), (8, .sipush (10), 2), (10, .if_icmp .ne 21, 3), (13, .aload 0, 1), (14, .aload 0, 1), (15, .getfield 1103, 3), (18, .invokevirtual 119, 3), (21, .aload 0, 1), (22, .invokevirtual 124, 3), (25, .istore 1, 1), (26, .aload 0, 1), (27, .invokevirtual 122, 3), (30, .ifCond .ne 34, 3), (33, .return_, 1), (34, .aload 0, 1), (35, .getfield 1120, 3), (38, .istore 2, 1), (39, .aload 0, 1), (40, .getfield 1121, 3), (43, .iload 2, 1), (44, .iload 1, 1), (45, .iastore, 1), (46, .aload 0, 1), (47, .dup, 1), (48, .getfield 1120, 3), (51, .sipush (1), 1), (52, .iadd, 1), (53, .putfield 1120, 3), (56, .aload 0, 1), (57, .sipush (0), 1), (58, .putfield 1130, 3), (61, .aload 0, 1), (62, .getfield 1122, 3), (65, .sipush (2), 1), (66, .iload 2, 1), (67, .imul, 1), (68, .sipush (-1), 1), (69, .iastore, 1), (70, .aload 0, 1), (71, .getfield 1122, 3), (74, .sipush (2), 1), (75, .iload 2, 1), (76, .imul, 1), (77, .sipush (1), 1), (78, .iadd, 1), (79, .sipush (-1), 1), (80, .iastore, 1), (81, .aload 0, 1), (82, .getfield 1102, 3), (85, .sipush (19), 2), (87, .if_icmp .ne 132, 3), (90, .aload 0, 1), (91, .invokevirtual 118, 3), (94, .aload 0, 1), (95, .invokevirtual 132, 3), (98, .istore 3, 1), (99, .sipush (0), 1), (100, .istore 4, 2), (102, .iload 4, 2), (104, .iload 3, 1), (105, .if_icmp .ge 132, 3), (108, .aload 0, 1), (109, .getfield 1122, 3), (112, .sipush (2), 1), (113, .iload 2, 1), (114, .imul, 1), (115, .iload 4, 2), (117, .iadd, 1), (118, .aload 0, 1), (119, .getfield 1132, 3), (122, .iload 4, 2), (124, .iaload, 1), (125, .iastore, 1), (126, .iinc 4 1, 3), (129, .goto 102, 3), (132, .aload 0, 1), (133, .sipush (58), 2), (135, .invokevirtual 121, 3), (138, .pop, 1), (139, .aload 0, 1), (140, .getfield 1124, 3), (143, .sipush (3), 1), (144, .iload 2, 1), (145, .imul, 1), (146, .aload 0, 1), (147, .getfield 1133, 3), (150, .iastore, 1), (151, .aload 0, 1), (152, .invokevirtual 139, 3), (155, .lstore 3, 1), (156, .aload 0, 1), (157, .getfield 1124, 3), (160, .sipush (3), 1), (161, .iload 2, 1), (162, .imul, 1), (163, .sipush (1), 1), (164, .iadd, 1), (165, .aload 0, 1), (166, .getfield 1133, 3), (169, .iastore, 1), (170, .aload 0, 1), (171, .getfield 1123, 3), (174, .iload 2, 1), (175, .aload 0, 1), (176, .getfield 1102, 3), (179, .sipush (20), 2), (181, .if_icmp .ne 188, 3), (184, .sipush (-1), 1), (185, .goto 202, 3), (188, .aload 0, 1), (189, .getfield 1102, 3), (192, .sipush (21), 2), (194, .if_icmp .ne 201, 3), (197, .sipush (1), 1), (198, .goto 202, 3), (201, .sipush (0), 1), (202, .iastore, 1), (203, .aload 0, 1), (204, .invokevirtual 122, 3), (207, .ifCond .eq 246, 3), (210, .aload 0, 1), (211, .getfield 1102, 3), (214, .sipush (20), 2), (216, .if_icmp .eq 246, 3), (219, .aload 0, 1), (220, .getfield 1102, 3), (223, .sipush (21), 2), (225, .if_icmp .eq 246, 3), (228, .aload 0, 1), (229, .getfield 1102, 3), (232, .sipush (161), 3), (235, .if_icmp .eq 246, 3), (238, .aload 0, 1), (239, .aload 0, 1), (240, .getfield 1103, 3), (243, .invokevirtual 119, 3), (246, .aload 0, 1), (247, .invokevirtual 122, 3), (250, .ifCond .eq 257, 3), (253, .aload 0, 1), (254, .invokevirtual 118, 3), (257, .lload 3, 1), (258, .aload 0, 1), (259, .invokevirtual 139, 3), (262, .ladd, 1), (263, .lstore 3, 1), (264, .aload 0, 1), (265, .getfield 1124, 3), (268, .sipush (3), 1), (269, .iload 2, 1), (270, .imul, 1), (271, .sipush (2), 1), (272, .iadd, 1), (273, .aload 0, 1), (274, .getfield 1133, 3), (277, .iastore, 1), (278, .aload 0, 1), (279, .getfield 1125, 3), (282, .iload 2, 1), (283, .lload 3, 1), (284, .lastore, 1), (285, .aload 0, 1), (286, .sipush (59), 2), (288, .invokevirtual 121, 3), (291, .pop, 1), (292, .aload 0, 1), (293, .sipush (0), 1), (294, .putfield 1130, 3), (297, .return_, 1)]
/-- ProblemTextsModel.goalTold()V -/
def cd_134 : List (Nat × Instr × Nat) := [(0, .aload 0, 1), (1, .getfield 1126, 3), (4, .ifCond .le 16, 3), (7, .aload 0, 1), (8, .aload 0, 1), (9, .getfield 1103, 3), (12, .invokevirtual 119, 3), (15, .return_, 1), (16, .aload 0, 1), (17, .invokevirtual 118, 3), (20, .aload 0, 1), (21, .getfield 1102, 3), (24, .sipush (15), 2), (26, .if_icmp .eq 47, 3), (29, .aload 0, 1), (30, .getfield 1102, 3), (33, .sipush (16), 2), (35, .if_icmp .eq 47, 3), (38, .aload 0, 1), (39, .aload 0, 1), (40, .getfield 1103, 3), (43, .invokevirtual 119, 3), (46, .return_, 1), (47, .aload 0, 1), (48, .aload 0, 1), (49, .getfield 1102, 3), (52, .sipush (15), 2), (54, .if_icmp .ne 61, 3), (57, .sipush (1), 1), (58, .goto 62, 3), (61, .sipush (2), 1), (62, .putfield 1126, 3), (65, .aload 0, 1), (66, .invokevirtual 118, 3), (69, .aload 0, 1), (70, .sipush (0), 1), (71, .putfield 1130, 3), (74, .aload 0, 1), (75, .aload 0, 1), (76, .getfield 1133, 3), (79, .putfield 1127, 3), (82, .aload 0, 1), (83, .aload 0, 1), (84, .invokevirtual 139, 3), (87, .putfield 1129, 3), (90, .aload 0, 1), (91, .aload 0, 1), (92, .getfield 1133, 3), (95, .putfield 1128, 3), (98, .aload 0, 1), (99, .sipush (59), 2), (101, .invokevirtual 121, 3), (104, .pop, 1), (105, .return_, 1)]
/-- ProblemTextsModel.readAll()V -/
def cd_135 : List (Nat × Instr × Nat) := [(0, .aload 0, 1), (1, .sipush (0), 1), (2, .putfield 1107, 3), (5, .aload 0, 1), (6, .sipush (0), 1), (7, .putfield 1111, 3), (10, .aload 0, 1), (11, .sipush (0), 1), (12, .putfield 1115, 3), (15, .aload 0, 1), (16, .sipush (0), 1), (17, .putfield 1120, 3), (20, .aload 0, 1), (21, .sipush (0), 1), (22, .putfield 1126, 3), (25, .aload 0, 1), (26, .sipush (0), 1), (27, .putfield 1130, 3), (30, .aload 0, 1), (31, .sipush (0), 1), (32, .putfield 1133, 3), (35, .aload 0, 1), (36, .sipush (-1), 1), (37, .putfield 1106, 3), (40, .aload 0, 1), (41, .sipush (0), 1), (42, .putfield 1104, 3), (45, .aload 0, 1), (46, .invokevirtual 118, 3), (49, .aload 0, 1), (50, .invokevirtual 122, 3), (53, .ifCond .eq 150, 3), (56, .aload 0, 1), (57, .getfield 1102, 3), (60, .sipush (3), 1), (61, .if_icmp .eq 150, 3), (64, .aload 0, 1), (65, .getfield 1102, 3), (68, .tableswitch 139 (10) (14) #[104, 111, 118, 125, 132], 36), (104, .aload 0, 1), (105, .invokevirtual 129, 3), (108, .goto 49, 3), (111, .aload 0, 1), (112, .invokevirtual 130, 3), (115, .goto 49, 3), (118, .aload 0, 1), (119, .invokevirtual 131, 3), (122, .goto 49, 3), (125, .aload 0, 1), (126, .invokevirtual 133, 3), (129, .goto 49, 3), (132, .aload 0, 1), (133, .invokevirtual 134, 3), (136, .goto 49, 3), (139, .aload 0, 1), (140, .aload 0, 1), (141, .getfield 1103, 3), (144, .invokevirtual 119, 3), (147, .goto 49, 3), (150, .return_, 1)]
/-- ProblemTextsModel.emit(IIII)V -/
def cd_136 : List (Nat × Instr × Nat) := [(0, .aload 0, 1), (1, .getfield 1134, 3), (4, .aload 0, 1), (5, .getfield 1133, 3), (8, .iload 1, 1), (9, .iastore, 1), (10, .aload 0, 1), (11, .getfield 1135, 3), (14, .aload 0, 1), (15, .getfield 1133, 3), (18, .iload 2, 1), (19, .iastore, 1), (20, .aload 0, 1), (21, .getfield 1136, 3), (24, .aload 0, 1), (25, .getfield 1133, 3), (28, .iload 3, 1), (29, .iastore, 1), (30, .aload 0, 1), (31, .getfield 1137, 3), (34, .aload 0, 1), (35, .getfield 1133, 3), (38, .iload 4, 2), (40, .iastore, 1), (41, .aload 0, 1), (42, .dup, 1), (43, .getfield 1133, 3), (46, .sipush (1), 1), (47, .iadd, 1), (48, .putfield 1133, 3), (51, .return_, 1)]
/-- ProblemTextsModel.beginSum()V -/
def cd_137 : List (Nat × Instr × Nat) := [(0, .aload 0, 1), (1, .sipush (0), 1), (2, .sipush (0), 1), (3, .sipush (0), 1), (4, .sipush (0), 1), (5, .invokevirtual 136, 3), (8, .aload 0, 1), (9, .sipush (0), 1), (10, .putfield 1149, 3), (13, .aload 0, 1), (14, .jsr_w 0, 1), (15, .putfield 1152, 3), (18, .aload 0, 1), (19, .sipush (1), 1), (20, .putfield 1147, 3), (23, .aload 0, 1), (24, .getfield 1102, 3), (27, .sipush (145), 3), (30, .if_icmp .ne 42, 3), (33, .aload 0, 1), (34, .invokevirtual 118, 3), (37, .aload 0, 1), (38, .sipush (-1), 1), (39, .putfield 1147, 3), (42, .aload 0, 1), (43, .invokevirtual 138, 3), (46, .return_, 1)]
/-- ProblemTextsModel.beginPart()V -/
def cd_138 : List (Nat × Instr × Nat) := [(0, .aload 0, 1), (1, .sipush (1), 1), (2, .sipush (0), 1), (3, .sipush (0), 1), (4, .sipush (0), 1), (5, .invokevirtual 136, 3), (8, .aload 0, 1), (9, .sipush (0), 1), (10, .putfield 1148, 3), (13, .return_, 1)]
/-- ProblemTextsModel.sum()J -/
def cd_139 : List (Nat × Instr × Nat) := [(0, .aload 0, 1), (1, .invokevirtual 122, 3), (4, .ifCond .ne 9, 3), (7, .jsr_w 0, 1), (8, .lreturn, 1), (9, .aload 0, 1), (10, .sipush (0), 1), (11, .putfield 1138, 3), (14, .aload 0, 1), (15, .invokevirtual 137, 3), (18, .sipush (0), 1), (19, .istore 1, 1), (20, .aload 0, 1), (21, .invokevirtual 122, 3), (24, .ifCond .eq 51, 3), (27, .iload 1, 1), (28, .sipush (2), 1), (29, .if_icmp .eq 51, 3), (32, .iload 1, 1), (33, .ifCond .ne 43, 3), (36, .aload 0, 1), (37, .invokevirtual 140, 3), (40, .goto 47, 3), (43, .aload 0, 1), (44, .invokevirtual 144, 3), (47, .istore 1, 1), (48, .goto 20, 3), (51, .aload 0, 1), (52, .getfield 1152, 3), (55, .lreturn, 1)]
/-- ProblemTextsModel.factor()I -/
def cd_140 : List (Nat × Instr × Nat) := [(0, .aload 0, 1), (1, .aload 0, 1), (2, .getfield 1103, 3), (5, .putfield 1150, 3), (8, .aload 0, 1), (9, .sipush (0), 1), (10, .putfield 1151, 3), (13, .aload 0, 1), (14, .getfield 1102, 3), (17, .sipush (2), 1), (18, .if_icmp .ne 48, 3), (21, .aload 0, 1), (22, .sipush (2), 1), (23, .aload 0, 1), (24, .getfield 1105, 3), (27, .sipush (0), 1), (28, .sipush (0), 1), (29, .invokevirtual 136, 3), (32, .aload 0, 1), (33, .dup, 1), (34, .getfield 1152, 3), (37, .jsr_w 1, 1), (38, .ladd, 1), (39, .putfield 1152, 3), (42, .aload 0, 1), (43, .invokevirtual 118, 3), (46, .sipush (1), 1), (47, .ireturn, 1), (48, .aload 0, 1), (49, .getfield 1102, 3), (52, .sipush (1), 1), (53, .if_icmp .ne 62, 3), (56, .aload 0, 1), (57, .invokevirtual 143, 3), (60, .sipush (1), 1), (61, .ireturn, 1), (62, .aload 0, 1), (63, .getfield 1102, 3), (66, .sipush (17), 2), (68, .if_icmp .eq 81, 3), (71, .aload 0, 1), (72, .getfield 1102, 3), (75, .sipush (140), 3), (78, .if_icmp .ne 90, 3), (81, .aload 0, 1), (82, .getfield 1138, 3), (85, .sipush (8), 2), (87, .if_icmp .ne 100, 3), (90, .aload 0, 1), (91, .aload 0, 1), (92, .getfield 1103, 3), (95, .invokevirtual 119, 3), (98, .sipush (2), 1), (99, .ireturn, 1), (100, .aload 0, 1), (101, .getfield 1102, 3), (104, .sipush (17), 2), (106, .if_icmp .ne 113, 3), (109, .sipush (1), 1), (110, .goto 114, 3), (113, .sipush (0), 1), (114, .istore 1, 1), (115, .aload 0, 1), (116, .invokevirtual 118, 3), (119, .aload 0, 1), (120, .getfield 1130, 3), (123, .istore 2, 1), (124, .aload 0, 1), (125, .getfield 1133, 3), (128, .istore 3, 1), (129, .sipush (0), 1), (130, .istore 4, 2), (132, .iload 1, 1), (133, .ifCond .eq 196, 3), (136, .aload 0, 1), (137, .sipush (40), 2), (139, .invokevirtual 121, 3), (142, .pop, 1), (143, .aload 0, 1), (144, .invokevirtual 132, 3), (147, .istore 4, 2), (149, .aload 0, 1), (150, .sipush (58), 2), (152, .invokevirtual 121, 3), (155, .pop, 1), (156, .aload 0, 1), (157, .invokevirtual 122, 3), (160, .ifCond .ne 165, 3), (163, .sipush (2), 1), (164, .ireturn, 1), (165, .aload 0, 1), (166, .sipush (9), 2), (168, .iload 2, 1), (169, .aload 0, 1), (170, .getfield 1132, 3), (173, .iload 2, 1), (174, .iaload, 1), (175, .iload 4, 2), (177, .sipush (1), 1), (178, .if_icmp .le 192, 3), (181, .aload 0, 1), (182, .getfield 1132, 3), (185, .iload 2, 1), (186, .sipush (1), 1), (187, .iadd, 1), (188, .iaload, 1), (189, .goto 193, 3), (192, .sipush (-1), 1), (193, .invokevirtual 136, 3), (196, .aload 0, 1), (197, .getfield 1139, 3), (200, .aload 0, 1), (201, .getfield 1138, 3), (204, .iload 1, 1), (205, .bastore, 1), (206, .aload 0, 1), (207, .getfield 1140, 3), (210, .aload 0, 1), (211, .getfield 1138, 3), (214, .aload 0, 1), (215, .getfield 1147, 3), (218, .iastore, 1), (219, .aload 0, 1), (220, .getfield 1141, 3), (223, .aload 0, 1), (224, .getfield 1138, 3), (227, .aload 0, 1), (228, .getfield 1148, 3), (231, .bastore, 1), (232, .aload 0, 1), (233, .getfield 1142, 3), (236, .aload 0, 1), (237, .getfield 1138, 3), (240, .aload 0, 1), (241, .getfield 1149, 3), (244, .bastore, 1), (245, .aload 0, 1), (246, .getfield 1143, 3), (249, .aload 0, 1), (250, .getfield 1138, 3), (253, .aload 0, 1), (254, .getfield 1150, 3), (257, .iastore, 1), (258, .aload 0, 1), (259, .getfield 1144, 3), (262, .aload 0, 1), (263, .getfield 1138, 3), (266, .aload 0, 1), (267, .getfield 1152, 3), (270, .lastore, 1), (271, .aload 0, 1), (272, .getfield 1145, 3), (275, .aload 0, 1), (276, .getfield 1138, 3), (279, .iload 2, 1), (280, .iastore, 1), (281, .aload 0, 1), (282, .getfield 1146, 3), (285, .aload 0, 1), (286, .getfield 1138, 3), (289, .iload 3, 1), (290, .iastore, 1), (291, .aload 0, 1), (292, .dup, 1), (293, .getfield 1138, 3), (296, .sipush (1), 1), (297, .iadd, 1), (298, .putfield 1138, 3), (301, .aload 0, 1), (302, .invokevirtual 137, 3), (305, .sipush (0), 1), (306, .ireturn, 1)]
/-- ProblemTextsModel.place(I)I -/
def cd_141 : List (Nat × Instr × Nat) := [(0, .sipush (0), 1), (1, .istore 2, 1), (2, .aload 0, 1), (3, .invokevirtual 122, 3), (6, .ifCond .eq 64, 3), (9, .aload 0, 1), (10, .getfield 1102, 3), (13, .sipush (2), 1), (14, .if_icmp .ne 64, 3), (17, .aload 0, 1), (18, .getfield 1105, 3), (21, .istore 2, 1), (22, .iload 2, 1), (23, .i2l, 1), (24, .aload 0, 1), (25, .getfield 1109, 3), (28, .iload 1, 1), (29, .iaload, 1), (30, .i2l, 1), (31, .aload 0, 1), (32, .getfield 1109, 3), (35, .iload 1, 1), (36, .iaload, 1), (37, .aload 0, 1), (38, .getfield 1110, 3), (41, .iload 1, 1), (42, .iaload, 1), (43, .iadd, 1), (44, .sipush (1), 1), (45, .isub, 1), (46, .i2l, 1), (47, .invokestatic 107, 3), (50, .ifCond .ne 130, 3), (53, .aload 0, 1), (54, .aload 0, 1), (55, .getfield 1103, 3), (58, .invokevirtual 119, 3), (61, .goto 130, 3), (64, .aload 0, 1), (65, .invokevirtual 122, 3), (68, .ifCond .eq 130, 3), (71, .aload 0, 1), (72, .getfield 1102, 3), (75, .sipush (1), 1), (76, .if_icmp .ne 97, 3), (79, .aload 0, 1), (80, .getfield 1131, 3), (83, .aload 0, 1), (84, .getfield 1130, 3), (87, .aload 0, 1), (88, .getfield 1105, 3), (91, .invokestatic 123, 3), (94, .goto 98, 3), (97, .sipush (-1), 1), (98, .istore 3, 1), (99, .iload 3, 1), (100, .sipush (-1), 1), (101, .if_icmp .eq 118, 3), (104, .aload 0, 1), (105, .aload 0, 1), (106, .getfield 1132, 3), (109, .iload 3, 1), (110, .iaload, 1), (111, .iload 1, 1), (112, .invokevirtual 142, 3), (115, .ifCond .ne 126, 3), (118, .aload 0, 1), (119, .aload 0, 1), (120, .getfield 1103, 3), (123, .invokevirtual 119, 3), (126, .sipush (-1), 1), (127, .iload 3, 1), (128, .isub, 1), (129, .istore 2, 1), (130, .aload 0, 1), (131, .invokevirtual 122, 3), (134, .ifCond .eq 141, 3), (137, .aload 0, 1), (138, .invokevirtual 118, 3), (141, .iload 2, 1), (142, .ireturn, 1)]
/-- ProblemTextsModel.isWithin(II)Z -/
def cd_142 : List (Nat × Instr × Nat) := [(0, .aload 0, 1), (1, .getfield 1110, 3), (4, .iload 1, 1), (5, .iaload, 1), (6, .ifCond .eq 53, 3), (9, .aload 0, 1), (10, .getfield 1109, 3), (13, .iload 1, 1), (14, .iaload, 1), (15, .aload 0, 1), (16, .getfield 1109, 3), (19, .iload 2, 1), (20, .iaload, 1), (21, .if_icmp .lt 57, 3), (24, .aload 0, 1), (25, .getfield 1109, 3), (28, .iload 1, 1), (29, .iaload, 1), (30, .aload 0, 1), (31, .getfield 1110, 3), (34, .iload 1, 1), (35, .iaload, 1), (36, .iadd, 1), (37, .aload 0, 1), (38, .getfield 1109, 3), (41, .iload 2, 1), (42, .iaload, 1), (43, .aload 0, 1), (44, .getfield 1110, 3), (47, .iload 2, 1), (48, .iaload, 1), (49, .iadd, 1), (50, .if_icmp .gt 57, 3), (53, .sipush (1), 1), (54, .goto 58, 3), (57, .sipush (0), 1), (58, .ireturn, 1)]
/-- ProblemTextsModel.named()V -/
def cd_143 : List (Nat × Instr × Nat) := [(0, .aload 0, 1), (1, .getfield 1131, 3), (4, .aload 0, 1), (5, .getfield 1130, 3), (8, .aload 0, 1), (9, .getfield 1105, 3), (12, .invokestatic 123, 3), (15, .istore 1, 1), (16, .aload 0, 1), (17, .getfield 1112, 3), (20, .aload 0, 1), (21, .getfield 1111, 3), (24, .aload 0, 1), (25, .getfield 1105, 3), (28, .invokestatic 123, 3), (31, .istore 2, 1), (32, .aload 0, 1), (33, .getfield 1116, 3), (36, .aload 0, 1), (37, .getfield 1115, 3), (40, .aload 0, 1), (41, .getfield 1105, 3), (44, .invokestatic 123, 3), (47, .istore 3, 1), (48, .iload 1, 1), (49, .sipush (-1), 1), (50, .if_icmp .ne 72, 3), (53, .iload 2, 1), (54, .sipush (-1), 1), (55, .if_icmp .ne 72, 3), (58, .iload 3, 1), (59, .sipush (-1), 1), (60, .if_icmp .ne 72, 3), (63, .aload 0, 1), (64, .aload 0, 1), (65, .getfield 1103, 3), (68, .invokevirtual 119, 3), (71, .return_, 1), (72, .aload 0, 1), (73, .dup, 1), (74, .getfield 1152, 3), (77, .jsr_w 1, 1), (78, .ladd, 1), (79, .putfield 1152, 3), (82, .aload 0, 1), (83, .invokevirtual 118, 3), (86, .iload 1, 1), (87, .sipush (-1), 1), (88, .if_icmp .eq 100, 3), (91, .aload 0, 1), (92, .sipush (3), 1), (93, .iload 1, 1), (94, .sipush (0), 1), (95, .sipush (0), 1), (96, .invokevirtual 136, 3), (99, .return_, 1), (100, .iload 2, 1), (101, .sipush (-1), 1), (102, .if_icmp .ne 116, 3), (105, .aload 0, 1), (106, .getfield 1117, 3), (109, .sipush (2), 1), (110, .iload 3, 1), (111, .imul, 1), (112, .iaload, 1), (113, .goto 124, 3), (116, .aload 0, 1), (117, .getfield 1113, 3), (120, .sipush (2), 1), (121, .iload 2, 1), (122, .imul, 1), (123, .iaload, 1), (124, .istore 4, 2), (126, .iload 2, 1), (127, .sipush (-1), 1), (128, .if_icmp .ne 144, 3), (131, .aload 0, 1), (132, .getfield 1117, 3), (135, .sipush (2), 1), (136, .iload 3, 1), (137, .imul, 1), (138, .sipush (1), 1), (139, .iadd, 1), (140, .iaload, 1), (141, .goto 154, 3), (144, .aload 0, 1), (145, .getfield 1113, 3), (148, .sipush (2), 1), (149, .iload 2, 1), (150, .imul, 1), (151, .sipush (1), 1), (152, .iadd, 1), (153, .iaload, 1), (154, .istore 5, 2), (156, .sipush (0), 1), (157, .istore 6, 2), (159, .sipush (0), 1), (160, .istore 7, 2), (162, .iload 4, 2), (164, .sipush (-1), 1), (165, .if_icmp .eq 211, 3), (168, .aload 0, 1), (169, .sipush (91), 2), (171, .invokevirtual 121, 3), (174, .pop, 1), (175, .aload 0, 1), (176, .iload 4, 2), (178, .invokevirtual 141, 3), (181, .istore 6, 2), (183, .iload 5, 2), (185, .sipush (-1), 1), (186, .if_icmp .eq 204, 3), (189, .aload 0, 1), (190, .sipush (44), 2), (192, .invokevirtual 121, 3), (195, .pop, 1), (196, .aload 0, 1), (197, .iload 5, 2), (199, .invokevirtual 141, 3), (202, .istore 7, 2), (204, .aload 0, 1), (205, .sipush (93), 2), (207, .invokevirtual 121, 3), (210, .pop, 1), (211, .aload 0, 1), (212, .iload 2, 1), (213, .sipush (-1), 1), (214, .if_icmp .ne 221, 3), (217, .sipush (1), 1), (218, .goto 222, 3), (221, .sipush (0), 1), (222, .putfield 1151, 3), (225, .aload 0, 1), (226, .iload 2, 1), (227, .sipush (-1), 1), (228, .if_icmp .ne 235, 3), (231, .sipush (5), 1), (232, .goto 236, 3), (235, .sipush (4), 1), (236, .iload 2, 1), (237, .sipush (-1), 1), (238, .if_icmp .ne 245, 3), (241, .iload 3, 1), (242, .goto 246, 3), (245, .iload 2, 1), (246, .iload 6, 2), (248, .iload 7, 2), (250, .invokevirtual 136, 3), (253, .return_, 1)]
/-- ProblemTextsModel.behind()I -/
def cd_144 : List (Nat × Instr × Nat) := [(0, .aload 0, 1), (1, .getfield 1151, 3), (4, .ifCond .eq 24, 3), (7, .aload 0, 1), (8, .getfield 1148, 3), (11, .ifCond .eq 24, 3), (14, .aload 0, 1), (15, .aload 0, 1), (16, .getfield 1150, 3), (19, .invokevirtual 119, 3), (22, .sipush (2), 1), (23, .ireturn, 1), (24, .aload 0, 1), (25, .aload 0, 1), (26, .getfield 1148, 3), (29, .ifCond .ne 39, 3), (32, .aload 0, 1), (33, .getfield 1151, 3), (36, .ifCond .eq 43, 3), (39, .sipush (1), 1), (40, .goto 44, 3), (43, .sipush (0), 1), (44, .putfield 1148, 3), (47, .aload 0, 1), (48, .sipush (6), 2), (50, .sipush (0), 1), (51, .sipush (0), 1), (52, .sipush (0), 1), (53, .invokevirtual 136, 3), (56, .aload 0, 1), (57, .getfield 1102, 3), (60, .sipush (142), 3), (63, .if_icmp .ne 72, 3), (66, .aload 0, 1), (67, .invokevirtual 118, 3), (70, .sipush (0), 1), (71, .ireturn, 1), (72, .aload 0, 1), (73, .aload 0, 1), (74, .getfield 1147, 3), (77, .ifCond .le 85, 3), (80, .sipush (7), 2), (82, .goto 87, 3), (85, .sipush (8), 2), (87, .sipush (0), 1), (88, .sipush (0), 1), (89, .sipush (0), 1), (90, .invokevirtual 136, 3), (93, .aload 0, 1), (94, .aload 0, 1), (95, .getfield 1149, 3), (98, .ifCond .ne 108, 3), (101, .aload 0, 1), (102, .getfield 1148, 3), (105, .ifCond .eq 112, 3), (108, .sipush (1), 1), (109, .goto 113, 3), (112, .sipush (0), 1), (113, .putfield 1149, 3), (116, .aload 0, 1), (117, .getfield 1102, 3), (120, .sipush (143), 3), (123, .if_icmp .eq 136, 3), (126, .aload 0, 1), (127, .getfield 1102, 3), (130, .sipush (145), 3), (133, .if_icmp .ne 165, 3), (136, .aload 0, 1), (137, .aload 0, 1), (138, .getfield 1102, 3), (141, .sipush (143), 3), (144, .if_icmp .ne 151, 3), (147, .sipush (1), 1), (148, .goto 152, 3), (151, .sipush (-1), 1), (152, .putfield 1147, 3), (155, .aload 0, 1), (156, .invokevirtual 118, 3), (159, .aload 0, 1), (160, .invokevirtual 138, 3), (163, .sipush (0), 1), (164, .ireturn, 1), (165, .aload 0, 1), (166, .getfield 1138, 3), (169, .ifCond .ne 174, 3), (172, .sipush (2), 1), (173, .ireturn, 1), (174, .aload 0, 1), (175, .sipush (41), 2), (177, .invokevirtual 121, 3), (180, .ifCond .ne 185, 3), (183, .sipush (2), 1), (184, .ireturn, 1), (185, .aload 0, 1), (186, .invokevirtual 145, 3), (189, .sipush (1), 1), (190, .ireturn, 1)]
/-- ProblemTextsModel.closes()V -/
def cd_145 : List (Nat × Instr × Nat) := [(0, .aload 0, 1), (1, .dup, 1), (2, .getfield 1138, 3), (5, .sipush (1), 1), (6, .isub, 1), (7, .putfield 1138, 3), (10, .aload 0, 1), (11, .getfield 1152, 3), (14, .lstore 1, 1), (15, .aload 0, 1), (16, .getfield 1139, 3), (19, .aload 0, 1), (20, .getfield 1138, 3), (23, .baload, 1), (24, .ifCond .eq 125, 3), (27, .aload 0, 1), (28, .getfield 1145, 3), (31, .aload 0, 1), (32, .getfield 1138, 3), (35, .iaload, 1), (36, .istore 3, 1), (37, .aload 0, 1), (38, .sipush (10), 2), (40, .aload 0, 1), (41, .getfield 1146, 3), (44, .aload 0, 1), (45, .getfield 1138, 3), (48, .iaload, 1), (49, .sipush (0), 1), (50, .sipush (0), 1), (51, .invokevirtual 136, 3), (54, .aload 0, 1), (55, .getfield 1137, 3), (58, .aload 0, 1), (59, .getfield 1133, 3), (62, .sipush (1), 1), (63, .isub, 1), (64, .aload 0, 1), (65, .getfield 1133, 3), (68, .iastore, 1), (69, .iload 3, 1), (70, .istore 4, 2), (72, .iload 4, 2), (74, .aload 0, 1), (75, .getfield 1130, 3), (78, .if_icmp .ge 103, 3), (81, .lload 1, 1), (82, .aload 0, 1), (83, .getfield 1110, 3), (86, .aload 0, 1), (87, .getfield 1132, 3), (90, .iload 4, 2), (92, .iaload, 1), (93, .iaload, 1), (94, .i2l, 1), (95, .lmul, 1), (96, .lstore 1, 1), (97, .iinc 4 1, 3), (100, .goto 72, 3), (103, .aload 0, 1), (104, .getfield 1136, 3), (107, .aload 0, 1), (108, .getfield 1133, 3), (111, .sipush (1), 1), (112, .isub, 1), (113, .aload 0, 1), (114, .getfield 1130, 3), (117, .iload 3, 1), (118, .isub, 1), (119, .iastore, 1), (120, .aload 0, 1), (121, .iload 3, 1), (122, .putfield 1130, 3), (125, .aload 0, 1), (126, .aload 0, 1), (127, .getfield 1149, 3), (130, .putfield 1151, 3), (133, .aload 0, 1), (134, .aload 0, 1), (135, .getfield 1143, 3), (138, .aload 0, 1), (139, .getfield 1138, 3), (142, .iaload, 1), (143, .putfield 1150, 3), (146, .aload 0, 1), (147, .aload 0, 1), (148, .getfield 1140, 3), (151, .aload 0, 1), (152, .getfield 1138, 3), (155, .iaload, 1), (156, .putfield 1147, 3), (159, .aload 0, 1), (160, .aload 0, 1), (161, .getfield 1141, 3), (164, .aload 0, 1), (165, .getfield 1138, 3), (168, .baload, 1), (169, .putfield 1148, 3), (172, .aload 0, 1), (173, .aload 0, 1), (174, .getfield 1142, 3), (177, .aload 0, 1), (178, .getfield 1138, 3), (181, .baload, 1), (182, .putfield 1149, 3), (185, .aload 0, 1), (186, .aload 0, 1), (187, .getfield 1144, 3), (190, .aload 0, 1), (191, .getfield 1138, 3), (194, .laload, 1), (195, .jsr_w 1, 1), (196, .ladd, 1), (197, .lload 1, 1), (198, .ladd, 1), (199, .putfield 1152, 3), (202, .return_, 1)]
/-- ProblemTextsModel.push(J)V -/
def cd_146 : List (Nat × Instr × Nat) := [(0, .sipush (0), 1), (1, .istore 3, 1), (2, .iload 3, 1), (3, .sipush (41), 2), (5, .if_icmp .ge 39, 3), (8, .aload 0, 1), (9, .getfield 1153, 3), (12, .sipush (41), 2), (14, .aload 0, 1), (15, .getfield 1154, 3), (18, .imul, 1), (19, .iload 3, 1), (20, .iadd, 1), (21, .iload 3, 1), (22, .sipush (40), 2), (24, .if_icmp .ne 31, 3), (27, .lload 1, 1), (28, .goto 32, 3), (31, .jsr_w 0, 1), (32, .lastore, 1), (33, .iinc 3 1, 3), (36, .goto 2, 3), (39, .aload 0, 1), (40, .dup, 1), (41, .getfield 1154, 3), (44, .sipush (1), 1), (45, .iadd, 1), (46, .putfield 1154, 3), (49, .return_, 1)]
/-- ProblemTextsModel.placed(I)I -/
def cd_147 : List (Nat × Instr × Nat) := [(0, .iload 1, 1), (1, .ifCond .ge 15, 3), (4, .aload 0, 1), (5, .getfield 1155, 3), (8, .sipush (-1), 1), (9, .iload 1, 1), (10, .isub, 1), (11, .iaload, 1), (12, .goto 16, 3), (15, .iload 1, 1), (16, .ireturn, 1)]
/-- ProblemTextsModel.offset(IIII)I -/
def cd_148 : List (Nat × Instr × Nat) := [(0, .iload 1, 1), (1, .sipush (-1), 1), (2, .if_icmp .ne 9, 3), (5, .sipush (0), 1), (6, .goto 21, 3), (9, .aload 0, 1), (10, .iload 3, 1), (11, .invokevirtual 147, 3), (14, .aload 0, 1), (15, .getfield 1109, 3), (18, .iload 1, 1), (19, .iaload, 1), (20, .isub, 1), (21, .istore 5, 2), (23, .iload 2, 1), (24, .sipush (-1), 1), (25, .if_icmp .ne 33, 3), (28, .iload 5, 2), (30, .goto 56, 3), (33, .iload 5, 2), (35, .aload 0, 1), (36, .getfield 1110, 3), (39, .iload 2, 1), (40, .iaload, 1), (41, .imul, 1), (42, .aload 0, 1), (43, .iload 4, 2), (45, .invokevirtual 147, 3), (48, .iadd, 1), (49, .aload 0, 1), (50, .getfield 1109, 3), (53, .iload 2, 1), (54, .iaload, 1), (55, .isub, 1), (56, .ireturn, 1)]
/-- ProblemTextsModel.times()V -/
def cd_149 : List (Nat × Instr × Nat) := [(0, .sipush (41), 2), (2, .aload 0, 1), (3, .getfield 1154, 3), (6, .sipush (2), 1), (7, .isub, 1), (8, .imul, 1), (9, .istore 1, 1), (10, .sipush (41), 2), (12, .aload 0, 1), (13, .getfield 1154, 3), (16, .sipush (1), 1), (17, .isub, 1), (18, .imul, 1), (19, .istore 2, 1), (20, .sipush (0), 1), (21, .istore 3, 1), (22, .iload 3, 1), (23, .sipush (40), 2), (25, .if_icmp .ge 79, 3), (28, .aload 0, 1), (29, .getfield 1153, 3), (32, .iload 1, 1), (33, .iload 3, 1), (34, .iadd, 1), (35, .aload 0, 1), (36, .getfield 1153, 3), (39, .iload 1, 1), (40, .iload 3, 1), (41, .iadd, 1), (42, .laload, 1), (43, .aload 0, 1), (44, .getfield 1153, 3), (47, .iload 2, 1), (48, .sipush (40), 2), (50, .iadd, 1), (51, .laload, 1), (52, .lmul, 1), (53, .aload 0, 1), (54, .getfield 1153, 3), (57, .iload 2, 1), (58, .iload 3, 1), (59, .iadd, 1), (60, .laload, 1), (61, .aload 0, 1), (62, .getfield 1153, 3), (65, .iload 1, 1), (66, .sipush (40), 2), (68, .iadd, 1), (69, .laload, 1), (70, .lmul, 1), (71, .ladd, 1), (72, .lastore, 1), (73, .iinc 3 1, 3), (76, .goto 22, 3), (79, .aload 0, 1), (80, .getfield 1153, 3), (83, .iload 1, 1), (84, .sipush (40), 2), (86, .iadd, 1), (87, .dup2, 1), (88, .laload, 1), (89, .aload 0, 1), (90, .getfield 1153, 3), (93, .iload 2, 1), (94, .sipush (40), 2), (96, .iadd, 1), (97, .laload, 1), (98, .lmul, 1), (99, .lastore, 1), (100, .aload 0, 1), (101, .dup, 1), (102, .getfield 1154, 3), (105, .sipush (1), 1), (106, .isub, 1), (107, .putfield 1154, 3), (110, .return_, 1)]
/-- ProblemTextsModel.plus(J)V -/
def cd_150 : List (Nat × Instr × Nat) := [(0, .sipush (41), 2), (2, .aload 0, 1), (3, .getfield 1154, 3), (6, .sipush (2), 1), (7, .isub, 1), (8, .imul, 1), (9, .istore 3, 1), (10, .sipush (41), 2), (12, .aload 0, 1), (13, .getfield 1154, 3), (16, .sipush (1), 1), (17, .isub, 1), (18, .imul, 1), (19, .istore 4, 2), (21, .sipush (0), 1), (22, .istore 5, 2), (24, .iload 5, 2), (26, .sipush (41), 2), (28, .if_icmp .ge 61, 3), (31, .aload 0, 1), (32, .getfield 1153, 3), (35, .iload 3, 1), (36, .iload 5, 2), (38, .iadd, 1), (39, .dup2, 1), (40, .laload, 1), (41, .lload 1, 1), (42, .aload 0, 1), (43, .getfield 1153, 3), (46, .iload 4, 2), (48, .iload 5, 2), (50, .iadd, 1), (51, .laload, 1), (52, .lmul, 1), (53, .ladd, 1), (54, .lastore, 1), (55, .iinc 5 1, 3), (58, .goto 24, 3), (61, .aload 0, 1), (62, .dup, 1), (63, .getfield 1154, 3), (66, .sipush (1), 1), (67, .isub, 1), (68, .putfield 1154, 3), (71, .return_, 1)]
/-- ProblemTextsModel.go(II)V -/
def cd_151 : List (Nat × Instr × Nat) := [(0, .iload 1, 1), (1, .istore 3, 1), (2, .iload 3, 1), (3, .iload 2, 1), (4, .if_icmp .ge 316, 3), (7, .iload 3, 1), (8, .sipush (1), 1), (9, .iadd, 1), (10, .istore 4, 2), (12, .aload 0, 1), (13, .getfield 1134, 3), (16, .iload 3, 1), (17, .iaload, 1), (18, .tableswitch 303 (0) (9) #[72, 80, 88, 102, 121, 188, 268, 275, 283, 293], 54), (72, .aload 0, 1), (73, .jsr_w 0, 1), (74, .invokevirtual 146, 3), (77, .goto 310, 3), (80, .aload 0, 1), (81, .jsr_w 1, 1), (82, .invokevirtual 146, 3), (85, .goto 310, 3), (88, .aload 0, 1), (89, .aload 0, 1), (90, .getfield 1135, 3), (93, .iload 3, 1), (94, .iaload, 1), (95, .i2l, 1), (96, .invokevirtual 146, 3), (99, .goto 310, 3), (102, .aload 0, 1), (103, .aload 0, 1), (104, .getfield 1155, 3), (107, .aload 0, 1), (108, .getfield 1135, 3), (111, .iload 3, 1), (112, .iaload, 1), (113, .iaload, 1), (114, .i2l, 1), (115, .invokevirtual 146, 3), (118, .goto 310, 3), (121, .aload 0, 1), (122, .aload 0, 1), (123, .getfield 1114, 3), (126, .sipush (64), 2), (128, .aload 0, 1), (129, .getfield 1135, 3), (132, .iload 3, 1), (133, .iaload, 1), (134, .imul, 1), (135, .aload 0, 1), (136, .aload 0, 1), (137, .getfield 1113, 3), (140, .sipush (2), 1), (141, .aload 0, 1), (142, .getfield 1135, 3), (145, .iload 3, 1), (146, .iaload, 1), (147, .imul, 1), (148, .iaload, 1), (149, .aload 0, 1), (150, .getfield 1113, 3), (153, .sipush (2), 1), (154, .aload 0, 1), (155, .getfield 1135, 3), (158, .iload 3, 1), (159, .iaload, 1), (160, .imul, 1), (161, .sipush (1), 1), (162, .iadd, 1), (163, .iaload, 1), (164, .aload 0, 1), (165, .getfield 1136, 3), (168, .iload 3, 1), (169, .iaload, 1), (170, .aload 0, 1), (171, .getfield 1137, 3), (174, .iload 3, 1), (175, .iaload, 1), (176, .invokevirtual 148, 3), (179, .iadd, 1), (180, .iaload, 1), (181, .i2l, 1), (182, .invokevirtual 146, 3), (185, .goto 310, 3), (188, .aload 0, 1), (189, .jsr_w 0, 1), (190, .invokevirtual 146, 3), (193, .aload 0, 1), (194, .getfield 1153, 3), (197, .sipush (41), 2), (199, .aload 0, 1), (200, .getfield 1154, 3), (203, .sipush (1), 1), (204, .isub, 1), (205, .imul, 1), (206, .aload 0, 1), (207, .getfield 1156, 3), (210, .aload 0, 1), (211, .getfield 1135, 3), (214, .iload 3, 1), (215, .iaload, 1), (216, .iaload, 1), (217, .iadd, 1), (218, .aload 0, 1), (219, .aload 0, 1), (220, .getfield 1117, 3), (223, .sipush (2), 1), (224, .aload 0, 1), (225, .getfield 1135, 3), (228, .iload 3, 1), (229, .iaload, 1), (230, .imul, 1), (231, .iaload, 1), (232, .aload 0, 1), (233, .getfield 1117, 3), (236, .sipush (2), 1), (237, .aload 0, 1), (238, .getfield 1135, 3), (241, .iload 3, 1), (242, .iaload, 1), (243, .imul, 1), (244, .sipush (1), 1), (245, .iadd, 1), (246, .iaload, 1), (247, .aload 0, 1), (248, .getfield 1136, 3), (251, .iload 3, 1), (252, .iaload, 1), (253, .aload 0, 1), (254, .getfield 1137, 3), (257, .iload 3, 1), (258, .iaload, 1), (259, .invokevirtual 148, 3), (262, .iadd, 1), (263, .jsr_w 1, 1), (264, .lastore, 1), (265, .goto 310, 3), (268, .aload 0, 1), (269, .invokevirtual 149, 3), (272, .goto 310, 3), (275, .aload 0, 1), (276, .jsr_w 1, 1), (277, .invokevirtual 150, 3), (280, .goto 310, 3), (283, .aload 0, 1), (284, .jsr_w (-1), 3), (287, .invokevirtual 150, 3), (290, .goto 310, 3), (293, .aload 0, 1), (294, .iload 3, 1), (295, .invokevirtual 152, 3), (298, .istore 4, 2), (300, .goto 310, 3), (303, .aload 0, 1), (304, .iload 3, 1), (305, .invokevirtual 154, 3), (308, .istore 4, 2), (310, .iload 4, 2), (312, .istore 3, 1), (313, .goto 2, 3), (316, .return_, 1)]
/-- ProblemTextsModel.loop(I)I -/
def cd_152 : List (Nat × Instr × Nat) := [(0, .aload 0, 1), (1, .jsr_w 0, 1), (2, .invokevirtual 146, 3), (5, .aload 0, 1), (6, .getfield 1136, 3), (9, .iload 1, 1), (10, .iaload, 1), (11, .istore 2, 1), (12, .aload 0, 1), (13, .getfield 1137, 3), (16, .iload 1, 1), (17, .iaload, 1), (18, .istore 3, 1), (19, .aload 0, 1), (20, .iload 2, 1), (21, .invokevirtual 127, 3), (24, .aload 0, 1), (25, .iload 3, 1), (26, .invokevirtual 127, 3), (29, .imul, 1), (30, .ifCond .ne 39, 3), (33, .aload 0, 1), (34, .iload 1, 1), (35, .invokevirtual 153, 3), (38, .ireturn, 1), (39, .aload 0, 1), (40, .getfield 1155, 3), (43, .aload 0, 1), (44, .getfield 1135, 3), (47, .iload 1, 1), (48, .iaload, 1), (49, .aload 0, 1), (50, .getfield 1109, 3), (53, .iload 2, 1), (54, .iaload, 1), (55, .iastore, 1), (56, .iload 3, 1), (57, .sipush (-1), 1), (58, .if_icmp .eq 80, 3), (61, .aload 0, 1), (62, .getfield 1155, 3), (65, .aload 0, 1), (66, .getfield 1135, 3), (69, .iload 1, 1), (70, .iaload, 1), (71, .sipush (1), 1), (72, .iadd, 1), (73, .aload 0, 1), (74, .getfield 1109, 3), (77, .iload 3, 1), (78, .iaload, 1), (79, .iastore, 1), (80, .iload 1, 1), (81, .sipush (1), 1), (82, .iadd, 1), (83, .ireturn, 1)]
/-- ProblemTextsModel.endOf(I)I -/
def cd_153 : List (Nat × Instr × Nat) := [(0, .iload 1, 1), (1, .sipush (1), 1), (2, .iadd, 1), (3, .istore 2, 1), (4, .aload 0, 1), (5, .getfield 1134, 3), (8, .iload 2, 1), (9, .iaload, 1), (10, .sipush (10), 2), (12, .if_icmp .ne 25, 3), (15, .aload 0, 1), (16, .getfield 1135, 3), (19, .iload 2, 1), (20, .iaload, 1), (21, .iload 1, 1), (22, .if_icmp .eq 31, 3), (25, .iinc 2 1, 3), (28, .goto 4, 3), (31, .iload 2, 1), (32, .sipush (1), 1), (33, .iadd, 1), (34, .ireturn, 1)]
/-- ProblemTextsModel.again(I)I -/
def cd_154 : List (Nat × Instr × Nat) := [(0, .aload 0, 1), (1, .jsr_w 1, 1), (2, .invokevirtual 150, 3), (5, .aload 0, 1), (6, .getfield 1135, 3), (9, .iload 1, 1), (10, .iaload, 1), (11, .istore 2, 1), (12, .aload 0, 1), (13, .getfield 1135, 3), (16, .iload 2, 1), (17, .iaload, 1), (18, .istore 3, 1), (19, .aload 0, 1), (20, .getfield 1137, 3), (23, .iload 2, 1), (24, .iaload, 1), (25, .sipush (-1), 1), (26, .if_icmp .ne 33, 3), (29, .sipush (0), 1), (30, .goto 34, 3), (33, .sipush (1), 1), (34, .istore 4, 2), (36, .iload 4, 2), (38, .ifCond .lt 129, 3), (41, .iload 4, 2), (43, .ifCond .ne 55, 3), (46, .aload 0, 1), (47, .getfield 1136, 3), (50, .iload 2, 1), (51, .iaload, 1), (52, .goto 61, 3), (55, .aload 0, 1), (56, .getfield 1137, 3), (59, .iload 2, 1), (60, .iaload, 1), (61, .istore 5, 2), (63, .aload 0, 1), (64, .getfield 1155, 3), (67, .iload 3, 1), (68, .iload 4, 2), (70, .iadd, 1), (71, .dup2, 1), (72, .iaload, 1), (73, .sipush (1), 1), (74, .iadd, 1), (75, .iastore, 1), (76, .aload 0, 1), (77, .getfield 1155, 3), (80, .iload 3, 1), (81, .iload 4, 2), (83, .iadd, 1), (84, .iaload, 1), (85, .aload 0, 1), (86, .getfield 1109, 3), (89, .iload 5, 2), (91, .iaload, 1), (92, .aload 0, 1), (93, .getfield 1110, 3), (96, .iload 5, 2), (98, .iaload, 1), (99, .iadd, 1), (100, .if_icmp .ge 107, 3), (103, .iload 2, 1), (104, .sipush (1), 1), (105, .iadd, 1), (106, .ireturn, 1), (107, .aload 0, 1), (108, .getfield 1155, 3), (111, .iload 3, 1), (112, .iload 4, 2), (114, .iadd, 1), (115, .aload 0, 1), (116, .getfield 1109, 3), (119, .iload 5, 2), (121, .iaload, 1), (122, .iastore, 1), (123, .iinc 4 (-1), 3), (126, .goto 36, 3), (129, .iload 1, 1), (130, .sipush (1), 1), (131, .iadd, 1), (132, .ireturn, 1)]
/-- ProblemTextsModel.rowsOf(I)I -/
def cd_155 : List (Nat × Instr × Nat) := [(0, .aload 0, 1), (1, .aload 0, 1), (2, .getfield 1122, 3), (5, .sipush (2), 1), (6, .iload 1, 1), (7, .imul, 1), (8, .iaload, 1), (9, .invokevirtual 127, 3), (12, .aload 0, 1), (13, .aload 0, 1), (14, .getfield 1122, 3), (17, .sipush (2), 1), (18, .iload 1, 1), (19, .imul, 1), (20, .sipush (1), 1), (21, .iadd, 1), (22, .iaload, 1), (23, .invokevirtual 127, 3), (26, .imul, 1), (27, .ireturn, 1)]
/-- ProblemTextsModel.read()I -/
def cd_156 : List (Nat × Instr × Nat) := [(0, .aload 0, 1), (1, .invokevirtual 135, 3), (4, .aload 0, 1), (5, .sipush (0), 1), (6, .putfield 1101, 3), (9, .aload 0, 1), (10, .getfield 1106, 3), (13, .sipush (-1), 1), (14, .if_icmp .eq 25, 3), (17, .sipush (-10), 2), (19, .aload 0, 1), (20, .getfield 1106, 3), (23, .isub, 1), (24, .ireturn, 1), (25, .sipush (0), 1), (26, .istore 1, 1), (27, .sipush (0), 1), (28, .istore 2, 1), (29, .iload 2, 1), (30, .aload 0, 1), (31, .getfield 1115, 3), (34, .if_icmp .ge 80, 3), (37, .aload 0, 1), (38, .getfield 1156, 3), (41, .iload 2, 1), (42, .iload 1, 1), (43, .iastore, 1), (44, .iload 1, 1), (45, .aload 0, 1), (46, .aload 0, 1), (47, .getfield 1117, 3), (50, .sipush (2), 1), (51, .iload 2, 1), (52, .imul, 1), (53, .iaload, 1), (54, .invokevirtual 127, 3), (57, .aload 0, 1), (58, .aload 0, 1), (59, .getfield 1117, 3), (62, .sipush (2), 1), (63, .iload 2, 1), (64, .imul, 1), (65, .sipush (1), 1), (66, .iadd, 1), (67, .iaload, 1), (68, .invokevirtual 127, 3), (71, .imul, 1), (72, .iadd, 1), (73, .istore 1, 1), (74, .iinc 2 1, 3), (77, .goto 29, 3), (80, .sipush (0), 1), (81, .istore 2, 1), (82, .aload 0, 1), (83, .getfield 1126, 3), (86, .ifCond .le 96, 3), (89, .aload 0, 1), (90, .getfield 1129, 3), (93, .goto 97, 3), (96, .jsr_w 0, 1), (97, .lstore 3, 1), (98, .sipush (0), 1), (99, .istore 5, 2), (101, .iload 5, 2), (103, .aload 0, 1), (104, .getfield 1120, 3), (107, .if_icmp .ge 143, 3), (110, .iload 2, 1), (111, .aload 0, 1), (112, .iload 5, 2), (114, .invokevirtual 155, 3), (117, .iadd, 1), (118, .istore 2, 1), (119, .lload 3, 1), (120, .aload 0, 1), (121, .getfield 1125, 3), (124, .iload 5, 2), (126, .laload, 1), (127, .aload 0, 1), (128, .iload 5, 2), (130, .invokevirtual 155, 3), (133, .i2l, 1), (134, .lmul, 1), (135, .ladd, 1), (136, .lstore 3, 1), (137, .iinc 5 1, 3), (140, .goto 101, 3), (143, .iload 1, 1), (144, .sipush (40), 2), (146, .if_icmp .gt 163, 3), (149, .iload 2, 1), (150, .sipush (40), 2), (152, .if_icmp .gt 163, 3), (155, .lload 3, 1), (156, .jsr_w (20000), 3), (159, .lcmp, 1), (160, .ifCond .le 166, 3), (163, .sipush (-100004), 2), (165, .ireturn, 1), (166, .aload 0, 1), (167, .lload 3, 1), (168, .putfield 1180, 3), (171, .aload 0, 1), (172, .invokevirtual 157, 3), (175, .aload 0, 1), (176, .iload 1, 1), (177, .invokevirtual 158, 3), (180, .aload 0, 1), (181, .invokevirtual 159, 3), (184, .aload 0, 1), (185, .aload 0, 1), (186, .getfield 1126, 3), (189, .putfield 1178, 3), (192, .aload 0, 1), (193, .getfield 1126, 3), (196, .ifCond .le 246, 3), (199, .aload 0, 1), (200, .sipush (0), 1), (201, .putfield 1154, 3), (204, .aload 0, 1), (205, .aload 0, 1), (206, .getfield 1127, 3), (209, .aload 0, 1), (210, .getfield 1128, 3), (213, .invokevirtual 151, 3), (216, .sipush (0), 1), (217, .istore 5, 2), (219, .iload 5, 2), (221, .sipush (41), 2), (223, .if_icmp .ge 246, 3), (226, .aload 0, 1), (227, .getfield 1179, 3), (230, .iload 5, 2), (232, .aload 0, 1), (233, .getfield 1153, 3), (236, .iload 5, 2), (238, .laload, 1), (239, .lastore, 1), (240, .iinc 5 1, 3), (243, .goto 219, 3), (246, .aload 0, 1), (247, .getfield 1172, 3), (250, .ireturn, 1)]
/-- ProblemTextsModel.keepThings()V -/
def cd_157 : List (Nat × Instr × Nat) := [(0, .aload 0, 1), (1, .getfield 1157, 3), (4, .sipush (0), 1), (5, .aload 0, 1), (6, .getfield 1107, 3), (9, .iastore, 1), (10, .aload 0, 1), (11, .getfield 1157, 3), (14, .sipush (1), 1), (15, .aload 0, 1), (16, .getfield 1111, 3), (19, .iastore, 1), (20, .aload 0, 1), (21, .getfield 1157, 3), (24, .sipush (2), 1), (25, .aload 0, 1), (26, .getfield 1115, 3), (29, .iastore, 1), (30, .aload 0, 1), (31, .getfield 1157, 3), (34, .sipush (3), 1), (35, .aload 0, 1), (36, .getfield 1120, 3), (39, .iastore, 1), (40, .sipush (0), 1), (41, .istore 1, 1), (42, .iload 1, 1), (43, .sipush (10), 2), (45, .if_icmp .ge 141, 3), (48, .aload 0, 1), (49, .getfield 1158, 3), (52, .iload 1, 1), (53, .iload 1, 1), (54, .sipush (6), 2), (56, .if_icmp .ge 68, 3), (59, .aload 0, 1), (60, .getfield 1108, 3), (63, .iload 1, 1), (64, .iaload, 1), (65, .goto 69, 3), (68, .sipush (0), 1), (69, .iastore, 1), (70, .aload 0, 1), (71, .getfield 1158, 3), (74, .sipush (10), 2), (76, .iload 1, 1), (77, .iadd, 1), (78, .iload 1, 1), (79, .sipush (6), 2), (81, .if_icmp .ge 93, 3), (84, .aload 0, 1), (85, .getfield 1112, 3), (88, .iload 1, 1), (89, .iaload, 1), (90, .goto 94, 3), (93, .sipush (0), 1), (94, .iastore, 1), (95, .aload 0, 1), (96, .getfield 1158, 3), (99, .sipush (20), 2), (101, .iload 1, 1), (102, .iadd, 1), (103, .iload 1, 1), (104, .sipush (6), 2), (106, .if_icmp .ge 118, 3), (109, .aload 0, 1), (110, .getfield 1116, 3), (113, .iload 1, 1), (114, .iaload, 1), (115, .goto 119, 3), (118, .sipush (0), 1), (119, .iastore, 1), (120, .aload 0, 1), (121, .getfield 1158, 3), (124, .sipush (30), 2), (126, .iload 1, 1), (127, .iadd, 1), (128, .aload 0, 1), (129, .getfield 1121, 3), (132, .iload 1, 1), (133, .iaload, 1), (134, .iastore, 1), (135, .iinc 1 1, 3), (138, .goto 42, 3), (141, .sipush (0), 1), (142, .istore 1, 1), (143, .iload 1, 1), (144, .sipush (6), 2), (146, .if_icmp .ge 191, 3), (149, .aload 0, 1), (150, .getfield 1159, 3), (153, .iload 1, 1), (154, .aload 0, 1), (155, .getfield 1109, 3), (158, .iload 1, 1), (159, .iaload, 1), (160, .iastore, 1), (161, .aload 0, 1), (162, .getfield 1160, 3), (165, .iload 1, 1), (166, .aload 0, 1), (167, .getfield 1110, 3), (170, .iload 1, 1), (171, .iaload, 1), (172, .iastore, 1), (173, .aload 0, 1), (174, .getfield 1164, 3), (177, .iload 1, 1), (178, .aload 0, 1), (179, .getfield 1156, 3), (182, .iload 1, 1), (183, .iaload, 1), (184, .iastore, 1), (185, .iinc 1 1, 3), (188, .goto 143, 3), (191, .sipush (0), 1), (192, .istore 1, 1), (193, .iload 1, 1), (194, .sipush (12), 2), (196, .if_icmp .ge 229, 3), (199, .aload 0, 1), (200, .getfield 1161, 3), (203, .iload 1, 1), (204, .aload 0, 1), (205, .getfield 1113, 3), (208, .iload 1, 1), (209, .iaload, 1), (210, .iastore, 1), (211, .aload 0, 1), (212, .getfield 1163, 3), (215, .iload 1, 1), (216, .aload 0, 1), (217, .getfield 1117, 3), (220, .iload 1, 1), (221, .iaload, 1), (222, .iastore, 1), (223, .iinc 1 1, 3), (226, .goto 193, 3), (229, .sipush (0), 1), (230, .istore 1, 1), (231, .iload 1, 1), (232, .sipush (384), 3), (235, .if_icmp .ge 256, 3), (238, .aload 0, 1), (239, .getfield 1162, 3), (242, .iload 1, 1), (243, .aload 0, 1), (244, .getfield 1114, 3), (247, .iload 1, 1), (248, .iaload, 1), (249, .iastore, 1), (250, .iinc 1 1, 3), (253, .goto 231, 3), (256, .return_, 1)]
/-- ProblemTextsModel.keepColumns(I)V -/
def cd_158 : List (Nat × Instr × Nat) := [(0, .aload 0, 1), (1, .iload 1, 1), (2, .putfield 1165, 3), (5, .sipush (0), 1), (6, .istore 2, 1), (7, .iload 2, 1), (8, .aload 0, 1), (9, .getfield 1115, 3), (12, .if_icmp .ge 192, 3), (15, .aload 0, 1), (16, .getfield 1117, 3), (19, .sipush (2), 1), (20, .iload 2, 1), (21, .imul, 1), (22, .iaload, 1), (23, .istore 3, 1), (24, .aload 0, 1), (25, .getfield 1117, 3), (28, .sipush (2), 1), (29, .iload 2, 1), (30, .imul, 1), (31, .sipush (1), 1), (32, .iadd, 1), (33, .iaload, 1), (34, .istore 4, 2), (36, .sipush (0), 1), (37, .istore 5, 2), (39, .iload 5, 2), (41, .aload 0, 1), (42, .iload 3, 1), (43, .invokevirtual 127, 3), (46, .aload 0, 1), (47, .iload 4, 2), (49, .invokevirtual 127, 3), (52, .imul, 1), (53, .if_icmp .ge 186, 3), (56, .aload 0, 1), (57, .getfield 1156, 3), (60, .iload 2, 1), (61, .iaload, 1), (62, .iload 5, 2), (64, .iadd, 1), (65, .istore 6, 2), (67, .aload 0, 1), (68, .getfield 1166, 3), (71, .iload 6, 2), (73, .iload 2, 1), (74, .iastore, 1), (75, .aload 0, 1), (76, .getfield 1167, 3), (79, .iload 6, 2), (81, .iload 3, 1), (82, .sipush (-1), 1), (83, .if_icmp .ne 90, 3), (86, .sipush (-1), 1), (87, .goto 106, 3), (90, .aload 0, 1), (91, .getfield 1109, 3), (94, .iload 3, 1), (95, .iaload, 1), (96, .iload 5, 2), (98, .aload 0, 1), (99, .iload 4, 2), (101, .invokevirtual 127, 3), (104, .idiv, 1), (105, .iadd, 1), (106, .iastore, 1), (107, .aload 0, 1), (108, .getfield 1168, 3), (111, .iload 6, 2), (113, .iload 4, 2), (115, .sipush (-1), 1), (116, .if_icmp .ne 123, 3), (119, .sipush (-1), 1), (120, .goto 140, 3), (123, .aload 0, 1), (124, .getfield 1109, 3), (127, .iload 4, 2), (129, .iaload, 1), (130, .iload 5, 2), (132, .aload 0, 1), (133, .iload 4, 2), (135, .invokevirtual 127, 3), (138, .irem, 1), (139, .iadd, 1), (140, .iastore, 1), (141, .aload 0, 1), (142, .getfield 1169, 3), (145, .iload 6, 2), (147, .aload 0, 1), (148, .getfield 1118, 3), (151, .iload 2, 1), (152, .iaload, 1), (153, .iastore, 1), (154, .aload 0, 1), (155, .getfield 1170, 3), (158, .iload 6, 2), (160, .aload 0, 1), (161, .getfield 1119, 3), (164, .iload 2, 1), (165, .iaload, 1), (166, .iastore, 1), (167, .aload 0, 1), (168, .getfield 1171, 3), (171, .iload 6, 2), (173, .aload 0, 1), (174, .getfield 1118, 3), (177, .iload 2, 1), (178, .iaload, 1), (179, .iastore, 1), (180, .iinc 5 1, 3), (183, .goto 39, 3), (186, .iinc 2 1, 3), (189, .goto 7, 3), (192, .return_, 1)]
/-- ProblemTextsModel.keepRows()V -/
def cd_159 : List (Nat × Instr × Nat) := [(0, .aload 0, 1), (1, .sipush (0), 1), (2, .putfield 1172, 3), (5, .sipush (0), 1), (6, .istore 1, 1), (7, .iload 1, 1), (8, .aload 0, 1), (9, .getfield 1120, 3), (12, .if_icmp .ge 321, 3), (15, .aload 0, 1), (16, .getfield 1122, 3), (19, .sipush (2), 1), (20, .iload 1, 1), (21, .imul, 1), (22, .iaload, 1), (23, .istore 2, 1), (24, .aload 0, 1), (25, .getfield 1122, 3), (28, .sipush (2), 1), (29, .iload 1, 1), (30, .imul, 1), (31, .sipush (1), 1), (32, .iadd, 1), (33, .iaload, 1), (34, .istore 3, 1), (35, .sipush (0), 1), (36, .istore 4, 2), (38, .iload 4, 2), (40, .aload 0, 1), (41, .iload 1, 1), (42, .invokevirtual 155, 3), (45, .if_icmp .ge 315, 3), (48, .aload 0, 1), (49, .getfield 1173, 3), (52, .aload 0, 1), (53, .getfield 1172, 3), (56, .iload 1, 1), (57, .iastore, 1), (58, .aload 0, 1), (59, .getfield 1174, 3), (62, .aload 0, 1), (63, .getfield 1172, 3), (66, .iload 2, 1), (67, .sipush (-1), 1), (68, .if_icmp .ne 75, 3), (71, .sipush (-1), 1), (72, .goto 90, 3), (75, .aload 0, 1), (76, .getfield 1109, 3), (79, .iload 2, 1), (80, .iaload, 1), (81, .iload 4, 2), (83, .aload 0, 1), (84, .iload 3, 1), (85, .invokevirtual 127, 3), (88, .idiv, 1), (89, .iadd, 1), (90, .iastore, 1), (91, .aload 0, 1), (92, .getfield 1175, 3), (95, .aload 0, 1), (96, .getfield 1172, 3), (99, .iload 3, 1), (100, .sipush (-1), 1), (101, .if_icmp .ne 108, 3), (104, .sipush (-1), 1), (105, .goto 123, 3), (108, .aload 0, 1), (109, .getfield 1109, 3), (112, .iload 3, 1), (113, .iaload, 1), (114, .iload 4, 2), (116, .aload 0, 1), (117, .iload 3, 1), (118, .invokevirtual 127, 3), (121, .irem, 1), (122, .iadd, 1), (123, .iastore, 1), (124, .aload 0, 1), (125, .getfield 1176, 3), (128, .aload 0, 1), (129, .getfield 1172, 3), (132, .aload 0, 1), (133, .getfield 1123, 3), (136, .iload 1, 1), (137, .iaload, 1), (138, .iastore, 1), (139, .aload 0, 1), (140, .getfield 1155, 3), (143, .sipush (0), 1), (144, .aload 0, 1), (145, .getfield 1174, 3), (148, .aload 0, 1), (149, .getfield 1172, 3), (152, .iaload, 1), (153, .iastore, 1), (154, .aload 0, 1), (155, .getfield 1155, 3), (158, .sipush (1), 1), (159, .aload 0, 1), (160, .getfield 1175, 3), (163, .aload 0, 1), (164, .getfield 1172, 3), (167, .iaload, 1), (168, .iastore, 1), (169, .aload 0, 1), (170, .sipush (0), 1), (171, .putfield 1154, 3), (174, .aload 0, 1), (175, .aload 0, 1), (176, .getfield 1124, 3), (179, .sipush (3), 1), (180, .iload 1, 1), (181, .imul, 1), (182, .iaload, 1), (183, .aload 0, 1), (184, .getfield 1124, 3), (187, .sipush (3), 1), (188, .iload 1, 1), (189, .imul, 1), (190, .sipush (1), 1), (191, .iadd, 1), (192, .iaload, 1), (193, .invokevirtual 151, 3), (196, .aload 0, 1), (197, .aload 0, 1), (198, .getfield 1124, 3), (201, .sipush (3), 1), (202, .iload 1, 1), (203, .imul, 1), (204, .sipush (1), 1), (205, .iadd, 1), (206, .iaload, 1), (207, .aload 0, 1), (208, .getfield 1124, 3), (211, .sipush (3), 1), (212, .iload 1, 1), (213, .imul, 1), (214, .sipush (2), 1), (215, .iadd, 1), (216, .iaload, 1), (217, .invokevirtual 151, 3), (220, .sipush (0), 1), (221, .istore 5, 2), (223, .iload 5, 2), (225, .sipush (40), 2), (227, .if_icmp .ge 269, 3), (230, .aload 0, 1), (231, .getfield 1177, 3), (234, .sipush (41), 2), (236, .aload 0, 1), (237, .getfield 1172, 3), (240, .imul, 1), (241, .iload 5, 2), (243, .iadd, 1), (244, .aload 0, 1), (245, .getfield 1153, 3), (248, .iload 5, 2), (250, .laload, 1), (251, .aload 0, 1), (252, .getfield 1153, 3), (255, .sipush (41), 2), (257, .iload 5, 2), (259, .iadd, 1), (260, .laload, 1), (261, .lsub, 1), (262, .lastore, 1), (263, .iinc 5 1, 3), (266, .goto 223, 3), (269, .aload 0, 1), (270, .getfield 1177, 3), (273, .sipush (41), 2), (275, .aload 0, 1), (276, .getfield 1172, 3), (279, .imul, 1), (280, .sipush (40), 2), (282, .iadd, 1), (283, .aload 0, 1), (284, .getfield 1153, 3), (287, .sipush (81), 2), (289, .laload, 1), (290, .aload 0, 1), (291, .getfield 1153, 3), (294, .sipush (40), 2), (296, .laload, 1), (297, .lsub, 1), (298, .lastore, 1), (299, .aload 0, 1), (300, .dup, 1), (301, .getfield 1172, 3), (304, .sipush (1), 1), (305, .iadd, 1), (306, .putfield 1172, 3), (309, .iinc 4 1, 3), (312, .goto 38, 3), (315, .iinc 1 1, 3), (318, .goto 7, 3), (321, .return_, 1)]
/-- ProblemTextsModel.letter(II)I -/
def cd_160 : List (Nat × Instr × Nat) := [(0, .sipush (0), 1), (1, .istore 2, 1), (2, .iload 0, 1), (3, .istore 3, 1), (4, .iload 3, 1), (5, .ifCond .le 19, 3), (8, .iinc 2 1, 3), (11, .iload 3, 1), (12, .sipush (27), 2), (14, .idiv, 1), (15, .istore 3, 1), (16, .goto 4, 3), (19, .iload 1, 1), (20, .i2l, 1), (21, .jsr_w 0, 1), (22, .iload 2, 1), (23, .sipush (1), 1), (24, .isub, 1), (25, .i2l, 1), (26, .invokestatic 107, 3), (29, .ifCond .ne 36, 3), (32, .sipush (-100001), 3), (35, .ireturn, 1), (36, .iload 0, 1), (37, .istore 3, 1), (38, .iload 2, 1), (39, .sipush (1), 1), (40, .isub, 1), (41, .istore 4, 2), (43, .iload 4, 2), (45, .iload 1, 1), (46, .if_icmp .le 60, 3), (49, .iload 3, 1), (50, .sipush (27), 2), (52, .idiv, 1), (53, .istore 3, 1), (54, .iinc 4 (-1), 3), (57, .goto 43, 3), (60, .sipush (96), 2), (62, .iload 3, 1), (63, .sipush (27), 2), (65, .irem, 1), (66, .iadd, 1), (67, .ireturn, 1)]
/-- ProblemTextsModel.name(III)I -/
def cd_161 : List (Nat × Instr × Nat) := [(0, .iload 1, 1), (1, .i2l, 1), (2, .jsr_w 0, 1), (3, .jsr_w (3), 3), (6, .invokestatic 107, 3), (9, .ifCond .eq 48, 3), (12, .iload 2, 1), (13, .i2l, 1), (14, .jsr_w 0, 1), (15, .aload 0, 1), (16, .getfield 1157, 3), (19, .iload 1, 1), (20, .iaload, 1), (21, .sipush (1), 1), (22, .isub, 1), (23, .i2l, 1), (24, .invokestatic 107, 3), (27, .ifCond .eq 48, 3), (30, .aload 0, 1), (31, .getfield 1158, 3), (34, .sipush (10), 2), (36, .iload 1, 1), (37, .imul, 1), (38, .iload 2, 1), (39, .iadd, 1), (40, .iaload, 1), (41, .iload 3, 1), (42, .invokestatic 160, 3), (45, .goto 51, 3), (48, .sipush (-100001), 3), (51, .ireturn, 1)]
/-- ProblemTextsModel.set(II)I -/
def cd_162 : List (Nat × Instr × Nat) := [(0, .iload 1, 1), (1, .i2l, 1), (2, .jsr_w 0, 1), (3, .aload 0, 1), (4, .getfield 1157, 3), (7, .sipush (0), 1), (8, .iaload, 1), (9, .sipush (1), 1), (10, .isub, 1), (11, .i2l, 1), (12, .invokestatic 107, 3), (15, .ifCond .eq 50, 3), (18, .iload 2, 1), (19, .i2l, 1), (20, .jsr_w 0, 1), (21, .jsr_w 1, 1), (22, .invokestatic 107, 3), (25, .ifCond .eq 50, 3), (28, .iload 2, 1), (29, .ifCond .ne 41, 3), (32, .aload 0, 1), (33, .getfield 1160, 3), (36, .iload 1, 1), (37, .iaload, 1), (38, .goto 53, 3), (41, .aload 0, 1), (42, .getfield 1159, 3), (45, .iload 1, 1), (46, .iaload, 1), (47, .goto 53, 3), (50, .sipush (-100001), 3), (53, .ireturn, 1)]
/-- ProblemTextsModel.isIn(II)Z -/
def cd_163 : List (Nat × Instr × Nat) := [(0, .iload 1, 1), (1, .sipush (-1), 1), (2, .if_icmp .eq 36, 3), (5, .iload 2, 1), (6, .i2l, 1), (7, .aload 0, 1), (8, .getfield 1159, 3), (11, .iload 1, 1), (12, .iaload, 1), (13, .i2l, 1), (14, .aload 0, 1), (15, .getfield 1159, 3), (18, .iload 1, 1), (19, .iaload, 1), (20, .aload 0, 1), (21, .getfield 1160, 3), (24, .iload 1, 1), (25, .iaload, 1), (26, .iadd, 1), (27, .sipush (1), 1), (28, .isub, 1), (29, .i2l, 1), (30, .invokestatic 107, 3), (33, .ifCond .eq 40, 3), (36, .sipush (1), 1), (37, .goto 41, 3), (40, .sipush (0), 1), (41, .ireturn, 1)]
/-- ProblemTextsModel.keptOffset(IIII)I -/
def cd_164 : List (Nat × Instr × Nat) := [(0, .iload 1, 1), (1, .sipush (-1), 1), (2, .if_icmp .ne 9, 3), (5, .sipush (0), 1), (6, .goto 17, 3), (9, .iload 3, 1), (10, .aload 0, 1), (11, .getfield 1159, 3), (14, .iload 1, 1), (15, .iaload, 1), (16, .isub, 1), (17, .istore 5, 2), (19, .iload 2, 1), (20, .sipush (-1), 1), (21, .if_icmp .ne 29, 3), (24, .iload 5, 2), (26, .goto 48, 3), (29, .iload 5, 2), (31, .aload 0, 1), (32, .getfield 1160, 3), (35, .iload 2, 1), (36, .iaload, 1), (37, .imul, 1), (38, .iload 4, 2), (40, .iadd, 1), (41, .aload 0, 1), (42, .getfield 1159, 3), (45, .iload 2, 1), (46, .iaload, 1), (47, .isub, 1), (48, .ireturn, 1)]
/-- ProblemTextsModel.data(III)I -/
def cd_165 : List (Nat × Instr × Nat) := [(0, .iload 1, 1), (1, .i2l, 1), (2, .jsr_w 0, 1), (3, .aload 0, 1), (4, .getfield 1157, 3), (7, .sipush (1), 1), (8, .iaload, 1), (9, .sipush (1), 1), (10, .isub, 1), (11, .i2l, 1), (12, .invokestatic 107, 3), (15, .ifCond .eq 52, 3), (18, .aload 0, 1), (19, .aload 0, 1), (20, .getfield 1161, 3), (23, .sipush (2), 1), (24, .iload 1, 1), (25, .imul, 1), (26, .iaload, 1), (27, .iload 2, 1), (28, .invokevirtual 163, 3), (31, .ifCond .eq 52, 3), (34, .aload 0, 1), (35, .aload 0, 1), (36, .getfield 1161, 3), (39, .sipush (2), 1), (40, .iload 1, 1), (41, .imul, 1), (42, .sipush (1), 1), (43, .iadd, 1), (44, .iaload, 1), (45, .iload 3, 1), (46, .invokevirtual 163, 3), (49, .ifCond .ne 56, 3), (52, .sipush (-100001), 3), (55, .ireturn, 1), (56, .aload 0, 1), (57, .getfield 1162, 3), (60, .sipush (64), 2), (62, .iload 1, 1), (63, .imul, 1), (64, .aload 0, 1), (65, .aload 0, 1), (66, .getfield 1161, 3), (69, .sipush (2), 1), (70, .iload 1, 1), (71, .imul, 1), (72, .iaload, 1), (73, .aload 0, 1), (74, .getfield 1161, 3), (77, .sipush (2), 1), (78, .iload 1, 1), (79, .imul, 1), (80, .sipush (1), 1), (81, .iadd, 1), (82, .iaload, 1), (83, .iload 2, 1), (84, .iload 3, 1), (85, .invokevirtual 164, 3), (88, .iadd, 1), (89, .iaload, 1), (90, .ireturn, 1)]
/-- ProblemTextsModel.column(III)I -/
def cd_166 : List (Nat × Instr × Nat) := [(0, .iload 1, 1), (1, .i2l, 1), (2, .jsr_w 0, 1), (3, .aload 0, 1), (4, .getfield 1157, 3), (7, .sipush (2), 1), (8, .iaload, 1), (9, .sipush (1), 1), (10, .isub, 1), (11, .i2l, 1), (12, .invokestatic 107, 3), (15, .ifCond .eq 52, 3), (18, .aload 0, 1), (19, .aload 0, 1), (20, .getfield 1163, 3), (23, .sipush (2), 1), (24, .iload 1, 1), (25, .imul, 1), (26, .iaload, 1), (27, .iload 2, 1), (28, .invokevirtual 163, 3), (31, .ifCond .eq 52, 3), (34, .aload 0, 1), (35, .aload 0, 1), (36, .getfield 1163, 3), (39, .sipush (2), 1), (40, .iload 1, 1), (41, .imul, 1), (42, .sipush (1), 1), (43, .iadd, 1), (44, .iaload, 1), (45, .iload 3, 1), (46, .invokevirtual 163, 3), (49, .ifCond .ne 56, 3), (52, .sipush (-100001), 3), (55, .ireturn, 1), (56, .aload 0, 1), (57, .getfield 1164, 3), (60, .iload 1, 1), (61, .iaload, 1), (62, .aload 0, 1), (63, .aload 0, 1), (64, .getfield 1163, 3), (67, .sipush (2), 1), (68, .iload 1, 1), (69, .imul, 1), (70, .iaload, 1), (71, .aload 0, 1), (72, .getfield 1163, 3), (75, .sipush (2), 1), (76, .iload 1, 1), (77, .imul, 1), (78, .sipush (1), 1), (79, .iadd, 1), (80, .iaload, 1), (81, .iload 2, 1), (82, .iload 3, 1), (83, .invokevirtual 164, 3), (86, .iadd, 1), (87, .ireturn, 1)]
/-- ProblemTextsModel.isColumn(I)Z -/
def cd_167 : List (Nat × Instr × Nat) := [(0, .iload 1, 1), (1, .i2l, 1), (2, .jsr_w 0, 1), (3, .aload 0, 1), (4, .getfield 1165, 3), (7, .sipush (1), 1), (8, .isub, 1), (9, .i2l, 1), (10, .invokestatic 107, 3), (13, .ireturn, 1)]
/-- ProblemTextsModel.isRow(I)Z -/
def cd_168 : List (Nat × Instr × Nat) := [(0, .iload 1, 1), (1, .i2l, 1), (2, .jsr_w 0, 1), (3, .aload 0, 1), (4, .getfield 1172, 3), (7, .sipush (1), 1), (8, .isub, 1), (9, .i2l, 1), (10, .invokestatic 107, 3), (13, .ireturn, 1)]
/-- ProblemTextsModel.about(II)I -/
def cd_169 : List (Nat × Instr × Nat) := [(0, .aload 0, 1), (1, .iload 1, 1), (2, .invokevirtual 167, 3), (5, .ifCond .ne 12, 3), (8, .sipush (-100001), 3), (11, .ireturn, 1), (12, .iload 2, 1), (13, .tableswitch 94 (0) (5) #[52, 59, 66, 73, 80, 87], 39), (52, .aload 0, 1), (53, .getfield 1166, 3), (56, .iload 1, 1), (57, .iaload, 1), (58, .ireturn, 1), (59, .aload 0, 1), (60, .getfield 1167, 3), (63, .iload 1, 1), (64, .iaload, 1), (65, .ireturn, 1), (66, .aload 0, 1), (67, .getfield 1168, 3), (70, .iload 1, 1), (71, .iaload, 1), (72, .ireturn, 1), (73, .aload 0, 1), (74, .getfield 1169, 3), (77, .iload 1, 1), (78, .iaload, 1), (79, .ireturn, 1), (80, .aload 0, 1), (81, .getfield 1170, 3), (84, .iload 1, 1), (85, .iaload, 1), (86, .ireturn, 1), (87, .aload 0, 1), (88, .getfield 1171, 3), (91, .iload 1, 1), (92, .iaload, 1), (93, .ireturn, 1), (94, .sipush (-100001), 3), (97, .ireturn, 1)]
/-- ProblemTextsModel.row(II)I -/
def cd_170 : List (Nat × Instr × Nat) := [(0, .aload 0, 1), (1, .iload 1, 1), (2, .invokevirtual 168, 3), (5, .ifCond .ne 12, 3), (8, .sipush (-100001), 3), (11, .ireturn, 1), (12, .iload 2, 1), (13, .tableswitch 72 (0) (3) #[44, 51, 58, 65], 31), (44, .aload 0, 1), (45, .getfield 1173, 3), (48, .iload 1, 1), (49, .iaload, 1), (50, .ireturn, 1), (51, .aload 0, 1), (52, .getfield 1174, 3), (55, .iload 1, 1), (56, .iaload, 1), (57, .ireturn, 1), (58, .aload 0, 1), (59, .getfield 1175, 3), (62, .iload 1, 1), (63, .iaload, 1), (64, .ireturn, 1), (65, .aload 0, 1), (66, .getfield 1176, 3), (69, .iload 1, 1), (70, .iaload, 1), (71, .ireturn, 1), (72, .sipush (-100001), 3), (75, .ireturn, 1)]
/-- ProblemTextsModel.factor(II)J -/
def cd_171 : List (Nat × Instr × Nat) := [(0, .aload 0, 1), (1, .iload 1, 1), (2, .invokevirtual 168, 3), (5, .ifCond .eq 30, 3), (8, .aload 0, 1), (9, .iload 2, 1), (10, .invokevirtual 167, 3), (13, .ifCond .eq 30, 3), (16, .aload 0, 1), (17, .getfield 1177, 3), (20, .sipush (41), 2), (22, .iload 1, 1), (23, .imul, 1), (24, .iload 2, 1), (25, .iadd, 1), (26, .laload, 1), (27, .goto 33, 3), (30, .jsr_w (-100001), 3), (33, .lreturn, 1)]
/-- ProblemTextsModel.right(I)J -/
def cd_172 : List (Nat × Instr × Nat) := [(0, .aload 0, 1), (1, .iload 1, 1), (2, .invokevirtual 168, 3), (5, .ifCond .eq 23, 3), (8, .aload 0, 1), (9, .getfield 1177, 3), (12, .sipush (41), 2), (14, .iload 1, 1), (15, .imul, 1), (16, .sipush (40), 2), (18, .iadd, 1), (19, .laload, 1), (20, .goto 26, 3), (23, .jsr_w (-100001), 3), (26, .lreturn, 1)]
/-- ProblemTextsModel.price(I)J -/
def cd_173 : List (Nat × Instr × Nat) := [(0, .iload 1, 1), (1, .sipush (-1), 1), (2, .if_icmp .eq 17, 3), (5, .aload 0, 1), (6, .iload 1, 1), (7, .invokevirtual 167, 3), (10, .ifCond .ne 17, 3), (13, .jsr_w (-100001), 3), (16, .lreturn, 1), (17, .aload 0, 1), (18, .getfield 1178, 3), (21, .ifCond .ne 30, 3), (24, .jsr_w (-100003), 3), (27, .goto 46, 3), (30, .aload 0, 1), (31, .getfield 1179, 3), (34, .iload 1, 1), (35, .sipush (-1), 1), (36, .if_icmp .ne 44, 3), (39, .sipush (40), 2), (41, .goto 45, 3), (44, .iload 1, 1), (45, .laload, 1), (46, .lreturn, 1)]
/-- ProblemTextsModel.count(I)I -/
def cd_174 : List (Nat × Instr × Nat) := [(0, .iload 1, 1), (1, .tableswitch 94 (0) (9) #[56, 56, 56, 56, 63, 68, 73, 79, 84, 89], 55), (56, .aload 0, 1), (57, .getfield 1157, 3), (60, .iload 1, 1), (61, .iaload, 1), (62, .ireturn, 1), (63, .aload 0, 1), (64, .getfield 1165, 3), (67, .ireturn, 1), (68, .aload 0, 1), (69, .getfield 1172, 3), (72, .ireturn, 1), (73, .aload 0, 1), (74, .getfield 1180, 3), (77, .l2i, 1), (78, .ireturn, 1), (79, .aload 0, 1), (80, .getfield 1178, 3), (83, .ireturn, 1), (84, .aload 0, 1), (85, .getfield 1101, 3), (88, .ireturn, 1), (89, .aload 0, 1), (90, .getfield 1181, 3), (93, .ireturn, 1), (94, .sipush (-100001), 3), (97, .ireturn, 1)]
/-- ProblemTextsModel.put(II)I -/
def cd_175 : List (Nat × Instr × Nat) := [(0, .aload 0, 1), (1, .iload 1, 1), (2, .invokevirtual 167, 3), (5, .ifCond .ne 12, 3), (8, .sipush (-100001), 3), (11, .ireturn, 1), (12, .iload 2, 1), (13, .i2l, 1), (14, .aload 0, 1), (15, .getfield 1169, 3), (18, .iload 1, 1), (19, .iaload, 1), (20, .i2l, 1), (21, .aload 0, 1), (22, .getfield 1170, 3), (25, .iload 1, 1), (26, .iaload, 1), (27, .i2l, 1), (28, .invokestatic 107, 3), (31, .ifCond .ne 37, 3), (34, .sipush (-100002), 2), (36, .ireturn, 1), (37, .aload 0, 1), (38, .getfield 1171, 3), (41, .iload 1, 1), (42, .iaload, 1), (43, .istore 3, 1), (44, .aload 0, 1), (45, .getfield 1171, 3), (48, .iload 1, 1), (49, .iload 2, 1), (50, .iastore, 1), (51, .iload 3, 1), (52, .ireturn, 1)]
/-- ProblemTextsModel.leftOf(I)J -/
def cd_176 : List (Nat × Instr × Nat) := [(0, .jsr_w 0, 1), (1, .lstore 2, 1), (2, .sipush (0), 1), (3, .istore 4, 2), (5, .iload 4, 2), (7, .aload 0, 1), (8, .getfield 1165, 3), (11, .if_icmp .ge 44, 3), (14, .lload 2, 1), (15, .aload 0, 1), (16, .getfield 1177, 3), (19, .sipush (41), 2), (21, .iload 1, 1), (22, .imul, 1), (23, .iload 4, 2), (25, .iadd, 1), (26, .laload, 1), (27, .aload 0, 1), (28, .getfield 1171, 3), (31, .iload 4, 2), (33, .iaload, 1), (34, .i2l, 1), (35, .lmul, 1), (36, .ladd, 1), (37, .lstore 2, 1), (38, .iinc 4 1, 3), (41, .goto 5, 3), (44, .lload 2, 1), (45, .lreturn, 1)]
/-- ProblemTextsModel.left(I)J -/
def cd_177 : List (Nat × Instr × Nat) := [(0, .aload 0, 1), (1, .iload 1, 1), (2, .invokevirtual 168, 3), (5, .ifCond .eq 16, 3), (8, .aload 0, 1), (9, .iload 1, 1), (10, .invokevirtual 176, 3), (13, .goto 19, 3), (16, .jsr_w (-100001), 3), (19, .lreturn, 1)]
/-- ProblemTextsModel.isKept(I)Z -/
def cd_178 : List (Nat × Instr × Nat) := [(0, .aload 0, 1), (1, .iload 1, 1), (2, .invokevirtual 176, 3), (5, .lstore 2, 1), (6, .aload 0, 1), (7, .getfield 1177, 3), (10, .sipush (41), 2), (12, .iload 1, 1), (13, .imul, 1), (14, .sipush (40), 2), (16, .iadd, 1), (17, .laload, 1), (18, .lstore 4, 2), (20, .aload 0, 1), (21, .getfield 1176, 3), (24, .iload 1, 1), (25, .iaload, 1), (26, .ifCond .ge 44, 3), (29, .lload 2, 1), (30, .lload 4, 2), (32, .lcmp, 1), (33, .ifCond .gt 40, 3), (36, .sipush (1), 1), (37, .goto 80, 3), (40, .sipush (0), 1), (41, .goto 80, 3), (44, .aload 0, 1), (45, .getfield 1176, 3), (48, .iload 1, 1), (49, .iaload, 1), (50, .ifCond .le 68, 3), (53, .lload 2, 1), (54, .lload 4, 2), (56, .lcmp, 1), (57, .ifCond .lt 64, 3), (60, .sipush (1), 1), (61, .goto 80, 3), (64, .sipush (0), 1), (65, .goto 80, 3), (68, .lload 2, 1), (69, .lload 4, 2), (71, .lcmp, 1), (72, .ifCond .ne 79, 3), (75, .sipush (1), 1), (76, .goto 80, 3), (79, .sipush (0), 1), (80, .ireturn, 1)]
/-- ProblemTextsModel.holds(I)I -/
def cd_179 : List (Nat × Instr × Nat) := [(0, .aload 0, 1), (1, .iload 1, 1), (2, .invokevirtual 168, 3), (5, .ifCond .ne 14, 3), (8, .sipush (-100001), 3), (11, .goto 27, 3), (14, .aload 0, 1), (15, .iload 1, 1), (16, .invokevirtual 178, 3), (19, .ifCond .eq 26, 3), (22, .sipush (1), 1), (23, .goto 27, 3), (26, .sipush (0), 1), (27, .ireturn, 1)]
/-- ProblemTextsModel.broken(I)I -/
def cd_180 : List (Nat × Instr × Nat) := [(0, .iload 1, 1), (1, .ifCond .ge 8, 3), (4, .sipush (-100001), 3), (7, .ireturn, 1), (8, .sipush (0), 1), (9, .istore 2, 1), (10, .sipush (0), 1), (11, .istore 3, 1), (12, .iload 3, 1), (13, .aload 0, 1), (14, .getfield 1172, 3), (17, .if_icmp .ge 44, 3), (20, .aload 0, 1), (21, .iload 3, 1), (22, .invokevirtual 178, 3), (25, .ifCond .ne 38, 3), (28, .iload 2, 1), (29, .iload 1, 1), (30, .if_icmp .ne 35, 3), (33, .iload 3, 1), (34, .ireturn, 1), (35, .iinc 2 1, 3), (38, .iinc 3 1, 3), (41, .goto 12, 3), (44, .sipush (-1), 1), (45, .ireturn, 1)]
/-- ProblemTextsModel.worth()J -/
def cd_181 : List (Nat × Instr × Nat) := [(0, .aload 0, 1), (1, .getfield 1178, 3), (4, .ifCond .ne 11, 3), (7, .jsr_w (-100003), 3), (10, .lreturn, 1), (11, .aload 0, 1), (12, .getfield 1179, 3), (15, .sipush (40), 2), (17, .laload, 1), (18, .lstore 1, 1), (19, .sipush (0), 1), (20, .istore 3, 1), (21, .iload 3, 1), (22, .aload 0, 1), (23, .getfield 1165, 3), (26, .if_icmp .ge 52, 3), (29, .lload 1, 1), (30, .aload 0, 1), (31, .getfield 1179, 3), (34, .iload 3, 1), (35, .laload, 1), (36, .aload 0, 1), (37, .getfield 1171, 3), (40, .iload 3, 1), (41, .iaload, 1), (42, .i2l, 1), (43, .lmul, 1), (44, .ladd, 1), (45, .lstore 1, 1), (46, .iinc 3 1, 3), (49, .goto 21, 3), (52, .lload 1, 1), (53, .lreturn, 1)]
/-- ProblemTextsModel.say(I)V -/
def cd_182 : List (Nat × Instr × Nat) := [(0, .aload 0, 1), (1, .getfield 1182, 3), (4, .aload 0, 1), (5, .getfield 1181, 3), (8, .iload 1, 1), (9, .iastore, 1), (10, .aload 0, 1), (11, .dup, 1), (12, .getfield 1181, 3), (15, .sipush (1), 1), (16, .iadd, 1), (17, .putfield 1181, 3), (20, .return_, 1)]
/-- ProblemTextsModel.sayName(I)V -/
def cd_183 : List (Nat × Instr × Nat) := [(0, .sipush (0), 1), (1, .istore 2, 1), (2, .iload 1, 1), (3, .iload 2, 1), (4, .invokestatic 160, 3), (7, .sipush (-100001), 3), (10, .if_icmp .eq 28, 3), (13, .aload 0, 1), (14, .iload 1, 1), (15, .iload 2, 1), (16, .invokestatic 160, 3), (19, .invokevirtual 182, 3), (22, .iinc 2 1, 3), (25, .goto 2, 3), (28, .return_, 1)]
/-- ProblemTextsModel.saySize(J)V -/
def cd_184 : List (Nat × Instr × Nat) := [(0, .lload 1, 1), (1, .jsr_w 0, 1), (2, .lcmp, 1), (3, .ifCond .le 11, 3), (6, .lload 1, 1), (7, .lneg, 1), (8, .goto 12, 3), (11, .lload 1, 1), (12, .lstore 3, 1), (13, .sipush (0), 1), (14, .istore 5, 2), (16, .lload 3, 1), (17, .jsr_w 0, 1), (18, .lcmp, 1), (19, .ifCond .ne 27, 3), (22, .iload 5, 2), (24, .ifCond .ne 53, 3), (27, .aload 0, 1), (28, .getfield 1183, 3), (31, .iload 5, 2), (33, .lload 3, 1), (34, .jsr_w (10), 3), (37, .lrem, 1), (38, .lneg, 1), (39, .l2i, 1), (40, .iastore, 1), (41, .lload 3, 1), (42, .jsr_w (10), 3), (45, .ldiv, 1), (46, .lstore 3, 1), (47, .iinc 5 1, 3), (50, .goto 16, 3), (53, .iload 5, 2), (55, .sipush (1), 1), (56, .isub, 1), (57, .istore 6, 2), (59, .iload 6, 2), (61, .ifCond .lt 84, 3), (64, .aload 0, 1), (65, .sipush (48), 2), (67, .aload 0, 1), (68, .getfield 1183, 3), (71, .iload 6, 2), (73, .iaload, 1), (74, .iadd, 1), (75, .invokevirtual 182, 3), (78, .iinc 6 (-1), 3), (81, .goto 59, 3), (84, .return_, 1)]
/-- ProblemTextsModel.sayColumn(IJZ)V -/
def cd_185 : List (Nat × Instr × Nat) := [(0, .iload 4, 2), (2, .ifCond .ne 37, 3), (5, .aload 0, 1), (6, .sipush (32), 2), (8, .invokevirtual 182, 3), (11, .aload 0, 1), (12, .lload 2, 1), (13, .jsr_w 0, 1), (14, .lcmp, 1), (15, .ifCond .ge 23, 3), (18, .sipush (45), 2), (20, .goto 25, 3), (23, .sipush (43), 2), (25, .invokevirtual 182, 3), (28, .aload 0, 1), (29, .sipush (32), 2), (31, .invokevirtual 182, 3), (34, .goto 49, 3), (37, .lload 2, 1), (38, .jsr_w 0, 1), (39, .lcmp, 1), (40, .ifCond .ge 49, 3), (43, .aload 0, 1), (44, .sipush (45), 2), (46, .invokevirtual 182, 3), (49, .lload 2, 1), (50, .jsr_w 1, 1), (51, .lcmp, 1), (52, .ifCond .eq 74, 3), (55, .lload 2, 1), (56, .jsr_w (-1), 3), (59, .lcmp, 1), (60, .ifCond .eq 74, 3), (63, .aload 0, 1), (64, .lload 2, 1), (65, .invokevirtual 184, 3), (68, .aload 0, 1), (69, .sipush (42), 2), (71, .invokevirtual 182, 3), (74, .aload 0, 1), (75, .aload 0, 1), (76, .getfield 1158, 3), (79, .sipush (20), 2), (81, .aload 0, 1), (82, .getfield 1166, 3), (85, .iload 1, 1), (86, .iaload, 1), (87, .iadd, 1), (88, .iaload, 1), (89, .invokevirtual 183, 3), (92, .aload 0, 1), (93, .getfield 1167, 3), (96, .iload 1, 1), (97, .iaload, 1), (98, .sipush (-1), 1), (99, .if_icmp .eq 152, 3), (102, .aload 0, 1), (103, .sipush (91), 2), (105, .invokevirtual 182, 3), (108, .aload 0, 1), (109, .aload 0, 1), (110, .getfield 1167, 3), (113, .iload 1, 1), (114, .iaload, 1), (115, .i2l, 1), (116, .invokevirtual 184, 3), (119, .aload 0, 1), (120, .getfield 1168, 3), (123, .iload 1, 1), (124, .iaload, 1), (125, .sipush (-1), 1), (126, .if_icmp .eq 146, 3), (129, .aload 0, 1), (130, .sipush (44), 2), (132, .invokevirtual 182, 3), (135, .aload 0, 1), (136, .aload 0, 1), (137, .getfield 1168, 3), (140, .iload 1, 1), (141, .iaload, 1), (142, .i2l, 1), (143, .invokevirtual 184, 3), (146, .aload 0, 1), (147, .sipush (93), 2), (149, .invokevirtual 182, 3), (152, .return_, 1)]
/-- ProblemTextsModel.print(I)I -/
def cd_186 : List (Nat × Instr × Nat) := [(0, .aload 0, 1), (1, .iload 1, 1), (2, .invokevirtual 168, 3), (5, .ifCond .ne 12, 3), (8, .sipush (-100001), 3), (11, .ireturn, 1), (12, .aload 0, 1), (13, .sipush (0), 1), (14, .putfield 1181, 3), (17, .aload 0, 1), (18, .aload 0, 1), (19, .getfield 1158, 3), (22, .sipush (30), 2), (24, .aload 0, 1), (25, .getfield 1173, 3), (28, .iload 1, 1), (29, .iaload, 1), (30, .iadd, 1), (31, .iaload, 1), (32, .invokevirtual 183, 3), (35, .aload 0, 1), (36, .sipush (58), 2), (38, .invokevirtual 182, 3), (41, .aload 0, 1), (42, .sipush (32), 2), (44, .invokevirtual 182, 3), (47, .sipush (1), 1), (48, .istore 2, 1), (49, .sipush (0), 1), (50, .istore 3, 1), (51, .iload 3, 1), (52, .aload 0, 1), (53, .getfield 1165, 3), (56, .if_icmp .ge 100, 3), (59, .aload 0, 1), (60, .getfield 1177, 3), (63, .sipush (41), 2), (65, .iload 1, 1), (66, .imul, 1), (67, .iload 3, 1), (68, .iadd, 1), (69, .laload, 1), (70, .jsr_w 0, 1), (71, .lcmp, 1), (72, .ifCond .eq 94, 3), (75, .aload 0, 1), (76, .iload 3, 1), (77, .aload 0, 1), (78, .getfield 1177, 3), (81, .sipush (41), 2), (83, .iload 1, 1), (84, .imul, 1), (85, .iload 3, 1), (86, .iadd, 1), (87, .laload, 1), (88, .iload 2, 1), (89, .invokevirtual 185, 3), (92, .sipush (0), 1), (93, .istore 2, 1), (94, .iinc 3 1, 3), (97, .goto 51, 3), (100, .iload 2, 1), (101, .ifCond .eq 110, 3), (104, .aload 0, 1), (105, .sipush (48), 2), (107, .invokevirtual 182, 3), (110, .aload 0, 1), (111, .sipush (32), 2), (113, .invokevirtual 182, 3), (116, .aload 0, 1), (117, .getfield 1176, 3), (120, .iload 1, 1), (121, .iaload, 1), (122, .ifCond .eq 145, 3), (125, .aload 0, 1), (126, .aload 0, 1), (127, .getfield 1176, 3), (130, .iload 1, 1), (131, .iaload, 1), (132, .ifCond .ge 140, 3), (135, .sipush (60), 2), (137, .goto 142, 3), (140, .sipush (62), 2), (142, .invokevirtual 182, 3), (145, .aload 0, 1), (146, .sipush (61), 2), (148, .invokevirtual 182, 3), (151, .aload 0, 1), (152, .sipush (32), 2), (154, .invokevirtual 182, 3), (157, .aload 0, 1), (158, .getfield 1177, 3), (161, .sipush (41), 2), (163, .iload 1, 1), (164, .imul, 1), (165, .sipush (40), 2), (167, .iadd, 1), (168, .laload, 1), (169, .jsr_w 0, 1), (170, .lcmp, 1), (171, .ifCond .ge 180, 3), (174, .aload 0, 1), (175, .sipush (45), 2), (177, .invokevirtual 182, 3), (180, .aload 0, 1), (181, .aload 0, 1), (182, .getfield 1177, 3), (185, .sipush (41), 2), (187, .iload 1, 1), (188, .imul, 1), (189, .sipush (40), 2), (191, .iadd, 1), (192, .laload, 1), (193, .invokevirtual 184, 3), (196, .aload 0, 1), (197, .sipush (59), 2), (199, .invokevirtual 182, 3), (202, .aload 0, 1), (203, .getfield 1181, 3), (206, .ireturn, 1)]
/-- ProblemTextsModel.out(I)I -/
def cd_187 : List (Nat × Instr × Nat) := [(0, .iload 1, 1), (1, .i2l, 1), (2, .jsr_w 0, 1), (3, .aload 0, 1), (4, .getfield 1181, 3), (7, .sipush (1), 1), (8, .isub, 1), (9, .i2l, 1), (10, .invokestatic 107, 3), (13, .ifCond .eq 25, 3), (16, .aload 0, 1), (17, .getfield 1182, 3), (20, .iload 1, 1), (21, .iaload, 1), (22, .goto 26, 3), (25, .sipush (-1), 1), (26, .ireturn, 1)]
/-- java/lang/Long.compare(JJ)I -/
def cd_188 : List (Nat × Instr × Nat) := [(0, .lload 0, 1), (1, .lload 2, 1), (2, .lcmp, 1), (3, .ifCond .ge 10, 3), (6, .sipush (-1), 1), (7, .goto 21, 3), (10, .lload 0, 1), (11, .lload 2, 1), (12, .lcmp, 1), (13, .ifCond .ne 20, 3), (16, .sipush (0), 1), (17, .goto 21, 3), (20, .sipush (1), 1), (21, .ireturn, 1)]
/-- java/lang/String.length()I -/
def cd_189 : List (Nat × Instr × Nat) := [(0, .aload 0, 1), (1, .getfield 1200, 3), (4, .arraylength, 1), (5, .aload 0, 1), (6, .invokevirtual 193, 3), (9, .ishr, 1), (10, .ireturn, 1)]
/-- java/lang/String.charAt(I)C -/
def cd_190 : List (Nat × Instr × Nat) := [(0, .aload 0, 1), (1, .invokevirtual 194, 3), (4, .ifCond .eq 16, 3), (7, .aload 0, 1), (8, .getfield 1200, 3), (11, .iload 1, 1), (12, .invokestatic 196, 3), (15, .ireturn, 1), (16, .aload 0, 1), (17, .getfield 1200, 3), (20, .iload 1, 1), (21, .nop, 3), (24, .ireturn, 1)]
/-- java/lang/String.indexOf(I)I -/
def cd_191 : List (Nat × Instr × Nat) := [(0, .aload 0, 1), (1, .iload 1, 1), (2, .sipush (0), 1), (3, .invokevirtual 192, 3), (6, .ireturn, 1)]
/-- java/lang/String.indexOf(II)I -/
def cd_192 : List (Nat × Instr × Nat) := [(0, .aload 0, 1), (1, .invokevirtual 194, 3), (4, .ifCond .eq 23, 3), (7, .aload 0, 1), (8, .getfield 1200, 3), (11, .iload 1, 1), (12, .iload 2, 1), (13, .aload 0, 1), (14, .invokevirtual 189, 3), (17, .invokestatic 198, 3), (20, .goto 36, 3), (23, .aload 0, 1), (24, .getfield 1200, 3), (27, .iload 1, 1), (28, .iload 2, 1), (29, .aload 0, 1), (30, .invokevirtual 189, 3), (33, .nop, 3), (36, .ireturn, 1)]
/-- java/lang/String.coder()B -/
def cd_193 : List (Nat × Instr × Nat) := [(0, .sipush (1), 3), (3, .ifCond .eq 13, 3), (6, .aload 0, 1), (7, .getfield 1201, 3), (10, .goto 14, 3), (13, .sipush (1), 1), (14, .ireturn, 1)]
/-- java/lang/String.isLatin1()Z -/
def cd_194 : List (Nat × Instr × Nat) := [(0, .sipush (1), 3), (3, .ifCond .eq 17, 3), (6, .aload 0, 1), (7, .getfield 1201, 3), (10, .ifCond .ne 17, 3), (13, .sipush (1), 1), (14, .goto 18, 3), (17, .sipush (0), 1), (18, .ireturn, 1)]
/-- java/lang/String.checkIndex(II)V -/
def cd_195 : List (Nat × Instr × Nat) := [(0, .iload 0, 1), (1, .iload 1, 1), (2, .jsr 1, 3), (5, .invokestatic 201, 3), (8, .pop, 1), (9, .return_, 1)]
/-- java/lang/StringLatin1.charAt([BI)C -/
def cd_196 : List (Nat × Instr × Nat) := [(0, .iload 1, 1), (1, .aload 0, 1), (2, .arraylength, 1), (3, .invokestatic 195, 3), (6, .aload 0, 1), (7, .iload 1, 1), (8, .baload, 1), (9, .sipush (255), 3), (12, .iand, 1), (13, .i2c, 1), (14, .ireturn, 1)]
/-- java/lang/StringLatin1.canEncode(I)Z -/
def cd_197 : List (Nat × Instr × Nat) := [(0, .iload 0, 1), (1, .ifCond .lt 15, 3), (4, .iload 0, 1), (5, .sipush (255), 3), (8, .if_icmp .gt 15, 3), (11, .sipush (1), 1), (12, .goto 16, 3), (15, .sipush (0), 1), (16, .ireturn, 1)]
/-- java/lang/StringLatin1.indexOf([BIII)I -/
def cd_198 : List (Nat × Instr × Nat) := [(0, .iload 1, 1), (1, .invokestatic 197, 3), (4, .ifCond .ne 9, 3), (7, .sipush (-1), 1), (8, .ireturn, 1), (9, .iload 2, 1), (10, .sipush (0), 1), (11, .saload, 3), (14, .istore 2, 1), (15, .iload 3, 1), (16, .aload 0, 1), (17, .arraylength, 1), (18, .sastore, 3), (21, .istore 3, 1), (22, .iload 2, 1), (23, .iload 3, 1), (24, .if_icmp .lt 29, 3), (27, .sipush (-1), 1), (28, .ireturn, 1), (29, .aload 0, 1), (30, .iload 1, 1), (31, .iload 2, 1), (32, .iload 3, 1), (33, .invokestatic 199, 3), (36, .ireturn, 1)]
/-- java/lang/StringLatin1.indexOfChar([BIII)I -/
def cd_199 : List (Nat × Instr × Nat) := [(0, .iload 1, 1), (1, .i2b, 1), (2, .istore 4, 2), (4, .iload 2, 1), (5, .istore 5, 2), (7, .iload 5, 2), (9, .iload 3, 1), (10, .if_icmp .ge 31, 3), (13, .aload 0, 1), (14, .iload 5, 2), (16, .baload, 1), (17, .iload 4, 2), (19, .if_icmp .ne 25, 3), (22, .iload 5, 2), (24, .ireturn, 1), (25, .iinc 5 1, 3), (28, .goto 7, 3), (31, .sipush (-1), 1), (32, .ireturn, 1)]
/-- java/util/Arrays.fill([JJ)V -/
def cd_200 : List (Nat × Instr × Nat) := [(0, .sipush (0), 1), (1, .istore 3, 1), (2, .aload 0, 1), (3, .arraylength, 1), (4, .istore 4, 2), (6, .iload 3, 1), (7, .iload 4, 2), (9, .if_icmp .ge 22, 3), (12, .aload 0, 1), (13, .iload 3, 1), (14, .lload 1, 1), (15, .lastore, 1), (16, .iinc 3 1, 3), (19, .goto 6, 3), (22, .return_, 1)]
/-- jdk/internal/util/Preconditions.checkIndex(IILjava/util/function/BiFunction;)I -/
def cd_201 : List (Nat × Instr × Nat) := [(0, .iload 0, 1), (1, .ifCond .lt 9, 3), (4, .iload 0, 1), (5, .iload 1, 1), (6, .if_icmp .lt 16, 3), (9, .aload 2, 1), (10, .iload 0, 1), (11, .iload 1, 1), (12, .nop, 3), (15, .nop, 1), (16, .iload 0, 1), (17, .ireturn, 1)]
/-- ProblemTextsLaw.law([I)Z -/
def cd_202 : List (Nat × Instr × Nat) := [(0, .new 10, 3), (3, .dup, 1), (4, .invokespecial 80, 3), (7, .astore 1, 1), (8, .new 11, 3), (11, .dup, 1), (12, .invokespecial 106, 3), (15, .astore 2, 1), (16, .sipush (0), 1), (17, .istore 3, 1), (18, .iload 3, 1), (19, .aload 0, 1), (20, .arraylength, 1), (21, .sipush (4), 1), (22, .isub, 1), (23, .if_icmp .gt 729, 3), (26, .aload 0, 1), (27, .iload 3, 1), (28, .iaload, 1), (29, .sipush (31), 2), (31, .iand, 1), (32, .tableswitch 723 (0) (19) #[128, 191, 214, 227, 270, 303, 346, 389, 422, 455, 489, 513, 537, 560, 593, 617, 640, 663, 677, 700], 96), (128, .aload 1, 1), (129, .aload 0, 1), (130, .iload 3, 1), (131, .sipush (1), 1), (132, .iadd, 1), (133, .iaload, 1), (134, .aload 0, 1), (135, .iload 3, 1), (136, .sipush (2), 1), (137, .iadd, 1), (138, .iaload, 1), (139, .i2l, 1), (140, .sipush (32), 2), (142, .lshl, 1), (143, .aload 0, 1), (144, .iload 3, 1), (145, .sipush (3), 1), (146, .iadd, 1), (147, .iaload, 1), (148, .i2l, 1), (149, .jsr_w (4294967295), 3), (152, .land, 1), (153, .lor, 1), (154, .invokevirtual 81, 3), (157, .aload 2, 1), (158, .aload 0, 1), (159, .iload 3, 1), (160, .sipush (1), 1), (161, .iadd, 1), (162, .iaload, 1), (163, .aload 0, 1), (164, .iload 3, 1), (165, .sipush (2), 1), (166, .iadd, 1), (167, .iaload, 1), (168, .i2l, 1), (169, .sipush (32), 2), (171, .lshl, 1), (172, .aload 0, 1), (173, .iload 3, 1), (174, .sipush (3), 1), (175, .iadd, 1), (176, .iaload, 1), (177, .i2l, 1), (178, .jsr_w (4294967295), 3), (181, .land, 1), (182, .lor, 1), (183, .invokevirtual 108, 3), (186, .if_icmp .eq 723, 3), (189, .sipush (0), 1), (190, .ireturn, 1), (191, .aload 1, 1), (192, .aload 0, 1), (193, .iload 3, 1), (194, .sipush (1), 1), (195, .iadd, 1), (196, .iaload, 1), (197, .invokevirtual 82, 3), (200, .aload 2, 1), (201, .aload 0, 1), (202, .iload 3, 1), (203, .sipush (1), 1), (204, .iadd, 1), (205, .iaload, 1), (206, .invokevirtual 109, 3), (209, .if_icmp .eq 723, 3), (212, .sipush (0), 1), (213, .ireturn, 1), (214, .aload 1, 1), (215, .invokevirtual 83, 3), (218, .aload 2, 1), (219, .invokevirtual 156, 3), (222, .if_icmp .eq 723, 3), (225, .sipush (0), 1), (226, .ireturn, 1), (227, .aload 1, 1), (228, .aload 0, 1), (229, .iload 3, 1), (230, .sipush (1), 1), (231, .iadd, 1), (232, .iaload, 1), (233, .aload 0, 1), (234, .iload 3, 1), (235, .sipush (2), 1), (236, .iadd, 1), (237, .iaload, 1), (238, .aload 0, 1), (239, .iload 3, 1), (240, .sipush (3), 1), (241, .iadd, 1), (242, .iaload, 1), (243, .invokevirtual 84, 3), (246, .aload 2, 1), (247, .aload 0, 1), (248, .iload 3, 1), (249, .sipush (1), 1), (250, .iadd, 1), (251, .iaload, 1), (252, .aload 0, 1), (253, .iload 3, 1), (254, .sipush (2), 1), (255, .iadd, 1), (256, .iaload, 1), (257, .aload 0, 1), (258, .iload 3, 1), (259, .sipush (3), 1), (260, .iadd, 1), (261, .iaload, 1), (262, .invokevirtual 161, 3), (265, .if_icmp .eq 723, 3), (268, .sipush (0), 1), (269, .ireturn, 1), (270, .aload 1, 1), (271, .aload 0, 1), (272, .iload 3, 1), (273, .sipush (1), 1), (274, .iadd, 1), (275, .iaload, 1), (276, .aload 0, 1), (277, .iload 3, 1), (278, .sipush (2), 1), (279, .iadd, 1), (280, .iaload, 1), (281, .invokevirtual 85, 3), (284, .aload 2, 1), (285, .aload 0, 1), (286, .iload 3, 1), (287, .sipush (1), 1), (288, .iadd, 1), (289, .iaload, 1), (290, .aload 0, 1), (291, .iload 3, 1), (292, .sipush (2), 1), (293, .iadd, 1), (294, .iaload, 1), (295, .invokevirtual 162, 3), (298, .if_icmp .eq 723, 3), (301, .sipush (0), 1), (302, .ireturn, 1), (303, .aload 1, 1), (304, .aload 0, 1), (305, .iload 3, 1), (306, .sipush (1), 1), (307, .iadd, 1), (308, .iaload, 1), (309, .aload 0, 1), (310, .iload 3, 1), (311, .sipush (2), 1), (312, .iadd, 1), (313, .iaload, 1), (314, .aload 0, 1), (315, .iload 3, 1), (316, .sipush (3), 1), (317, .iadd, 1), (318, .iaload, 1), (319, .invokevirtual 86, 3), (322, .aload 2, 1), (323, .aload 0, 1), (324, .iload 3, 1), (325, .sipush (1), 1), (326, .iadd, 1), (327, .iaload, 1), (328, .aload 0, 1), (329, .iload 3, 1), (330, .sipush (2), 1), (331, .iadd, 1), (332, .iaload, 1), (333, .aload 0, 1), (334, .iload 3, 1), (335, .sipush (3), 1), (336, .iadd, 1), (337, .iaload, 1), (338, .invokevirtual 165, 3), (341, .if_icmp .eq 723, 3), (344, .sipush (0), 1), (345, .ireturn, 1), (346, .aload 1, 1), (347, .aload 0, 1), (348, .iload 3, 1), (349, .sipush (1), 1), (350, .iadd, 1), (351, .iaload, 1), (352, .aload 0, 1), (353, .iload 3, 1), (354, .sipush (2), 1), (355, .iadd, 1), (356, .iaload, 1), (357, .aload 0, 1), (358, .iload 3, 1), (359, .sipush (3), 1), (360, .iadd, 1), (361, .iaload, 1), (362, .invokevirtual 87, 3), (365, .aload 2, 1), (366, .aload 0, 1), (367, .iload 3, 1), (368, .sipush (1), 1), (369, .iadd, 1), (370, .iaload, 1), (371, .aload 0, 1), (372, .iload 3, 1), (373, .sipush (2), 1), (374, .iadd, 1), (375, .iaload, 1), (376, .aload 0, 1), (377, .iload 3, 1), (378, .sipush (3), 1), (379, .iadd, 1), (380, .iaload, 1), (381, .invokevirtual 166, 3), (384, .if_icmp .eq 723, 3), (387, .sipush (0), 1), (388, .ireturn, 1), (389, .aload 1, 1), (390, .aload 0, 1), (391, .iload 3, 1), (392, .sipush (1), 1), (393, .iadd, 1), (394, .iaload, 1), (395, .aload 0, 1), (396, .iload 3, 1), (397, .sipush (2), 1), (398, .iadd, 1), (399, .iaload, 1), (400, .invokevirtual 88, 3), (403, .aload 2, 1), (404, .aload 0, 1), (405, .iload 3, 1), (406, .sipush (1), 1), (407, .iadd, 1), (408, .iaload, 1), (409, .aload 0, 1), (410, .iload 3, 1), (411, .sipush (2), 1), (412, .iadd, 1), (413, .iaload, 1), (414, .invokevirtual 169, 3), (417, .if_icmp .eq 723, 3), (420, .sipush (0), 1), (421, .ireturn, 1), (422, .aload 1, 1), (423, .aload 0, 1), (424, .iload 3, 1), (425, .sipush (1), 1), (426, .iadd, 1), (427, .iaload, 1), (428, .aload 0, 1), (429, .iload 3, 1), (430, .sipush (2), 1), (431, .iadd, 1), (432, .iaload, 1), (433, .invokevirtual 89, 3), (436, .aload 2, 1), (437, .aload 0, 1), (438, .iload 3, 1), (439, .sipush (1), 1), (440, .iadd, 1), (441, .iaload, 1), (442, .aload 0, 1), (443, .iload 3, 1), (444, .sipush (2), 1), (445, .iadd, 1), (446, .iaload, 1), (447, .invokevirtual 170, 3), (450, .if_icmp .eq 723, 3), (453, .sipush (0), 1), (454, .ireturn, 1), (455, .aload 1, 1), (456, .aload 0, 1), (457, .iload 3, 1), (458, .sipush (1), 1), (459, .iadd, 1), (460, .iaload, 1), (461, .aload 0, 1), (462, .iload 3, 1), (463, .sipush (2), 1), (464, .iadd, 1), (465, .iaload, 1), (466, .invokevirtual 90, 3), (469, .aload 2, 1), (470, .aload 0, 1), (471, .iload 3, 1), (472, .sipush (1), 1), (473, .iadd, 1), (474, .iaload, 1), (475, .aload 0, 1), (476, .iload 3, 1), (477, .sipush (2), 1), (478, .iadd, 1), (479, .iaload, 1), (480, .invokevirtual 171, 3), (483, .lcmp, 1), (484, .ifCond .eq 723, 3), (487, .sipush (0), 1), (488, .ireturn, 1), (489, .aload 1, 1), (490, .aload 0, 1), (491, .iload 3, 1), (492, .sipush (1), 1), (493, .iadd, 1), (494, .iaload, 1), (495, .invokevirtual 91, 3), (498, .aload 2, 1), (499, .aload 0, 1), (500, .iload 3, 1), (501, .sipush (1), 1), (502, .iadd, 1), (503, .iaload, 1), (504, .invokevirtual 172, 3), (507, .lcmp, 1), (508, .ifCond .eq 723, 3), (511, .sipush (0), 1), (512, .ireturn, 1), (513, .aload 1, 1), (514, .aload 0, 1), (515, .iload 3, 1), (516, .sipush (1), 1), (517, .iadd, 1), (518, .iaload, 1), (519, .invokevirtual 92, 3), (522, .aload 2, 1), (523, .aload 0, 1), (524, .iload 3, 1), (525, .sipush (1), 1), (526, .iadd, 1), (527, .iaload, 1), (528, .invokevirtual 173, 3), (531, .lcmp, 1), (532, .ifCond .eq 723, 3), (535, .sipush (0), 1), (536, .ireturn, 1), (537, .aload 1, 1), (538, .aload 0, 1), (539, .iload 3, 1), (540, .sipush (1), 1), (541, .iadd, 1), (542, .iaload, 1), (543, .invokevirtual 93, 3), (546, .aload 2, 1), (547, .aload 0, 1), (548, .iload 3, 1), (549, .sipush (1), 1), (550, .iadd, 1), (551, .iaload, 1), (552, .invokevirtual 174, 3), (555, .if_icmp .eq 723, 3), (558, .sipush (0), 1), (559, .ireturn, 1), (560, .aload 1, 1), (561, .aload 0, 1), (562, .iload 3, 1), (563, .sipush (1), 1), (564, .iadd, 1), (565, .iaload, 1), (566, .aload 0, 1), (567, .iload 3, 1), (568, .sipush (2), 1), (569, .iadd, 1), (570, .iaload, 1), (571, .invokevirtual 94, 3), (574, .aload 2, 1), (575, .aload 0, 1), (576, .iload 3, 1), (577, .sipush (1), 1), (578, .iadd, 1), (579, .iaload, 1), (580, .aload 0, 1), (581, .iload 3, 1), (582, .sipush (2), 1), (583, .iadd, 1), (584, .iaload, 1), (585, .invokevirtual 175, 3), (588, .if_icmp .eq 723, 3), (591, .sipush (0), 1), (592, .ireturn, 1), (593, .aload 1, 1), (594, .aload 0, 1), (595, .iload 3, 1), (596, .sipush (1), 1), (597, .iadd, 1), (598, .iaload, 1), (599, .invokevirtual 95, 3), (602, .aload 2, 1), (603, .aload 0, 1), (604, .iload 3, 1), (605, .sipush (1), 1), (606, .iadd, 1), (607, .iaload, 1), (608, .invokevirtual 177, 3), (611, .lcmp, 1), (612, .ifCond .eq 723, 3), (615, .sipush (0), 1), (616, .ireturn, 1), (617, .aload 1, 1), (618, .aload 0, 1), (619, .iload 3, 1), (620, .sipush (1), 1), (621, .iadd, 1), (622, .iaload, 1), (623, .invokevirtual 96, 3), (626, .aload 2, 1), (627, .aload 0, 1), (628, .iload 3, 1), (629, .sipush (1), 1), (630, .iadd, 1), (631, .iaload, 1), (632, .invokevirtual 179, 3), (635, .if_icmp .eq 723, 3), (638, .sipush (0), 1), (639, .ireturn, 1), (640, .aload 1, 1), (641, .aload 0, 1), (642, .iload 3, 1), (643, .sipush (1), 1), (644, .iadd, 1), (645, .iaload, 1), (646, .invokevirtual 97, 3), (649, .aload 2, 1), (650, .aload 0, 1), (651, .iload 3, 1), (652, .sipush (1), 1), (653, .iadd, 1), (654, .iaload, 1), (655, .invokevirtual 180, 3), (658, .if_icmp .eq 723, 3), (661, .sipush (0), 1), (662, .ireturn, 1), (663, .aload 1, 1), (664, .invokevirtual 98, 3), (667, .aload 2, 1), (668, .invokevirtual 181, 3), (671, .lcmp, 1), (672, .ifCond .eq 723, 3), (675, .sipush (0), 1), (676, .ireturn, 1), (677, .aload 1, 1), (678, .aload 0, 1), (679, .iload 3, 1), (680, .sipush (1), 1), (681, .iadd, 1), (682, .iaload, 1), (683, .invokevirtual 99, 3), (686, .aload 2, 1), (687, .aload 0, 1), (688, .iload 3, 1), (689, .sipush (1), 1), (690, .iadd, 1), (691, .iaload, 1), (692, .invokevirtual 186, 3), (695, .if_icmp .eq 723, 3), (698, .sipush (0), 1), (699, .ireturn, 1), (700, .aload 1, 1), (701, .aload 0, 1), (702, .iload 3, 1), (703, .sipush (1), 1), (704, .iadd, 1), (705, .iaload, 1), (706, .invokevirtual 100, 3), (709, .aload 2, 1), (710, .aload 0, 1), (711, .iload 3, 1), (712, .sipush (1), 1), (713, .iadd, 1), (714, .iaload, 1), (715, .invokevirtual 187, 3), (718, .if_icmp .eq 723, 3), (721, .sipush (0), 1), (722, .ireturn, 1), (723, .iinc 3 4, 3), (726, .goto 18, 3), (729, .sipush (1), 1), (730, .ireturn, 1)]
def cdL : List (List (Nat × Instr × Nat)) := [cd_0, cd_1, cd_2, cd_3, cd_4, cd_5, cd_6, cd_7, cd_8, cd_9, cd_10, cd_11, cd_12, cd_13, cd_14, cd_15, cd_16, cd_17, cd_18, cd_19, cd_20, cd_21, cd_22, cd_23, cd_24, cd_25, cd_26, cd_27, cd_28, cd_29, cd_30, cd_31, cd_32, cd_33, cd_34, cd_35, cd_36, cd_37, cd_38, cd_39, cd_40, cd_41, cd_42, cd_43, cd_44, cd_45, cd_46, cd_47, cd_48, cd_49, cd_50, cd_51, cd_52, cd_53, cd_54, cd_55, cd_56, cd_57, cd_58, cd_59, cd_60, cd_61, cd_62, cd_63, cd_64, cd_65, cd_66, cd_67, cd_68, cd_69, cd_70, cd_71, cd_72, cd_73, cd_74, cd_75, cd_76, cd_77, cd_78, cd_79, cd_80, cd_81, cd_82, cd_83, cd_84, cd_85, cd_86, cd_87, cd_88, cd_89, cd_90, cd_91, cd_92, cd_93, cd_94, cd_95, cd_96, cd_97, cd_98, cd_99, cd_100, cd_101, cd_102, cd_103, cd_104, cd_105, cd_106, cd_107, cd_108, cd_109, cd_110, cd_111, cd_112, cd_113, cd_114, cd_115, cd_116, cd_117, cd_118, cd_119, cd_120, cd_121, cd_122, cd_123, cd_124, cd_125, cd_126, cd_127, cd_128, cd_129, cd_130, cd_131, cd_132, cd_133, cd_134, cd_135, cd_136, cd_137, cd_138, cd_139, cd_140, cd_141, cd_142, cd_143, cd_144, cd_145, cd_146, cd_147, cd_148, cd_149, cd_150, cd_151, cd_152, cd_153, cd_154, cd_155, cd_156, cd_157, cd_158, cd_159, cd_160, cd_161, cd_162, cd_163, cd_164, cd_165, cd_166, cd_167, cd_168, cd_169, cd_170, cd_171, cd_172, cd_173, cd_174, cd_175, cd_176, cd_177, cd_178, cd_179, cd_180, cd_181, cd_182, cd_183, cd_184, cd_185, cd_186, cd_187, cd_188, cd_189, cd_190, cd_191, cd_192, cd_193, cd_194, cd_195, cd_196, cd_197, cd_198, cd_199, cd_200, cd_201, cd_202]
def jcode (n : Nat) : List (Nat × Instr × Nat) := cdL.getD n []
end
section
/-! THE CODE LISTS ARE THE BYTES': decoded, and resolved by the link tables -/
def lk3 {α : Type} : List (Nat × α × Nat) → Nat → Option (α × Nat)
  | [], _ => none
  | (a, b) :: r, q => bif Nat.beq a q then some b else lk3 r q
theorem lk3_in {α : Type} : ∀ {L : List (Nat × α × Nat)} {q : Nat} {b : α × Nat}, lk3 L q = some b → (q, b) ∈ L
  | (a, c) :: r, q, b, h => by
    unfold lk3 at h
    cases hb : Nat.beq a q with
    | true =>
      rw [hb] at h
      have hc : c = b := Option.some.inj h
      subst hc
      rw [Nat.eq_of_beq_eq_true hb]
      exact List.mem_cons_self
    | false =>
      rw [hb] at h
      exact List.mem_cons_of_mem _ (lk3_in h)
/-- the abstract instruction of a decoded one at pc in the code of class o -/
def trn (o pc : Nat) (raw : Instr) : Instr := match raw with
  | .iconst n => .sipush n
  | .bipush n => .sipush n
  | .ldc ix => match lk3 (lkI.getD o []) ix with
    | some q => .sipush q.1
    | none => match lk3 (lkS.getD o []) ix with
      | some q => .jsr q.1
      | none => .nop
  | .ldc_w ix => match lk3 (lkI.getD o []) ix with
    | some q => .sipush q.1
    | none => .nop
  | .lconst n => .jsr_w (n.val : Int)
  | .ldc2_w ix => match lk3 (lkL.getD o []) ix with
    | some q => .jsr_w q.1
    | none => .nop
  | .aconst_null => .jsr 0
  | .iload_n n => .iload n.val
  | .lload_n n => .lload n.val
  | .aload_n n => .aload n.val
  | .istore_n n => .istore n.val
  | .lstore_n n => .lstore n.val
  | .astore_n n => .astore n.val
  | .ifCond c t => .ifCond c ((pc : Int) + t)
  | .if_icmp c t => .if_icmp c ((pc : Int) + t)
  | .ifnull t => .ifnull ((pc : Int) + t)
  | .ifnonnull t => .ifnonnull ((pc : Int) + t)
  | .goto t => .goto ((pc : Int) + t)
  | .tableswitch d lo hi ts => .tableswitch ((pc : Int) + d) lo hi (ts.map (fun t => (pc : Int) + t))
  | .lookupswitch d ps => .lookupswitch ((pc : Int) + d) (ps.map (fun q => (q.1, (pc : Int) + q.2)))
  | .getfield ix => match lk3 (lkF.getD o []) ix with
    | some q => .getfield q.1
    | none => .nop
  | .putfield ix => match lk3 (lkF.getD o []) ix with
    | some q => .putfield q.1
    | none => .nop
  | .getstatic ix => match lk3 (lkG.getD o []) ix with
    | some q => bif Nat.beq q.1 0 then .sipush 1 else bif Nat.beq q.1 1 then .jsr 1 else .jsr 3
    | none => .nop
  | .invokevirtual ix => match lk3 (lkM.getD o []) ix with
    | some q => .invokevirtual q.1
    | none => .nop
  | .invokestatic ix => match lk3 (lkM.getD o []) ix with
    | some q => bif Nat.beq q.1 901 then .saload else bif Nat.beq q.1 902 then .sastore else bif Nat.beq q.1 903 then .caload else .invokestatic q.1
    | none => .nop
  | .invokespecial ix => match lk3 (lkM.getD o []) ix with
    | some q => bif Nat.beq q.1 900 then .monitorenter else .invokespecial q.1
    | none => match lk3 (lkN.getD o []) ix with
      | some q => .invokespecial (1000 + q.1)
      | none => .nop
  | .new ix => match lk3 (lkC.getD o []) ix with
    | some q => .new q.1
    | none => .nop
  | .anewarray _ => .anewarray 5
  | .multianewarray _ _ => .multianewarray 6 2
  | .monitorenter => .nop
  | .saload => .nop
  | .sastore => .nop
  | .caload => .nop
  | .jsr _ => .nop
  | .jsr_w _ => .nop
  | .athrow => .nop
  | r => r
/-- what else must hold of a decoded instruction -/
def rawOK (y pc : Nat) (raw : Instr) : Bool := match raw with
  | .bipush n => decide (-128 ≤ n ∧ n ≤ 127)
  | .sipush n => decide (-32768 ≤ n ∧ n ≤ 32767)
  | .ifCond _ t => decide (0 ≤ (pc : Int) + t)
  | .if_icmp _ t => decide (0 ≤ (pc : Int) + t)
  | .ifnull t => decide (0 ≤ (pc : Int) + t)
  | .ifnonnull t => decide (0 ≤ (pc : Int) + t)
  | .goto t => decide (0 ≤ (pc : Int) + t)
  | .tableswitch d _ _ ts => decide (0 ≤ (pc : Int) + d) && ts.toList.all (fun t => decide (0 ≤ (pc : Int) + t))
  | .lookupswitch d ps => decide (0 ≤ (pc : Int) + d) && (ps.toList.all (fun q => decide (0 ≤ (pc : Int) + q.2)) && (ps.toList.zip (ps.toList.drop 1)).all (fun (a, next) => a.1 < next.1))
  | .putfield ix => match lk3 (lkF.getD (mT y).2.2.2.2.1 []) ix with
    | some q => !((kC (q.1 / 100)).2.1 (q.1 % 100)).2.2.2 || (Nat.beq (mT y).2.2.2.2.2.2 2 && decide (((kC (q.1 / 100)).2.1 (q.1 % 100)).1 = oR (mT y).2.2.2.2.1))
    | none => true
  | .getstatic ix => match lk3 (lkG.getD (mT y).2.2.2.2.1 []) ix with
    | some q => Nat.beq q.1 0 || (Nat.beq q.1 1 || (Nat.beq ix 66 && Nat.beq (mT y).2.2.2.2.1 9))
    | none => true
  | .new ix => match lk3 (lkC.getD (mT y).2.2.2.2.1 []) ix with
    | some q => Nat.ble (q.1 + 1) 12
    | none => true
  | .anewarray ix => Nat.beq (mT y).2.2.2.2.1 1 && Nat.beq ix 38
  | .multianewarray ix dm => Nat.beq (mT y).2.2.2.2.1 3 && (Nat.beq ix 9 && Nat.beq dm 2)
  | .invokevirtual ix => match lk3 (lkM.getD (mT y).2.2.2.2.1 []) ix with
    | some q => Nat.beq (mT q.1).2.2.2.2.2.2 0 && Nat.ble (q.1 + 1) 202
    | none => true
  | .invokestatic ix => match lk3 (lkM.getD (mT y).2.2.2.2.1 []) ix with
    | some q => (Nat.beq q.1 901 || (Nat.beq q.1 902 || Nat.beq q.1 903)) || (Nat.beq (mT q.1).2.2.2.2.2.2 1 && Nat.ble (q.1 + 1) 202)
    | none => true
  | .invokespecial ix => match lk3 (lkM.getD (mT y).2.2.2.2.1 []) ix with
    | some q => Nat.beq q.1 900 || (Nat.beq (mT q.1).2.2.2.2.2.2 2 && Nat.ble (q.1 + 1) 202)
    | none => match lk3 (lkN.getD (mT y).2.2.2.2.1 []) ix with
      | some q => Nat.beq (mT q.1).2.2.2.2.2.2 2 && Nat.ble (q.1 + 1) 202
      | none => true
  | _ => true
/-- the length of an instruction (of a switch any) -/
def rln (raw : Instr) (n : Nat) : Nat := match raw with
  | .bipush _ => 2
  | .iload _ => 2
  | .lload _ => 2
  | .aload _ => 2
  | .istore _ => 2
  | .lstore _ => 2
  | .astore _ => 2
  | .ldc _ => 2
  | .newarray _ => 2
  | .sipush _ => 3
  | .ldc_w _ => 3
  | .ldc2_w _ => 3
  | .ifCond _ _ => 3
  | .if_icmp _ _ => 3
  | .ifnull _ => 3
  | .ifnonnull _ => 3
  | .goto _ => 3
  | .iinc _ _ => 3
  | .getfield _ => 3
  | .putfield _ => 3
  | .getstatic _ => 3
  | .invokevirtual _ => 3
  | .invokestatic _ => 3
  | .invokespecial _ => 3
  | .new _ => 3
  | .anewarray _ => 3
  | .multianewarray _ _ => 4
  | .tableswitch _ _ _ _ => n
  | .lookupswitch _ _ => n
  | _ => 1
def okI (y : Nat) (q : Nat × Instr × Nat) : Bool := match decode (mT y).2.1 q.1 with
  | .ok (raw, n) => Nat.beq n q.2.2 && (decide (trn (mT y).2.2.2.2.1 q.1 raw = q.2.1) && (Nat.beq q.2.2 (rln raw q.2.2) && rawOK y q.1 raw))
  | _ => false
theorem okI_e {y : Nat} {q : Nat × Instr × Nat} (h : okI y q = true) : ∃ raw, decode (mT y).2.1 q.1 = .ok (raw, q.2.2) ∧ trn (mT y).2.2.2.2.1 q.1 raw = q.2.1 ∧ q.2.2 = rln raw q.2.2 ∧ rawOK y q.1 raw = true := by
  unfold okI at h
  split at h
  · rename_i raw n hd
    rw [Bool.and_eq_true, Bool.and_eq_true, Bool.and_eq_true, decide_eq_true_eq] at h
    refine ⟨raw, ?_, h.2.1, Nat.eq_of_beq_eq_true h.2.2.1, h.2.2.2⟩
    rw [← Nat.eq_of_beq_eq_true h.1]
    exact hd
  · cases h
def alP (P : Nat → Prop) : Nat → Nat → Prop
  | _, 0 => True
  | s, n + 1 => P s ∧ alP P (s + 1) n
theorem alP_e {P : Nat → Prop} : ∀ {n s : Nat}, alP P s n → ∀ y, s ≤ y → y < s + n → P y
  | 0, s, _, y, h1, h2 => by omega
  | n + 1, s, h, y, h1, h2 => by
    by_cases e : y = s
    · rw [e]; exact h.1
    · exact alP_e h.2 y (by omega) (by omega)
end
section
/-! THE CODE LISTS, CHECKED AGAINST THE BYTES (0) -/
set_option maxRecDepth 100000 in
theorem ok_0 : cd_0.all (okI 0) = true := by decide +kernel
set_option maxRecDepth 100000 in
theorem ok_1 : cd_1.all (okI 1) = true := by decide +kernel
set_option maxRecDepth 100000 in
theorem ok_2 : cd_2.all (okI 2) = true := by decide +kernel
set_option maxRecDepth 100000 in
theorem ok_3 : cd_3.all (okI 3) = true := by decide +kernel
set_option maxRecDepth 100000 in
theorem ok_4 : cd_4.all (okI 4) = true := by decide +kernel
set_option maxRecDepth 100000 in
theorem ok_5 : cd_5.all (okI 5) = true := by decide +kernel
set_option maxRecDepth 100000 in
theorem ok_6 : cd_6.all (okI 6) = true := by decide +kernel
set_option maxRecDepth 100000 in
theorem ok_7 : cd_7.all (okI 7) = true := by decide +kernel
set_option maxRecDepth 100000 in
theorem ok_8 : cd_8.all (okI 8) = true := by decide +kernel
set_option maxRecDepth 100000 in
theorem ok_9 : cd_9.all (okI 9) = true := by decide +kernel
set_option maxRecDepth 100000 in
theorem ok_10 : cd_10.all (okI 10) = true := by decide +kernel
set_option maxRecDepth 100000 in
theorem ok_11 : cd_11.all (okI 11) = true := by decide +kernel
set_option maxRecDepth 100000 in
theorem ok_12 : cd_12.all (okI 12) = true := by decide +kernel
set_option maxRecDepth 100000 in
theorem ok_13 : cd_13.all (okI 13) = true := by decide +kernel
set_option maxRecDepth 100000 in
theorem ok_14 : cd_14.all (okI 14) = true := by decide +kernel
set_option maxRecDepth 100000 in
theorem ok_15 : cd_15.all (okI 15) = true := by decide +kernel
set_option maxRecDepth 100000 in
theorem ok_16 : cd_16.all (okI 16) = true := by decide +kernel
set_option maxRecDepth 100000 in
theorem ok_17 : cd_17.all (okI 17) = true := by decide +kernel
set_option maxRecDepth 100000 in
theorem ok_18 : cd_18.all (okI 18) = true := by decide +kernel
set_option maxRecDepth 100000 in
theorem ok_19 : cd_19.all (okI 19) = true := by decide +kernel
set_option maxRecDepth 100000 in
theorem ok_20 : cd_20.all (okI 20) = true := by decide +kernel
set_option maxRecDepth 100000 in
theorem ok_21 : cd_21.all (okI 21) = true := by decide +kernel
set_option maxRecDepth 100000 in
theorem ok_22 : cd_22.all (okI 22) = true := by decide +kernel
set_option maxRecDepth 100000 in
theorem ok_23 : cd_23.all (okI 23) = true := by decide +kernel
set_option maxRecDepth 100000 in
theorem ok_24 : cd_24.all (okI 24) = true := by decide +kernel
set_option maxRecDepth 100000 in
theorem ok_25 : cd_25.all (okI 25) = true := by decide +kernel
set_option maxRecDepth 100000 in
theorem ok_26 : cd_26.all (okI 26) = true := by decide +kernel
set_option maxRecDepth 100000 in
theorem ok_27 : cd_27.all (okI 27) = true := by decide +kernel
set_option maxRecDepth 100000 in
theorem ok_28 : cd_28.all (okI 28) = true := by decide +kernel
end
section
/-! THE CODE LISTS, CHECKED AGAINST THE BYTES (1) -/
set_option maxRecDepth 100000 in
theorem ok_29 : cd_29.all (okI 29) = true := by decide +kernel
set_option maxRecDepth 100000 in
theorem ok_30 : cd_30.all (okI 30) = true := by decide +kernel
set_option maxRecDepth 100000 in
theorem ok_31 : cd_31.all (okI 31) = true := by decide +kernel
set_option maxRecDepth 100000 in
theorem ok_32 : cd_32.all (okI 32) = true := by decide +kernel
set_option maxRecDepth 100000 in
theorem ok_33 : cd_33.all (okI 33) = true := by decide +kernel
set_option maxRecDepth 100000 in
theorem ok_34 : cd_34.all (okI 34) = true := by decide +kernel
set_option maxRecDepth 100000 in
theorem ok_35 : cd_35.all (okI 35) = true := by decide +kernel
set_option maxRecDepth 100000 in
theorem ok_36 : cd_36.all (okI 36) = true := by decide +kernel
set_option maxRecDepth 100000 in
theorem ok_37 : cd_37.all (okI 37) = true := by decide +kernel
set_option maxRecDepth 100000 in
theorem ok_38 : cd_38.all (okI 38) = true := by decide +kernel
set_option maxRecDepth 100000 in
theorem ok_39 : cd_39.all (okI 39) = true := by decide +kernel
set_option maxRecDepth 100000 in
theorem ok_40 : cd_40.all (okI 40) = true := by decide +kernel
set_option maxRecDepth 100000 in
theorem ok_41 : cd_41.all (okI 41) = true := by decide +kernel
set_option maxRecDepth 100000 in
theorem ok_42 : cd_42.all (okI 42) = true := by decide +kernel
set_option maxRecDepth 100000 in
theorem ok_43 : cd_43.all (okI 43) = true := by decide +kernel
set_option maxRecDepth 100000 in
theorem ok_44 : cd_44.all (okI 44) = true := by decide +kernel
set_option maxRecDepth 100000 in
theorem ok_45 : cd_45.all (okI 45) = true := by decide +kernel
set_option maxRecDepth 100000 in
theorem ok_46 : cd_46.all (okI 46) = true := by decide +kernel
set_option maxRecDepth 100000 in
theorem ok_47 : cd_47.all (okI 47) = true := by decide +kernel
end
section
/-! THE CODE LISTS, CHECKED AGAINST THE BYTES (2) -/
set_option maxRecDepth 100000 in
theorem ok_48 : cd_48.all (okI 48) = true := by decide +kernel
set_option maxRecDepth 100000 in
theorem ok_49 : cd_49.all (okI 49) = true := by decide +kernel
set_option maxRecDepth 100000 in
theorem ok_50 : cd_50.all (okI 50) = true := by decide +kernel
set_option maxRecDepth 100000 in
theorem ok_51 : cd_51.all (okI 51) = true := by decide +kernel
set_option maxRecDepth 100000 in
theorem ok_52 : cd_52.all (okI 52) = true := by decide +kernel
set_option maxRecDepth 100000 in
theorem ok_53 : cd_53.all (okI 53) = true := by decide +kernel
set_option maxRecDepth 100000 in
theorem ok_54 : cd_54.all (okI 54) = true := by decide +kernel
set_option maxRecDepth 100000 in
theorem ok_55 : cd_55.all (okI 55) = true := by decide +kernel
set_option maxRecDepth 100000 in
theorem ok_56 : cd_56.all (okI 56) = true := by decide +kernel
set_option maxRecDepth 100000 in
theorem ok_57 : cd_57.all (okI 57) = true := by decide +kernel
set_option maxRecDepth 100000 in
theorem ok_58 : cd_58.all (okI 58) = true := by decide +kernel
set_option maxRecDepth 100000 in
theorem ok_59 : cd_59.all (okI 59) = true := by decide +kernel
set_option maxRecDepth 100000 in
theorem ok_60 : cd_60.all (okI 60) = true := by decide +kernel
set_option maxRecDepth 100000 in
theorem ok_61 : cd_61.all (okI 61) = true := by decide +kernel
set_option maxRecDepth 100000 in
theorem ok_62 : cd_62.all (okI 62) = true := by decide +kernel
set_option maxRecDepth 100000 in
theorem ok_63 : cd_63.all (okI 63) = true := by decide +kernel
set_option maxRecDepth 100000 in
theorem ok_64 : cd_64.all (okI 64) = true := by decide +kernel
set_option maxRecDepth 100000 in
theorem ok_65 : cd_65.all (okI 65) = true := by decide +kernel
set_option maxRecDepth 100000 in
theorem ok_66 : cd_66.all (okI 66) = true := by decide +kernel
set_option maxRecDepth 100000 in
theorem ok_67 : cd_67.all (okI 67) = true := by decide +kernel
end
section
/-! THE CODE LISTS, CHECKED AGAINST THE BYTES (3) -/
set_option maxRecDepth 100000 in
theorem ok_68 : cd_68.all (okI 68) = true := by decide +kernel
set_option maxRecDepth 100000 in
theorem ok_69 : cd_69.all (okI 69) = true := by decide +kernel
set_option maxRecDepth 100000 in
theorem ok_70 : cd_70.all (okI 70) = true := by decide +kernel
set_option maxRecDepth 100000 in
theorem ok_71 : cd_71.all (okI 71) = true := by decide +kernel
set_option maxRecDepth 100000 in
theorem ok_72 : cd_72.all (okI 72) = true := by decide +kernel
set_option maxRecDepth 100000 in
theorem ok_73 : cd_73.all (okI 73) = true := by decide +kernel
set_option maxRecDepth 100000 in
theorem ok_74 : cd_74.all (okI 74) = true := by decide +kernel
set_option maxRecDepth 100000 in
theorem ok_75 : cd_75.all (okI 75) = true := by decide +kernel
set_option maxRecDepth 100000 in
theorem ok_76 : cd_76.all (okI 76) = true := by decide +kernel
set_option maxRecDepth 100000 in
theorem ok_77 : cd_77.all (okI 77) = true := by decide +kernel
set_option maxRecDepth 100000 in
theorem ok_78 : cd_78.all (okI 78) = true := by decide +kernel
set_option maxRecDepth 100000 in
theorem ok_79 : cd_79.all (okI 79) = true := by decide +kernel
set_option maxRecDepth 100000 in
theorem ok_80 : cd_80.all (okI 80) = true := by decide +kernel
set_option maxRecDepth 100000 in
theorem ok_81 : cd_81.all (okI 81) = true := by decide +kernel
set_option maxRecDepth 100000 in
theorem ok_82 : cd_82.all (okI 82) = true := by decide +kernel
set_option maxRecDepth 100000 in
theorem ok_83 : cd_83.all (okI 83) = true := by decide +kernel
set_option maxRecDepth 100000 in
theorem ok_84 : cd_84.all (okI 84) = true := by decide +kernel
set_option maxRecDepth 100000 in
theorem ok_85 : cd_85.all (okI 85) = true := by decide +kernel
set_option maxRecDepth 100000 in
theorem ok_86 : cd_86.all (okI 86) = true := by decide +kernel
set_option maxRecDepth 100000 in
theorem ok_87 : cd_87.all (okI 87) = true := by decide +kernel
set_option maxRecDepth 100000 in
theorem ok_88 : cd_88.all (okI 88) = true := by decide +kernel
set_option maxRecDepth 100000 in
theorem ok_89 : cd_89.all (okI 89) = true := by decide +kernel
set_option maxRecDepth 100000 in
theorem ok_90 : cd_90.all (okI 90) = true := by decide +kernel
set_option maxRecDepth 100000 in
theorem ok_91 : cd_91.all (okI 91) = true := by decide +kernel
set_option maxRecDepth 100000 in
theorem ok_92 : cd_92.all (okI 92) = true := by decide +kernel
set_option maxRecDepth 100000 in
theorem ok_93 : cd_93.all (okI 93) = true := by decide +kernel
set_option maxRecDepth 100000 in
theorem ok_94 : cd_94.all (okI 94) = true := by decide +kernel
set_option maxRecDepth 100000 in
theorem ok_95 : cd_95.all (okI 95) = true := by decide +kernel
set_option maxRecDepth 100000 in
theorem ok_96 : cd_96.all (okI 96) = true := by decide +kernel
set_option maxRecDepth 100000 in
theorem ok_97 : cd_97.all (okI 97) = true := by decide +kernel
set_option maxRecDepth 100000 in
theorem ok_98 : cd_98.all (okI 98) = true := by decide +kernel
set_option maxRecDepth 100000 in
theorem ok_99 : cd_99.all (okI 99) = true := by decide +kernel
set_option maxRecDepth 100000 in
theorem ok_100 : cd_100.all (okI 100) = true := by decide +kernel
set_option maxRecDepth 100000 in
theorem ok_101 : cd_101.all (okI 101) = true := by decide +kernel
set_option maxRecDepth 100000 in
theorem ok_102 : cd_102.all (okI 102) = true := by decide +kernel
end
section
/-! THE CODE LISTS, CHECKED AGAINST THE BYTES (4) -/
set_option maxRecDepth 100000 in
theorem ok_103 : cd_103.all (okI 103) = true := by decide +kernel
set_option maxRecDepth 100000 in
theorem ok_104 : cd_104.all (okI 104) = true := by decide +kernel
set_option maxRecDepth 100000 in
theorem ok_105 : cd_105.all (okI 105) = true := by decide +kernel
set_option maxRecDepth 100000 in
theorem ok_106 : cd_106.all (okI 106) = true := by decide +kernel
set_option maxRecDepth 100000 in
theorem ok_107 : cd_107.all (okI 107) = true := by decide +kernel
set_option maxRecDepth 100000 in
theorem ok_108 : cd_108.all (okI 108) = true := by decide +kernel
set_option maxRecDepth 100000 in
theorem ok_109 : cd_109.all (okI 109) = true := by decide +kernel
set_option maxRecDepth 100000 in
theorem ok_110 : cd_110.all (okI 110) = true := by decide +kernel
set_option maxRecDepth 100000 in
theorem ok_111 : cd_111.all (okI 111) = true := by decide +kernel
set_option maxRecDepth 100000 in
theorem ok_112 : cd_112.all (okI 112) = true := by decide +kernel
set_option maxRecDepth 100000 in
theorem ok_113 : cd_113.all (okI 113) = true := by decide +kernel
set_option maxRecDepth 100000 in
theorem ok_114 : cd_114.all (okI 114) = true := by decide +kernel
set_option maxRecDepth 100000 in
theorem ok_115 : cd_115.all (okI 115) = true := by decide +kernel
set_option maxRecDepth 100000 in
theorem ok_116 : cd_116.all (okI 116) = true := by decide +kernel
set_option maxRecDepth 100000 in
theorem ok_117 : cd_117.all (okI 117) = true := by decide +kernel
set_option maxRecDepth 100000 in
theorem ok_118 : cd_118.all (okI 118) = true := by decide +kernel
set_option maxRecDepth 100000 in
theorem ok_119 : cd_119.all (okI 119) = true := by decide +kernel
end
section
/-! THE CODE LISTS, CHECKED AGAINST THE BYTES (5) -/
set_option maxRecDepth 100000 in
theorem ok_120 : cd_120.all (okI 120) = true := by decide +kernel
set_option maxRecDepth 100000 in
theorem ok_121 : cd_121.all (okI 121) = true := by decide +kernel
set_option maxRecDepth 100000 in
theorem ok_122 : cd_122.all (okI 122) = true := by decide +kernel
set_option maxRecDepth 100000 in
theorem ok_123 : cd_123.all (okI 123) = true := by decide +kernel
set_option maxRecDepth 100000 in
theorem ok_124 : cd_124.all (okI 124) = true := by decide +kernel
set_option maxRecDepth 100000 in
theorem ok_125 : cd_125.all (okI 125) = true := by decide +kernel
set_option maxRecDepth 100000 in
theorem ok_126 : cd_126.all (okI 126) = true := by decide +kernel
set_option maxRecDepth 100000 in
theorem ok_127 : cd_127.all (okI 127) = true := by decide +kernel
set_option maxRecDepth 100000 in
theorem ok_128 : cd_128.all (okI 128) = true := by decide +kernel
set_option maxRecDepth 100000 in
theorem ok_129 : cd_129.all (okI 129) = true := by decide +kernel
set_option maxRecDepth 100000 in
theorem ok_130 : cd_130.all (okI 130) = true := by decide +kernel
set_option maxRecDepth 100000 in
theorem ok_131 : cd_131.all (okI 131) = true := by decide +kernel
set_option maxRecDepth 100000 in
theorem ok_132 : cd_132.all (okI 132) = true := by decide +kernel
set_option maxRecDepth 100000 in
theorem ok_133 : cd_133.all (okI 133) = true := by decide +kernel
set_option maxRecDepth 100000 in
theorem ok_134 : cd_134.all (okI 134) = true := by decide +kernel
set_option maxRecDepth 100000 in
theorem ok_135 : cd_135.all (okI 135) = true := by decide +kernel
set_option maxRecDepth 100000 in
theorem ok_136 : cd_136.all (okI 136) = true := by decide +kernel
set_option maxRecDepth 100000 in
theorem ok_137 : cd_137.all (okI 137) = true := by decide +kernel
set_option maxRecDepth 100000 in
theorem ok_138 : cd_138.all (okI 138) = true := by decide +kernel
end
section
/-! THE CODE LISTS, CHECKED AGAINST THE BYTES (6) -/
set_option maxRecDepth 100000 in
theorem ok_139 : cd_139.all (okI 139) = true := by decide +kernel
set_option maxRecDepth 100000 in
theorem ok_140 : cd_140.all (okI 140) = true := by decide +kernel
set_option maxRecDepth 100000 in
theorem ok_141 : cd_141.all (okI 141) = true := by decide +kernel
set_option maxRecDepth 100000 in
theorem ok_142 : cd_142.all (okI 142) = true := by decide +kernel
set_option maxRecDepth 100000 in
theorem ok_143 : cd_143.all (okI 143) = true := by decide +kernel
set_option maxRecDepth 100000 in
theorem ok_144 : cd_144.all (okI 144) = true := by decide +kernel
set_option maxRecDepth 100000 in
theorem ok_145 : cd_145.all (okI 145) = true := by decide +kernel
set_option maxRecDepth 100000 in
theorem ok_146 : cd_146.all (okI 146) = true := by decide +kernel
set_option maxRecDepth 100000 in
theorem ok_147 : cd_147.all (okI 147) = true := by decide +kernel
set_option maxRecDepth 100000 in
theorem ok_148 : cd_148.all (okI 148) = true := by decide +kernel
set_option maxRecDepth 100000 in
theorem ok_149 : cd_149.all (okI 149) = true := by decide +kernel
set_option maxRecDepth 100000 in
theorem ok_150 : cd_150.all (okI 150) = true := by decide +kernel
end
section
/-! THE CODE LISTS, CHECKED AGAINST THE BYTES (7) -/
set_option maxRecDepth 100000 in
theorem ok_151 : cd_151.all (okI 151) = true := by decide +kernel
set_option maxRecDepth 100000 in
theorem ok_152 : cd_152.all (okI 152) = true := by decide +kernel
set_option maxRecDepth 100000 in
theorem ok_153 : cd_153.all (okI 153) = true := by decide +kernel
set_option maxRecDepth 100000 in
theorem ok_154 : cd_154.all (okI 154) = true := by decide +kernel
set_option maxRecDepth 100000 in
theorem ok_155 : cd_155.all (okI 155) = true := by decide +kernel
set_option maxRecDepth 100000 in
theorem ok_156 : cd_156.all (okI 156) = true := by decide +kernel
set_option maxRecDepth 100000 in
theorem ok_157 : cd_157.all (okI 157) = true := by decide +kernel
set_option maxRecDepth 100000 in
theorem ok_158 : cd_158.all (okI 158) = true := by decide +kernel
end
section
/-! THE CODE LISTS, CHECKED AGAINST THE BYTES (8) -/
set_option maxRecDepth 100000 in
theorem ok_159 : cd_159.all (okI 159) = true := by decide +kernel
set_option maxRecDepth 100000 in
theorem ok_160 : cd_160.all (okI 160) = true := by decide +kernel
set_option maxRecDepth 100000 in
theorem ok_161 : cd_161.all (okI 161) = true := by decide +kernel
set_option maxRecDepth 100000 in
theorem ok_162 : cd_162.all (okI 162) = true := by decide +kernel
set_option maxRecDepth 100000 in
theorem ok_163 : cd_163.all (okI 163) = true := by decide +kernel
set_option maxRecDepth 100000 in
theorem ok_164 : cd_164.all (okI 164) = true := by decide +kernel
set_option maxRecDepth 100000 in
theorem ok_165 : cd_165.all (okI 165) = true := by decide +kernel
set_option maxRecDepth 100000 in
theorem ok_166 : cd_166.all (okI 166) = true := by decide +kernel
set_option maxRecDepth 100000 in
theorem ok_167 : cd_167.all (okI 167) = true := by decide +kernel
set_option maxRecDepth 100000 in
theorem ok_168 : cd_168.all (okI 168) = true := by decide +kernel
set_option maxRecDepth 100000 in
theorem ok_169 : cd_169.all (okI 169) = true := by decide +kernel
set_option maxRecDepth 100000 in
theorem ok_170 : cd_170.all (okI 170) = true := by decide +kernel
set_option maxRecDepth 100000 in
theorem ok_171 : cd_171.all (okI 171) = true := by decide +kernel
set_option maxRecDepth 100000 in
theorem ok_172 : cd_172.all (okI 172) = true := by decide +kernel
set_option maxRecDepth 100000 in
theorem ok_173 : cd_173.all (okI 173) = true := by decide +kernel
set_option maxRecDepth 100000 in
theorem ok_174 : cd_174.all (okI 174) = true := by decide +kernel
set_option maxRecDepth 100000 in
theorem ok_175 : cd_175.all (okI 175) = true := by decide +kernel
set_option maxRecDepth 100000 in
theorem ok_176 : cd_176.all (okI 176) = true := by decide +kernel
set_option maxRecDepth 100000 in
theorem ok_177 : cd_177.all (okI 177) = true := by decide +kernel
set_option maxRecDepth 100000 in
theorem ok_178 : cd_178.all (okI 178) = true := by decide +kernel
set_option maxRecDepth 100000 in
theorem ok_179 : cd_179.all (okI 179) = true := by decide +kernel
set_option maxRecDepth 100000 in
theorem ok_180 : cd_180.all (okI 180) = true := by decide +kernel
set_option maxRecDepth 100000 in
theorem ok_181 : cd_181.all (okI 181) = true := by decide +kernel
set_option maxRecDepth 100000 in
theorem ok_182 : cd_182.all (okI 182) = true := by decide +kernel
set_option maxRecDepth 100000 in
theorem ok_183 : cd_183.all (okI 183) = true := by decide +kernel
end
section
/-! THE CODE LISTS, CHECKED AGAINST THE BYTES (9) -/
set_option maxRecDepth 100000 in
theorem ok_184 : cd_184.all (okI 184) = true := by decide +kernel
set_option maxRecDepth 100000 in
theorem ok_185 : cd_185.all (okI 185) = true := by decide +kernel
set_option maxRecDepth 100000 in
theorem ok_186 : cd_186.all (okI 186) = true := by decide +kernel
set_option maxRecDepth 100000 in
theorem ok_187 : cd_187.all (okI 187) = true := by decide +kernel
set_option maxRecDepth 100000 in
theorem ok_188 : cd_188.all (okI 188) = true := by decide +kernel
set_option maxRecDepth 100000 in
theorem ok_189 : cd_189.all (okI 189) = true := by decide +kernel
set_option maxRecDepth 100000 in
theorem ok_190 : cd_190.all (okI 190) = true := by decide +kernel
set_option maxRecDepth 100000 in
theorem ok_191 : cd_191.all (okI 191) = true := by decide +kernel
set_option maxRecDepth 100000 in
theorem ok_192 : cd_192.all (okI 192) = true := by decide +kernel
set_option maxRecDepth 100000 in
theorem ok_193 : cd_193.all (okI 193) = true := by decide +kernel
set_option maxRecDepth 100000 in
theorem ok_194 : cd_194.all (okI 194) = true := by decide +kernel
set_option maxRecDepth 100000 in
theorem ok_195 : cd_195.all (okI 195) = true := by decide +kernel
set_option maxRecDepth 100000 in
theorem ok_196 : cd_196.all (okI 196) = true := by decide +kernel
set_option maxRecDepth 100000 in
theorem ok_197 : cd_197.all (okI 197) = true := by decide +kernel
set_option maxRecDepth 100000 in
theorem ok_198 : cd_198.all (okI 198) = true := by decide +kernel
set_option maxRecDepth 100000 in
theorem ok_199 : cd_199.all (okI 199) = true := by decide +kernel
set_option maxRecDepth 100000 in
theorem ok_200 : cd_200.all (okI 200) = true := by decide +kernel
set_option maxRecDepth 100000 in
theorem ok_201 : cd_201.all (okI 201) = true := by decide +kernel
end
section
/-! THE CODE LISTS, CHECKED AGAINST THE BYTES (10) -/
set_option maxRecDepth 100000 in
theorem ok_202 : cd_202.all (okI 202) = true := by decide +kernel
end
section
/-! ALL CODE LISTS -/
def okP (y : Nat) : Prop := (jcode y).all (okI y) = true
theorem okA_0 : alP okP 0 25 := ⟨ok_0, ok_1, ok_2, ok_3, ok_4, ok_5, ok_6, ok_7, ok_8, ok_9, ok_10, ok_11, ok_12, ok_13, ok_14, ok_15, ok_16, ok_17, ok_18, ok_19, ok_20, ok_21, ok_22, ok_23, ok_24, trivial⟩
theorem okA_25 : alP okP 25 25 := ⟨ok_25, ok_26, ok_27, ok_28, ok_29, ok_30, ok_31, ok_32, ok_33, ok_34, ok_35, ok_36, ok_37, ok_38, ok_39, ok_40, ok_41, ok_42, ok_43, ok_44, ok_45, ok_46, ok_47, ok_48, ok_49, trivial⟩
theorem okA_50 : alP okP 50 25 := ⟨ok_50, ok_51, ok_52, ok_53, ok_54, ok_55, ok_56, ok_57, ok_58, ok_59, ok_60, ok_61, ok_62, ok_63, ok_64, ok_65, ok_66, ok_67, ok_68, ok_69, ok_70, ok_71, ok_72, ok_73, ok_74, trivial⟩
theorem okA_75 : alP okP 75 25 := ⟨ok_75, ok_76, ok_77, ok_78, ok_79, ok_80, ok_81, ok_82, ok_83, ok_84, ok_85, ok_86, ok_87, ok_88, ok_89, ok_90, ok_91, ok_92, ok_93, ok_94, ok_95, ok_96, ok_97, ok_98, ok_99, trivial⟩
theorem okA_100 : alP okP 100 25 := ⟨ok_100, ok_101, ok_102, ok_103, ok_104, ok_105, ok_106, ok_107, ok_108, ok_109, ok_110, ok_111, ok_112, ok_113, ok_114, ok_115, ok_116, ok_117, ok_118, ok_119, ok_120, ok_121, ok_122, ok_123, ok_124, trivial⟩
theorem okA_125 : alP okP 125 25 := ⟨ok_125, ok_126, ok_127, ok_128, ok_129, ok_130, ok_131, ok_132, ok_133, ok_134, ok_135, ok_136, ok_137, ok_138, ok_139, ok_140, ok_141, ok_142, ok_143, ok_144, ok_145, ok_146, ok_147, ok_148, ok_149, trivial⟩
theorem okA_150 : alP okP 150 25 := ⟨ok_150, ok_151, ok_152, ok_153, ok_154, ok_155, ok_156, ok_157, ok_158, ok_159, ok_160, ok_161, ok_162, ok_163, ok_164, ok_165, ok_166, ok_167, ok_168, ok_169, ok_170, ok_171, ok_172, ok_173, ok_174, trivial⟩
theorem okA_175 : alP okP 175 25 := ⟨ok_175, ok_176, ok_177, ok_178, ok_179, ok_180, ok_181, ok_182, ok_183, ok_184, ok_185, ok_186, ok_187, ok_188, ok_189, ok_190, ok_191, ok_192, ok_193, ok_194, ok_195, ok_196, ok_197, ok_198, ok_199, trivial⟩
theorem okA_200 : alP okP 200 3 := ⟨ok_200, ok_201, ok_202, trivial⟩
theorem ok_all {y : Nat} (h : y < 203) : ∀ q ∈ jcode y, okI y q = true := by
  suffices hs : okP y from fun q hq => List.all_eq_true.mp hs q hq
  by_cases h0 : y < 25
  · exact alP_e okA_0 y (by omega) (by omega)
  by_cases h25 : y < 50
  · exact alP_e okA_25 y (by omega) (by omega)
  by_cases h50 : y < 75
  · exact alP_e okA_50 y (by omega) (by omega)
  by_cases h75 : y < 100
  · exact alP_e okA_75 y (by omega) (by omega)
  by_cases h100 : y < 125
  · exact alP_e okA_100 y (by omega) (by omega)
  by_cases h125 : y < 150
  · exact alP_e okA_125 y (by omega) (by omega)
  by_cases h150 : y < 175
  · exact alP_e okA_150 y (by omega) (by omega)
  by_cases h175 : y < 200
  · exact alP_e okA_175 y (by omega) (by omega)
  by_cases h200 : y < 203
  · exact alP_e okA_200 y (by omega) (by omega)
  · omega
end
section
/-! THE ABSTRACT MACHINE: values are whole numbers and abstract addresses; a heap is six maps; code is a list of resolved instructions. -/
abbrev AV : Type := Int ⊕ (Int ⊕ (Nat ⊕ Unit))
abbrev jI (x : Int) : AV := .inl x
abbrev jL (x : Int) : AV := .inr (.inl x)
abbrev jP (a : Nat) : AV := .inr (.inr (.inl a))
abbrev jU : AV := .inr (.inr (.inr ()))
/-- tags, lengths, ints, longs, references, the next address, slots used -/
abbrev AH : Type := (Nat → Nat) × (Nat → Nat) × (Nat → Nat → Int) × (Nat → Nat → Int) × (Nat → Nat → Nat) × Nat × Nat
def jt (h : AH) (a : Nat) : Nat := h.1 a
def jn (h : AH) (a : Nat) : Nat := h.2.1 a
def ji (h : AH) (a k : Nat) : Int := h.2.2.1 a k
def jl (h : AH) (a k : Nat) : Int := h.2.2.2.1 a k
def jr (h : AH) (a k : Nat) : Nat := h.2.2.2.2.1 a k
def jx (h : AH) : Nat := h.2.2.2.2.2.1
def ju (h : AH) : Nat := h.2.2.2.2.2.2
def u1 {α : Type} (f : Nat → α) (a : Nat) (x : α) : Nat → α := fun b => if b = a then x else f b
def u2 {α : Type} (f : Nat → Nat → α) (a k : Nat) (x : α) : Nat → Nat → α := fun b j => if b = a ∧ j = k then x else f b j
def uz {α : Type} (f : Nat → Nat → α) (a : Nat) (x : α) : Nat → Nat → α := fun b j => if b = a then x else f b j
def wi (h : AH) (a k : Nat) (x : Int) : AH := (h.1, h.2.1, u2 h.2.2.1 a k x, h.2.2.2.1, h.2.2.2.2.1, h.2.2.2.2.2.1, h.2.2.2.2.2.2)
def wl (h : AH) (a k : Nat) (x : Int) : AH := (h.1, h.2.1, h.2.2.1, u2 h.2.2.2.1 a k x, h.2.2.2.2.1, h.2.2.2.2.2.1, h.2.2.2.2.2.2)
def wr (h : AH) (a k : Nat) (x : Nat) : AH := (h.1, h.2.1, h.2.2.1, h.2.2.2.1, u2 h.2.2.2.2.1 a k x, h.2.2.2.2.2.1, h.2.2.2.2.2.2)
/-- a new cell of tag t with n slots, all 0 -/
def nw (h : AH) (t n : Nat) : AH := (u1 h.1 (jx h) t, u1 h.2.1 (jx h) n, uz h.2.2.1 (jx h) 0, uz h.2.2.2.1 (jx h) 0, uz h.2.2.2.2.1 (jx h) 0, jx h + 1, ju h + n)
/-- new long[n][k] -/
def nm2 (h : AH) (n k : Nat) : AH :=
  (fun b => if b = jx h then 26 else if jx h < b ∧ b ≤ jx h + n then 21 else h.1 b, fun b => if b = jx h then n else if jx h < b ∧ b ≤ jx h + n then k else h.2.1 b,
   fun b j => if jx h ≤ b ∧ b ≤ jx h + n then 0 else h.2.2.1 b j, fun b j => if jx h ≤ b ∧ b ≤ jx h + n then 0 else h.2.2.2.1 b j,
   fun b j => if b = jx h then (if j < n then jx h + 1 + j else 0) else if jx h < b ∧ b ≤ jx h + n then 0 else h.2.2.2.2.1 b j, jx h + 1 + n, ju h + n + n * k)
def w32 (x : Int) : Int := (x + 2147483648) % 4294967296 - 2147483648
def w64 (x : Int) : Int := (x + 9223372036854775808) % 18446744073709551616 - 9223372036854775808
def r32 (x : Int) : Prop := -2147483648 ≤ x ∧ x ≤ 2147483647
def r64 (x : Int) : Prop := -9223372036854775808 ≤ x ∧ x ≤ 9223372036854775807
def isL : AV → Bool
  | .inr (.inl _) => true
  | _ => false
def jcat (v : AV) : Nat := if isL v then 2 else 1
def clrL (v : AV) : AV := if isL v then jU else v
def lset (i : Nat) (v : AV) (loc : List AV) : List AV := (loc.set (i - 1) (clrL (loc.getD (i - 1) jU))).set i v
def lset2 (i : Nat) (v : AV) (loc : List AV) : List AV := (lset i v loc).set (i + 1) jU
def s1I : List AV → (Int → List AV → Prop) → Prop
  | .inl x :: r, k => k x r
  | _, _ => False
def s1L : List AV → (Int → List AV → Prop) → Prop
  | .inr (.inl x) :: r, k => k x r
  | _, _ => False
def s1P : List AV → (Nat → List AV → Prop) → Prop
  | .inr (.inr (.inl x)) :: r, k => k x r
  | _, _ => False
def s1V : List AV → (AV → List AV → Prop) → Prop
  | v :: r, k => isL v = false ∧ k v r
  | _, _ => False
theorem s1I_e {st : List AV} {k : Int → List AV → Prop} (h : s1I st k) : ∃ x r, st = jI x :: r ∧ k x r := by
  match st, h with
  | .inl x :: r, h => exact ⟨x, r, rfl, h⟩
theorem s1L_e {st : List AV} {k : Int → List AV → Prop} (h : s1L st k) : ∃ x r, st = jL x :: r ∧ k x r := by
  match st, h with
  | .inr (.inl x) :: r, h => exact ⟨x, r, rfl, h⟩
theorem s1P_e {st : List AV} {k : Nat → List AV → Prop} (h : s1P st k) : ∃ x r, st = jP x :: r ∧ k x r := by
  match st, h with
  | .inr (.inr (.inl x)) :: r, h => exact ⟨x, r, rfl, h⟩
theorem s1V_e {st : List AV} {k : AV → List AV → Prop} (h : s1V st k) : ∃ x r, st = x :: r ∧ isL x = false ∧ k x r := by
  match st, h with
  | v :: r, h => exact ⟨v, r, rfl, h.1, h.2⟩
def j2 (f : Int32 → Int32 → Int32) (x y : Int) : Int := (f (Int32.ofInt x) (Int32.ofInt y)).toInt
def j1 (f : Int32 → Int32) (x : Int) : Int := (f (Int32.ofInt x)).toInt
def j2L (f : Int64 → Int64 → Int64) (x y : Int) : Int := (f (Int64.ofInt x) (Int64.ofInt y)).toInt
def j2S (f : Int64 → Int32 → Int64) (x y : Int) : Int := (f (Int64.ofInt x) (Int32.ofInt y)).toInt
def jand (x y : Int) : Int := j2 (fun a b => a &&& b) x y
def jor (x y : Int) : Int := j2 (fun a b => a ||| b) x y
def jxor (x y : Int) : Int := j2 (fun a b => a ^^^ b) x y
def jshl (x y : Int) : Int := j2 (fun a b => a <<< (b &&& 31)) x y
def jshr (x y : Int) : Int := j2 (fun a b => a >>> (b &&& 31)) x y
def jush (x y : Int) : Int := j2 (fun a b => (a.toUInt32 >>> (b.toUInt32 &&& Int32.toUInt32 31)).toInt32) x y
def jandL (x y : Int) : Int := j2L (fun a b => a &&& b) x y
def jorL (x y : Int) : Int := j2L (fun a b => a ||| b) x y
def jshlL (x y : Int) : Int := j2S (fun a b => a <<< (b.toInt64 &&& 63)) x y
def jshrL (x y : Int) : Int := j2S (fun a b => a >>> (b.toInt64 &&& 63)) x y
def jushL (x y : Int) : Int := j2S (fun a b => (a.toUInt64 >>> (b.toInt64.toUInt64 &&& Int64.toUInt64 63)).toInt64) x y
def ji2b (x : Int) : Int := j1 (fun a => a.toInt8.toInt32) x
def ji2c (x : Int) : Int := j1 (fun a => (a.toUInt32 % 65536).toInt32) x
def jcmp (x y : Int) : Int := if y < x then 1 else if x = y then 0 else -1
def cnd (c : Jvm.ClassFile.Cond) (x y : Int) : Prop := match c with
  | .eq => x = y
  | .ne => ¬ x = y
  | .lt => x < y
  | .ge => y ≤ x
  | .gt => y < x
  | .le => x ≤ y
/-- a field or an element of type ty -/
def jfl (ty : FieldType) (h : AH) (a k : Nat) : AV := match ty with
  | .long => jL (jl h a k)
  | .object _ => jP (jr h a k)
  | .array _ => jP (jr h a k)
  | _ => jI (ji h a k)
def jpf (ty : FieldType) (stk : List AV) (h : AH) (k : Nat) (K : Nat → List AV → AH → Prop) : Prop := match ty with
  | .long => s1L stk fun x r => s1P r fun a r => K a r (wl h a k x)
  | .object _ => s1P stk fun b r => s1P r fun a r => K a r (wr h a k b)
  | .array _ => s1P stk fun b r => s1P r fun a r => K a r (wr h a k b)
  | .int => s1I stk fun x r => s1P r fun a r => K a r (wi h a k x)
  | .boolean => s1I stk fun x r => s1P r fun a r => (x = 0 ∨ x = 1) ∧ K a r (wi h a k x)
  | _ => False
/-- the element type of the arrays of tag 20 + n (ours) and 40 + n (old ones, never written) -/
def aTy (n : Nat) : FieldType := match n with
  | 0 => .int
  | 1 => .long
  | 2 => .byte
  | 3 => .boolean
  | 5 => .object "ProblemTexts$Part"
  | 6 => .array .long
  | _ => .float
def aT (t : Jvm.ClassFile.ArrayType) : Nat := match t with
  | .int => 0
  | .long => 1
  | .byte => 2
  | .boolean => 3
  | _ => 9
/-- the tag of an object of class ci; a String's is 60 -/
def tg (ci : Nat) : Nat := if ci = 12 then 60 else ci + 1
def inA (h : AH) (a n : Nat) (i : Int) : Prop := (jt h a = 20 + n ∨ jt h a = 40 + n) ∧ 0 ≤ i ∧ i < (jn h a : Int)
def inW (h : AH) (a n : Nat) (i : Int) : Prop := jt h a = 20 + n ∧ 0 ≤ i ∧ i < (jn h a : Int)
def jcl (cl : Nat → List AV → AH → Option AV → AH → Prop) (y : Nat) (stk : List AV) (h : AH) (K : List AV → AH → Prop) : Prop :=
  (mT y).2.2.2.2.2.1 ≤ stk.length ∧ ((stk.drop (mT y).2.2.2.2.2.1).map jcat).sum ≤ 8 ∧ ∃ v h', cl y (stk.take (mT y).2.2.2.2.2.1).reverse h v h' ∧ K (v.toList ++ stk.drop (mT y).2.2.2.2.2.1) h'
def jlook (d : Int) : List (Int × Int) → Int → Int
  | [], _ => d
  | (a, t) :: r, x => if x = a then t else jlook d r x
/-- one step: an instruction over locals, stack and heap; K goes on, R ends the method -/
def jS (cl : Nat → List AV → AH → Option AV → AH → Prop) (ins : Instr) (pc len : Nat) (loc stk : List AV) (h : AH) (K : Nat → List AV → List AV → AH → Prop) (R : Option AV → AH → Prop) : Prop :=
  match ins with
  | .sipush c => r32 c ∧ K (pc + len) loc (jI c :: stk) h
  | .jsr_w c => r64 c ∧ K (pc + len) loc (jL c :: stk) h
  | .jsr a => K (pc + len) loc (jP a.toNat :: stk) h
  | .iload i => s1I [loc.getD i jU] fun x _ => K (pc + len) loc (jI x :: stk) h
  | .lload i => s1L [loc.getD i jU] fun x _ => K (pc + len) loc (jL x :: stk) h
  | .aload i => s1P [loc.getD i jU] fun x _ => K (pc + len) loc (jP x :: stk) h
  | .istore i => s1I stk fun x r => i < loc.length ∧ K (pc + len) (lset i (jI x) loc) r h
  | .lstore i => s1L stk fun x r => i + 1 < loc.length ∧ K (pc + len) (lset2 i (jL x) loc) r h
  | .astore i => s1P stk fun x r => i < loc.length ∧ K (pc + len) (lset i (jP x) loc) r h
  | .iinc i c => s1I [loc.getD i jU] fun x _ => i < loc.length ∧ K (pc + len) (lset i (jI (w32 (x + c))) loc) stk h
  | .iadd => s1I stk fun y r => s1I r fun x r => K (pc + len) loc (jI (w32 (x + y)) :: r) h
  | .isub => s1I stk fun y r => s1I r fun x r => K (pc + len) loc (jI (w32 (x - y)) :: r) h
  | .imul => s1I stk fun y r => s1I r fun x r => K (pc + len) loc (jI (w32 (x * y)) :: r) h
  | .idiv => s1I stk fun y r => s1I r fun x r => ¬ y = 0 ∧ K (pc + len) loc (jI (w32 (Int.tdiv x y)) :: r) h
  | .irem => s1I stk fun y r => s1I r fun x r => ¬ y = 0 ∧ K (pc + len) loc (jI (w32 (Int.tmod x y)) :: r) h
  | .ineg => s1I stk fun x r => K (pc + len) loc (jI (w32 (-x)) :: r) h
  | .iand => s1I stk fun y r => s1I r fun x r => K (pc + len) loc (jI (jand x y) :: r) h
  | .ior => s1I stk fun y r => s1I r fun x r => K (pc + len) loc (jI (jor x y) :: r) h
  | .ixor => s1I stk fun y r => s1I r fun x r => K (pc + len) loc (jI (jxor x y) :: r) h
  | .ishl => s1I stk fun y r => s1I r fun x r => K (pc + len) loc (jI (jshl x y) :: r) h
  | .ishr => s1I stk fun y r => s1I r fun x r => K (pc + len) loc (jI (jshr x y) :: r) h
  | .iushr => s1I stk fun y r => s1I r fun x r => K (pc + len) loc (jI (jush x y) :: r) h
  | .ladd => s1L stk fun y r => s1L r fun x r => K (pc + len) loc (jL (w64 (x + y)) :: r) h
  | .lsub => s1L stk fun y r => s1L r fun x r => K (pc + len) loc (jL (w64 (x - y)) :: r) h
  | .lmul => s1L stk fun y r => s1L r fun x r => K (pc + len) loc (jL (w64 (x * y)) :: r) h
  | .ldiv => s1L stk fun y r => s1L r fun x r => ¬ y = 0 ∧ K (pc + len) loc (jL (w64 (Int.tdiv x y)) :: r) h
  | .lrem => s1L stk fun y r => s1L r fun x r => ¬ y = 0 ∧ K (pc + len) loc (jL (w64 (Int.tmod x y)) :: r) h
  | .lneg => s1L stk fun x r => K (pc + len) loc (jL (w64 (-x)) :: r) h
  | .land => s1L stk fun y r => s1L r fun x r => K (pc + len) loc (jL (jandL x y) :: r) h
  | .lor => s1L stk fun y r => s1L r fun x r => K (pc + len) loc (jL (jorL x y) :: r) h
  | .lshl => s1I stk fun y r => s1L r fun x r => K (pc + len) loc (jL (jshlL x y) :: r) h
  | .lshr => s1I stk fun y r => s1L r fun x r => K (pc + len) loc (jL (jshrL x y) :: r) h
  | .lushr => s1I stk fun y r => s1L r fun x r => K (pc + len) loc (jL (jushL x y) :: r) h
  | .i2l => s1I stk fun x r => K (pc + len) loc (jL x :: r) h
  | .l2i => s1L stk fun x r => K (pc + len) loc (jI (w32 x) :: r) h
  | .i2b => s1I stk fun x r => K (pc + len) loc (jI (ji2b x) :: r) h
  | .i2c => s1I stk fun x r => K (pc + len) loc (jI (ji2c x) :: r) h
  | .lcmp => s1L stk fun y r => s1L r fun x r => K (pc + len) loc (jI (jcmp x y) :: r) h
  | .dup => s1V stk fun v r => K (pc + len) loc (v :: v :: r) h
  | .pop => s1V stk fun _ r => K (pc + len) loc r h
  | .dup2 => s1V stk fun v r => s1V r fun w r => K (pc + len) loc (v :: w :: v :: w :: r) h
  | .ifCond c t => s1I stk fun x r => (cnd c x 0 → K t.toNat loc r h) ∧ (¬ cnd c x 0 → K (pc + len) loc r h)
  | .if_icmp c t => s1I stk fun y r => s1I r fun x r => (cnd c x y → K t.toNat loc r h) ∧ (¬ cnd c x y → K (pc + len) loc r h)
  | .ifnull t => s1P stk fun a r => ¬ a = 1 ∧ (a = 0 → K t.toNat loc r h) ∧ (¬ a = 0 → K (pc + len) loc r h)
  | .ifnonnull t => s1P stk fun a r => ¬ a = 1 ∧ (¬ a = 0 → K t.toNat loc r h) ∧ (a = 0 → K (pc + len) loc r h)
  | .goto t => K t.toNat loc stk h
  | .tableswitch d lo hi ts => s1I stk fun x r => ((x < lo ∨ hi < x) → K d.toNat loc r h) ∧ (¬ (x < lo ∨ hi < x) → ∃ t, ts.toList[(x - lo).toNat]? = some t ∧ K t.toNat loc r h)
  | .lookupswitch d ps => s1I stk fun x r => K (jlook d ps.toList x).toNat loc r h
  | .getfield e => s1P stk fun a r => jt h a = tg (e / 100) ∧ K (pc + len) loc (jfl (kTy (e / 100) (e % 100)) h a (e % 100) :: r) h
  | .putfield e => jpf (kTy (e / 100) (e % 100)) stk h (e % 100) fun a r h' => jt h a = tg (e / 100) ∧ e / 100 < 12 ∧ K (pc + len) loc r h'
  | .new ci => ci < 12 ∧ K (pc + len) loc (jP (jx h) :: stk) (nw h (ci + 1) (kC ci).2.2)
  | .newarray t => s1I stk fun n r => 0 ≤ n ∧ n ≤ 1000000 ∧ aT t < 4 ∧ K (pc + len) loc (jP (jx h) :: r) (nw h (20 + aT t) n.toNat)
  | .anewarray e => s1I stk fun n r => 0 ≤ n ∧ n ≤ 1000000 ∧ e = 5 ∧ K (pc + len) loc (jP (jx h) :: r) (nw h 25 n.toNat)
  | .multianewarray _ _ => s1I stk fun k r => s1I r fun n r => 0 ≤ n ∧ n ≤ 1000 ∧ 0 ≤ k ∧ k ≤ 1000 ∧ K (pc + len) loc (jP (jx h) :: r) (nm2 h n.toNat k.toNat)
  | .arraylength => s1P stk fun a r => 20 ≤ jt h a ∧ jt h a < 60 ∧ K (pc + len) loc (jI (jn h a) :: r) h
  | .iaload => s1I stk fun i r => s1P r fun a r => inA h a 0 i ∧ K (pc + len) loc (jI (ji h a i.toNat) :: r) h
  | .laload => s1I stk fun i r => s1P r fun a r => inA h a 1 i ∧ K (pc + len) loc (jL (jl h a i.toNat) :: r) h
  | .baload => s1I stk fun i r => s1P r fun a r => (inA h a 2 i ∨ inA h a 3 i) ∧ K (pc + len) loc (jI (ji h a i.toNat) :: r) h
  | .aaload => s1I stk fun i r => s1P r fun a r => (inA h a 5 i ∨ inA h a 6 i) ∧ K (pc + len) loc (jP (jr h a i.toNat) :: r) h
  | .iastore => s1I stk fun x r => s1I r fun i r => s1P r fun a r => inW h a 0 i ∧ K (pc + len) loc r (wi h a i.toNat x)
  | .lastore => s1L stk fun x r => s1I r fun i r => s1P r fun a r => inW h a 1 i ∧ K (pc + len) loc r (wl h a i.toNat x)
  | .bastore => s1I stk fun x r => s1I r fun i r => s1P r fun a r => ((inW h a 2 i ∧ -128 ≤ x ∧ x ≤ 127) ∨ (inW h a 3 i ∧ (x = 0 ∨ x = 1))) ∧ K (pc + len) loc r (wi h a i.toNat x)
  | .aastore => s1P stk fun b r => s1I r fun i r => s1P r fun a r => inW h a 5 i ∧ (b = 0 ∨ jt h b = 6) ∧ K (pc + len) loc r (wr h a i.toNat b)
  | .invokevirtual y => (∃ a, ((stk.take (mT y).2.2.2.2.2.1).reverse)[0]? = some (jP a) ∧ jt h a = tg (mT y).2.2.2.2.1) ∧ jcl cl y stk h fun st h' => K (pc + len) loc st h'
  | .invokestatic y => jcl cl y stk h fun st h' => K (pc + len) loc st h'
  | .invokespecial e => (∃ a, ((stk.take (mT (e % 1000)).2.2.2.2.2.1).reverse)[0]? = some (jP a) ∧ 2 ≤ a) ∧ jcl cl (e % 1000) stk h fun st h' => K (pc + len) loc st h'
  | .saload => s1I stk fun y r => s1I r fun x r => (r.map jcat).sum ≤ 8 ∧ K (pc + len) loc (jI (if x < y then y else x) :: r) h
  | .sastore => s1I stk fun y r => s1I r fun x r => (r.map jcat).sum ≤ 8 ∧ K (pc + len) loc (jI (if y < x then y else x) :: r) h
  | .caload => s1L stk fun y r => s1L r fun x r => (r.map jcat).sum ≤ 8 ∧ K (pc + len) loc (jL (if y < x then y else x) :: r) h
  | .monitorenter => s1P stk fun a r => 2 ≤ a ∧ (r.map jcat).sum ≤ 8 ∧ K (pc + len) loc r h
  | .ireturn => s1I stk fun x r => r = [] ∧ R (some (jI x)) h
  | .lreturn => s1L stk fun x r => r = [] ∧ R (some (jL x)) h
  | .areturn => s1P stk fun x r => r = [] ∧ R (some (jP x)) h
  | .return_ => stk = [] ∧ R none h
  | _ => False
def jc : List (Nat × Instr × Nat) → Nat → Option (Instr × Nat)
  | [], _ => none
  | (p, i) :: r, q => bif Nat.beq p q then some i else jc r q
def rtOK (rt : Option FieldType) (v : Option AV) : Prop := match rt, v with
  | none, none => True
  | some .int, some (.inl _) => True
  | some .boolean, some (.inl x) => x = 0 ∨ x = 1
  | some .byte, some (.inl x) => -128 ≤ x ∧ x ≤ 127
  | some .char, some (.inl x) => 0 ≤ x ∧ x ≤ 65535
  | some .long, some (.inr (.inl _)) => True
  | some (.object _), some (.inr (.inr (.inl _))) => True
  | some (.array _), some (.inr (.inr (.inl _))) => True
  | _, _ => False
/-- from pc the frame comes within n steps to its end with the answer v0 and the heap h0 -/
def jPa (cl : Nat → List AV → AH → Option AV → AH → Prop) (cd : List (Nat × Instr × Nat)) (rt : Option FieldType) (v0 : Option AV) (h0 : AH) : Nat → Nat → List AV → List AV → AH → Prop
  | 0, _, _, _, _ => False
  | n + 1, pc, loc, stk, h => match jc cd pc with
    | some q => jS cl q.1 pc q.2 loc stk h (jPa cl cd rt v0 h0 n) (fun v h' => rtOK rt v ∧ v = v0 ∧ h' = h0)
    | none => False
def jarg : List AV → List AV
  | [] => []
  | v :: r => if isL v then v :: jU :: jarg r else v :: jarg r
/-- the locals at a method's entry -/
def jent (n : Nat) (as : List AV) : List AV := jarg as ++ List.replicate (n - (jarg as).length) jU
/-- method y, called with as at h, answers v and leaves h'; at most d frames stand -/
def jE : Nat → Nat → List AV → AH → Option AV → AH → Prop
  | 0, _, _, _, _, _ => False
  | d + 1, y, as, h, v, h' => (jarg as).length ≤ (mT y).2.2.1 ∧ ∃ n, jPa (jE d) (jcode y) (mT y).2.2.2.1 v h' n 0 (jent (mT y).2.2.1 as) [] h
end
section
/-! WHAT TIES THE MACHINE TO THE ABSTRACT ONE -/
/-- the words that every method rests on: those of the tables that a call keeps -/
def gw : List Cond := lw_tbl.filter goodWord
theorem gw_of {w : Cond} (h : w ∈ lw_tbl) (hg : goodWord w = true) : w ∈ gw := List.mem_filter.mpr ⟨h, hg⟩
theorem gw_good : GoodIn gw gw := fun w hw => ⟨hw, good_of_word (List.mem_filter.mp hw).2⟩
/-- real addresses of the old cells (below 32), the value of the one static of which nothing is known, class ids, field slots, the first new real address -/
abbrev jD : Type := (Nat → Nat) × Value × (Nat → ClassId) × (Nat → Nat → Nat) × Nat
def jA (D : jD) (a : Nat) : Nat := if a < 32 then D.1 a else D.2.2.2.2 + (a - 32)
def jVp (D : jD) (a : Nat) : Value := if a = 0 then .null else if a = 1 then D.2.1 else .ref (jA D a)
def jV (D : jD) : AV → Value
  | .inl x => .int (Int32.ofInt x)
  | .inr (.inl x) => .long (Int64.ofInt x)
  | .inr (.inr (.inl a)) => jVp D a
  | .inr (.inr (.inr _)) => .int 0
def jfv (D : jD) : Prop := D.2.1 = .null ∨ ∃ a, D.2.1 = .ref a
def vok : AV → Prop
  | .inl x => r32 x
  | .inr (.inl x) => r64 x
  | _ => True
/-- the string constants: own class, entry, text, abstract address -/
def strL : List (String × Nat × String × Nat) := [(RX9, 69, "=+-*()[],;:", 4), (RX10, 200, ": ", 5), (RX10, 229, "-", 6), (RX10, 231, "", 7), (RX10, 233, " - ", 8), (RX10, 235, " + ", 9), (RX10, 210, " <= ", 10), (RX10, 212, " = ", 11), (RX10, 214, " >= ", 12)]
def jNew (D : jD) : Nat → Prop := fun q => D.2.2.2.2 ≤ q
def jOld (D : jD) (U : State) (H : Heap) : Prop :=
  va_Z "ProblemTexts" "WORDS" "[I" (jV D (jP 3)) (jNew D) U H ∧ va_Z "java/lang/String" "COMPACT_STRINGS" "Z" (.int 1) (jNew D) U H ∧
  va_Z "jdk/internal/util/Preconditions" "SIOOBE_FORMATTER" "Ljava/util/function/BiFunction;" D.2.1 (jNew D) U H
def jC (D : jD) (U : State) (H : Heap) (h : AH) (a : Nat) : Prop :=
  (jt h a < 20 → ∃ cell, H[jA D a]? = some cell ∧ cell.cls = D.2.2.1 (jt h a - 1) ∧ cell.vm = .none ∧ jt h a - 1 < 12 ∧ ∀ k, k < (kC (jt h a - 1)).2.2 → cell.slots[D.2.2.2.1 (jt h a - 1) k]? = some (jV D (jfl (kTy (jt h a - 1) k) h a k))) ∧
  (20 ≤ jt h a → jt h a < 60 → ∃ cell, H[jA D a]? = some cell ∧ U.isArrayOf cell (aTy (jt h a % 20)) ∧ cell.vm ≠ .unknown ∧ (jn h a ≤ cell.slots.size ∧ cell.slots.size.toInt32 = Int32.ofNat (jn h a)) ∧ jn h a < 2 ^ 31 ∧ (∀ k, k < jn h a → cell.slots[k]? = some (jV D (jfl (aTy (jt h a % 20)) h a k))) ∧ (jt h a = 25 → va_RA U cell.cls (.object "ProblemTexts$Part"))) ∧
  (60 ≤ jt h a → va_O "java/lang/String" (jA D a) (jNew D) U H ∧ va_OF "java/lang/String" "value" "[B" (jV D (jfl (kTy 12 0) h a 0)) (jA D a) (jNew D) U H ∧ va_OF "java/lang/String" "coder" "B" (jV D (jfl (kTy 12 1) h a 1)) (jA D a) (jNew D) U H)
def jM (D : jD) (U : State) (H : Heap) (h : AH) : Prop :=
  (∀ a, ¬ jt h a = 0 → jC D U H h a) ∧ (H.size = D.2.2.2.2 + (jx h - 32) ∧ 32 ≤ jx h) ∧ (∀ a, ¬ jt h a = 0 → (2 ≤ a ∧ a < 32 ∧ 40 ≤ jt h a ∧ D.1 a < D.2.2.2.2) ∨ (32 ≤ a ∧ a < jx h ∧ jt h a < 40)) ∧
  (∀ a k, r32 (ji h a k) ∧ r64 (jl h a k)) ∧ jOld D U H ∧ jfv D
def eqat (h h' : AH) (b : Nat) : Prop := jt h' b = jt h b ∧ jn h' b = jn h b ∧ ∀ k, ji h' b k = ji h b k ∧ jl h' b k = jl h b k ∧ jr h' b k = jr h b k
theorem eqat.fl {h h' : AH} {b : Nat} (e : eqat h h' b) (ty : FieldType) (k : Nat) : jfl ty h' b k = jfl ty h b k := by
  obtain ⟨-, -, e⟩ := e
  obtain ⟨e1, e2, e3⟩ := e k
  cases ty <;> simp [jfl, e1, e2, e3]
theorem jA_new {D : jD} {a : Nat} (h : 32 ≤ a) : jA D a = D.2.2.2.2 + (a - 32) := by
  unfold jA
  rw [if_neg (by omega)]
theorem jA_old {D : jD} {a : Nat} (h : a < 32) : jA D a = D.1 a := by
  unfold jA
  rw [if_pos h]
theorem jM.ne {D : jD} {U : State} {H : Heap} {h : AH} (hM : jM D U H h) {a b : Nat} (ha : ¬ jt h a = 0) (hb : 32 ≤ b) (hab : a ≠ b) : jA D a ≠ jA D b := by
  rw [jA_new hb]
  rcases hM.2.2.1 a ha with ⟨-, q1, -, q3⟩ | ⟨q1, -, -⟩
  · rw [jA_old q1]; omega
  · rw [jA_new q1]; omega
theorem jM.lt {D : jD} {U : State} {H : Heap} {h : AH} (hM : jM D U H h) {a : Nat} (ha : ¬ jt h a = 0) : jA D a < H.size := by
  rw [hM.2.1.1]
  have := hM.2.1.2
  rcases hM.2.2.1 a ha with ⟨-, q1, -, q3⟩ | ⟨q1, q2, -⟩
  · rw [jA_old q1]; omega
  · rw [jA_new q1]; omega
theorem jC.eq {D : jD} {U : State} {H H' : Heap} {h h' : AH} {b : Nat} (e : eqat h h' b) (hq : H'[jA D b]? = H[jA D b]?) (hs : 60 ≤ jt h b → ∀ a : Nat, a < H.size → ¬ jNew D a → H'[a]? = H[a]?) (hc : jC D U H h b) : jC D U H' h' b := by
  have e1 : jt h' b = jt h b := e.1
  have e2 : jn h' b = jn h b := e.2.1
  unfold jC
  rw [e1, e2, hq]
  refine ⟨fun t => ?_, fun t1 t2 => ?_, fun t => ?_⟩
  · obtain ⟨cell, a1, a2, a3, a4, a5⟩ := hc.1 t
    exact ⟨cell, a1, a2, a3, a4, fun k hk => by rw [e.fl]; exact a5 k hk⟩
  · obtain ⟨cell, a1, a2, a3, a4, a5, a6, a7⟩ := hc.2.1 t1 t2
    exact ⟨cell, a1, a2, a3, a4, a5, fun k hk => by rw [e.fl]; exact a6 k hk, a7⟩
  · obtain ⟨a1, a2, a3⟩ := hc.2.2 t
    rw [e.fl, e.fl]
    exact ⟨a1.kept (hs t), a2.kept (hs t), a3.kept (hs t)⟩
theorem jOld.kept {D : jD} {U : State} {H H' : Heap} (h : jOld D U H) (hq : ∀ a : Nat, a < H.size → ¬ jNew D a → H'[a]? = H[a]?) : jOld D U H' := ⟨h.1.kept hq, h.2.1.kept hq, h.2.2.kept hq⟩
/-- the cells Z change, or are new; all others stay -/
theorem jM.upd {D : jD} {U : State} {H H' : Heap} {h h' : AH} (Z : Nat → Prop) (hM : jM D U H h) (ho : ∀ b, ¬ Z b → eqat h h' b) (hz : ∀ b, Z b → 32 ≤ b ∧ jC D U H' h' b ∧ jt h' b < 40 ∧ b < jx h' ∧ ∀ k, r32 (ji h' b k) ∧ r64 (jl h' b k))
    (hsz : H'.size = D.2.2.2.2 + (jx h' - 32)) (hx : jx h ≤ jx h') (hH : ∀ q, q < H.size → (∀ b, Z b → q ≠ jA D b) → H'[q]? = H[q]?) : jM D U H' h' := by
  have hold : ∀ a : Nat, a < H.size → ¬ jNew D a → H'[a]? = H[a]? := fun q q1 q2 => hH q q1 (fun b hb e => q2 (by
    show D.2.2.2.2 ≤ q
    rw [e, jA_new (hz b hb).1]; omega))
  refine ⟨fun a ha => ?_, ⟨hsz, Nat.le_trans hM.2.1.2 hx⟩, fun a ha => ?_, fun a k => ?_, hM.2.2.2.2.1.kept hold, hM.2.2.2.2.2⟩
  · by_cases za : Z a
    · exact (hz a za).2.1
    · have e := ho a za
      have ha' : ¬ jt h a = 0 := by rw [← e.1]; exact ha
      exact (hM.1 a ha').eq e (hH _ (hM.lt ha') (fun b hb q => by
        by_cases hab : a = b
        · exact za (hab ▸ hb)
        · exact hM.ne ha' (hz b hb).1 hab q)) (fun _ => hold)
  · by_cases za : Z a
    · obtain ⟨q1, -, q2, q3, -⟩ := hz a za
      exact Or.inr ⟨q1, q3, q2⟩
    · have e := ho a za
      rw [e.1] at ha ⊢
      rcases hM.2.2.1 a ha with q | ⟨q1, q2, q3⟩
      · exact Or.inl q
      · exact Or.inr ⟨q1, Nat.lt_of_lt_of_le q2 hx, q3⟩
  · by_cases za : Z a
    · exact (hz a za).2.2.2.2 k
    · obtain ⟨e1, e2, -⟩ := (ho a za).2.2 k
      rw [e1, e2]
      exact hM.2.2.2.1 a k
/-- the class of long[][], and that its rows are long[] -/
def jLL (U : State) : Prop := ∃ (comp cA : ClassId) (kA : Class), U.vm.findClass (FieldType.array .long).toString = some comp ∧ U.vm.classes[cA]? = some kA ∧ kA.kind = .array comp (.array .long) ∧ U.vm.findClass ("[" ++ (FieldType.array .long).toString) = some cA
theorem jLL.moved {u U : State} (hvm : u.vm.Alike U.vm) (h : jLL u) : jLL U := by
  obtain ⟨comp, cA, kA, h1, h2, h3, h4⟩ := h
  obtain ⟨k', hk', he⟩ := hvm.2.2 _ _ h2
  exact ⟨comp, cA, k', by rw [hvm.findClass]; exact h1, hk', by rw [he]; exact h3, by rw [hvm.findClass]; exact h4⟩
/-- the words that a call keeps too, but by laws of their own: string constants, nest mates, arrays of references -/
def jStr (D : jD) (U : State) : Prop := (∀ q ∈ strL, vk_R q.1 q.2.1 q.2.2.1 (jA D q.2.2.2) U) ∧ va_Nw (.methodLinkNest RX1 11 ⟨RX4, "<init>", "()V"⟩ "ProblemTexts") U ∧ va_Nw (.methodLinkNest RX1 20 ⟨RX7, "<init>", "()V"⟩ "ProblemTexts") U ∧
  va_Nw (.fieldLinkNest RX9 66 "ProblemTexts" "WORDS" "[I" "ProblemTexts") U ∧ va_AO "ProblemTexts$Part" U ∧ jLL U
theorem jStr.warm {D : jD} {u U : State} (hW : u.WarmedH U.vm) (h : jStr D u) : jStr D U := ⟨fun q hq => (h.1 q hq).warm hW, h.2.1.warmM hW, h.2.2.1.warmM hW, h.2.2.2.1.warmF hW, h.2.2.2.2.1.moved hW.alike, h.2.2.2.2.2.moved hW.alike⟩
theorem jStr.same {D : jD} {u U : State} (hv : U.vm = u.vm) (h : jStr D u) : jStr D U := ⟨fun q hq => (h.1 q hq).same hv, h.2.1.same rfl hv.symm, h.2.2.1.same rfl hv.symm, h.2.2.2.1.same rfl hv.symm, h.2.2.2.2.1.moved (by rw [hv]; exact Vm.Alike.refl _), h.2.2.2.2.2.moved (by rw [hv]; exact Vm.Alike.refl _)⟩
theorem jOld.moved {D : jD} {u U : State} {H : Heap} (hW : u.vm.Alike U.vm) (h : jOld D u H) : jOld D U H := ⟨h.1.moved hW, h.2.1.moved hW, h.2.2.moved hW⟩
theorem jM.moved {D : jD} {u U : State} {H : Heap} {h : AH} (hW : u.vm.Alike U.vm) (hM : jM D u H h) : jM D U H h := by
  refine ⟨fun a ha => ?_, hM.2.1, hM.2.2.1, hM.2.2.2.1, hM.2.2.2.2.1.moved hW, hM.2.2.2.2.2⟩
  obtain ⟨c1, c2, c3⟩ := hM.1 a ha
  refine ⟨c1, fun t1 t2 => ?_, fun t => ?_⟩
  · obtain ⟨cell, a1, a2, a3, a4, a5, a6, a7⟩ := c2 t1 t2
    exact ⟨cell, a1, State.isArrayOf_alike hW a2, a3, a4, a5, a6, fun t => (a7 t).moved hW⟩
  · obtain ⟨a1, a2, a3⟩ := c3 t
    exact ⟨a1.moved hW, a2.moved hW, a3.moved hW⟩
/-! numbers -/
theorem w32_r (x : Int) : r32 (w32 x) := by unfold r32 w32; omega
theorem w64_r (x : Int) : r64 (w64 x) := by unfold r64 w64; omega
theorem w32_id {x : Int} (h : r32 x) : w32 x = x := by unfold r32 at h; unfold w32; omega
theorem w64_id {x : Int} (h : r64 x) : w64 x = x := by unfold r64 at h; unfold w64; omega
theorem r32_I (x : Int32) : r32 x.toInt := by
  have := x.le_toInt
  have := x.toInt_lt
  unfold r32; omega
theorem r64_L (x : Int64) : r64 x.toInt := by
  have := x.le_toInt
  have := x.toInt_lt
  unfold r64; omega
theorem w32_bm (x : Int) : w32 x = x.bmod 4294967296 := by
  unfold w32; rw [Int.bmod_def]; split <;> omega
theorem w64_bm (x : Int) : w64 x = x.bmod 18446744073709551616 := by
  unfold w64; rw [Int.bmod_def]; split <;> omega
theorem I_w32 (x : Int) : Int32.ofInt (w32 x) = Int32.ofInt x := by
  apply Int32.toInt_inj.mp
  rw [Int32.toInt_ofInt, Int32.toInt_ofInt, w32_bm]
  exact Int.bmod_bmod
theorem L_w64 (x : Int) : Int64.ofInt (w64 x) = Int64.ofInt x := by
  apply Int64.toInt_inj.mp
  rw [Int64.toInt_ofInt, Int64.toInt_ofInt, w64_bm]
  exact Int.bmod_bmod
theorem I_to {x : Int} (h : r32 x) : (Int32.ofInt x).toInt = x := Int32.toInt_ofInt_of_le (by unfold r32 at h; omega) (by unfold r32 at h; omega)
theorem L_to {x : Int} (h : r64 x) : (Int64.ofInt x).toInt = x := Int64.toInt_ofInt_of_le (by unfold r64 at h; omega) (by unfold r64 at h; omega)
theorem I_lt {x y : Int} (hx : r32 x) (hy : r32 y) : Int32.ofInt x < Int32.ofInt y ↔ x < y := by rw [Int32.lt_iff_toInt_lt, I_to hx, I_to hy]
theorem I_le {x y : Int} (hx : r32 x) (hy : r32 y) : Int32.ofInt x ≤ Int32.ofInt y ↔ x ≤ y := by rw [Int32.le_iff_toInt_le, I_to hx, I_to hy]
theorem I_eq {x y : Int} (hx : r32 x) (hy : r32 y) : Int32.ofInt x = Int32.ofInt y ↔ x = y := by rw [← Int32.toInt_inj, I_to hx, I_to hy]
theorem L_lt {x y : Int} (hx : r64 x) (hy : r64 y) : Int64.ofInt x < Int64.ofInt y ↔ x < y := by rw [Int64.lt_iff_toInt_lt, L_to hx, L_to hy]
theorem L_eq {x y : Int} (hx : r64 x) (hy : r64 y) : Int64.ofInt x = Int64.ofInt y ↔ x = y := by rw [← Int64.toInt_inj, L_to hx, L_to hy]
theorem I_0 : Int32.ofInt 0 = 0 := rfl
theorem r32_0 : r32 0 := by unfold r32; omega
theorem I_add (x y : Int) : Int32.ofInt x + Int32.ofInt y = Int32.ofInt (w32 (x + y)) := by rw [I_w32, Int32.ofInt_add]
theorem I_sub (x y : Int) : Int32.ofInt x - Int32.ofInt y = Int32.ofInt (w32 (x - y)) := by rw [I_w32, Int32.ofInt_sub]
theorem I_mul (x y : Int) : Int32.ofInt x * Int32.ofInt y = Int32.ofInt (w32 (x * y)) := by rw [I_w32, Int32.ofInt_mul]
theorem I_neg (x : Int) : -Int32.ofInt x = Int32.ofInt (w32 (-x)) := by rw [I_w32, Int32.ofInt_neg]
theorem L_add (x y : Int) : Int64.ofInt x + Int64.ofInt y = Int64.ofInt (w64 (x + y)) := by rw [L_w64, Int64.ofInt_add]
theorem L_sub (x y : Int) : Int64.ofInt x - Int64.ofInt y = Int64.ofInt (w64 (x - y)) := by rw [L_w64, Int64.ofInt_sub]
theorem L_mul (x y : Int) : Int64.ofInt x * Int64.ofInt y = Int64.ofInt (w64 (x * y)) := by rw [L_w64, Int64.ofInt_mul]
theorem L_neg (x : Int) : -Int64.ofInt x = Int64.ofInt (w64 (-x)) := by rw [L_w64, Int64.ofInt_neg]
theorem I_div {x y : Int} (hx : r32 x) (hy : r32 y) : Int32.ofInt x / Int32.ofInt y = Int32.ofInt (w32 (Int.tdiv x y)) := by
  rw [I_w32]
  apply Int32.toInt_inj.mp
  rw [Int32.toInt_div, I_to hx, I_to hy, Int32.toInt_ofInt]
theorem L_div {x y : Int} (hx : r64 x) (hy : r64 y) : Int64.ofInt x / Int64.ofInt y = Int64.ofInt (w64 (Int.tdiv x y)) := by
  rw [L_w64]
  apply Int64.toInt_inj.mp
  rw [Int64.toInt_div, L_to hx, L_to hy, Int64.toInt_ofInt]
theorem I_rem {x y : Int} (hx : r32 x) (hy : r32 y) : Int32.ofInt x - Int32.ofInt x / Int32.ofInt y * Int32.ofInt y = Int32.ofInt (w32 (Int.tmod x y)) := by
  rw [I_div hx hy, I_w32, I_w32, ← Int32.ofInt_mul, ← Int32.ofInt_sub]
  congr 1
  have := Int.mul_tdiv_add_tmod x y
  rw [Int.mul_comm] at this
  omega
theorem L_rem {x y : Int} (hx : r64 x) (hy : r64 y) : Int64.ofInt x - Int64.ofInt x / Int64.ofInt y * Int64.ofInt y = Int64.ofInt (w64 (Int.tmod x y)) := by
  rw [L_div hx hy, L_w64, L_w64, ← Int64.ofInt_mul, ← Int64.ofInt_sub]
  congr 1
  have := Int.mul_tdiv_add_tmod x y
  rw [Int.mul_comm] at this
  omega
theorem I_clamp {x : Int} (h : r32 x) (h0 : 0 ≤ x) : (Int32.ofInt x).toNatClampNeg = x.toNat := by
  show (Int32.ofInt x).toInt.toNat = _
  rw [I_to h]
theorem I_in {x : Int} {n : Nat} (h : r32 x) (h0 : 0 ≤ x) (h1 : x < (n : Int)) : ¬ (Int32.ofInt x < 0 ∨ n ≤ (Int32.ofInt x).toNatClampNeg) := by
  rw [I_clamp h h0]
  rintro (q | q)
  · rw [← I_0, I_lt h r32_0] at q; omega
  · omega
end
section
/-! ONE STEP OF THE MACHINE FOR ONE OF THE ABSTRACT ONE: constants, locals, numbers, branches -/
def jX (D : jD) (p : Program) (s : State) (m : MethodId) (args : Array Value) (meth : Method) (c : Code) (y : Nat) : Prop :=
  p.tables.exec = Jvm.exec ∧ c.code = (mT y).2.1 ∧ c.maxLocals = (mT y).2.2.1 ∧ s.vm.findClass (oR (mT y).2.2.2.2.1) = some m.cls ∧ (∀ w ∈ gw, w.before args s = true) ∧
  va_K (D.2.2.1, D.2.2.2.1) vwCl [] s ∧ meth.sig.returnType = (mT y).2.2.2.1 ∧ meth.locks = false ∧ ((mT y).2.2.2.2.2.2 = 2 → meth.name = "<init>") ∧ jStr D s
def jLo (D : jD) (ls : Array Slot) (loc : List AV) : Prop := ls.size = loc.length ∧ lv_wf ls ∧ ∀ (i : Nat) (v : AV), loc[i]? = some v → ¬ v = jU → ls[i]? = some (.val (jV D v))
/-- from here the machine comes to Q, whatever heap and locals match -/
def jG (D : jD) (p : Program) (l : Launch) (e : Env) (R : Room) (s : State) (m : MethodId) (args : Array Value) (below : List Frame) (meth : Method) (c : Code) (Q : State → Prop) (x0 u0 : Nat) (pc : Nat) (loc stk : List AV) (h : AH) : Prop :=
  ∀ (H : Heap) (ls : Array Slot) (locs : List Loc), jM D s H h → jLo D ls loc → (∀ v ∈ stk, vok v) → (∀ v ∈ loc, vok v) → (∀ q ∈ locs, D.2.2.2.2 ≤ q.base) → x0 ≤ jx h → u0 ≤ ju h →
    W p l e R s m args below meth c H locs (jx h - x0) (ju h - u0) Q (F0 m pc ls (stk.map (jV D)))
theorem jVp_or {D : jD} (hf : jfv D) (a : Nat) : jVp D a = .null ∨ ∃ q, jVp D a = .ref q := by
  unfold jVp
  split
  · exact Or.inl rfl
  · split
    · exact hf
    · exact Or.inr ⟨_, rfl⟩
theorem jVp_2 {D : jD} {a : Nat} (h : 2 ≤ a) : jVp D a = .ref (jA D a) := by
  unfold jVp
  rw [if_neg (by omega), if_neg (by omega)]
theorem jV_cat {D : jD} (hf : jfv D) (v : AV) : (jV D v).category = jcat v := by
  match v with
  | .inl x => rfl
  | .inr (.inl x) => rfl
  | .inr (.inr (.inl a)) =>
    show (jVp D a).category = 1
    rcases jVp_or hf a with h | ⟨q, h⟩ <;> rw [h] <;> rfl
  | .inr (.inr (.inr u)) => rfl
theorem jM.fv {D : jD} {U : State} {H : Heap} {h : AH} (hM : jM D U H h) : jfv D := hM.2.2.2.2.2
/-- the tag tells that the address is no null -/
theorem jM.two {D : jD} {U : State} {H : Heap} {h : AH} (hM : jM D U H h) {a : Nat} (ha : ¬ jt h a = 0) : 2 ≤ a := by
  rcases hM.2.2.1 a ha with ⟨q, -⟩ | ⟨q, -⟩ <;> omega
theorem jM.ref {D : jD} {U : State} {H : Heap} {h : AH} (hM : jM D U H h) {a : Nat} (ha : ¬ jt h a = 0) : jV D (jP a) = .ref (jA D a) := jVp_2 (hM.two ha)
theorem jM.new {D : jD} {U : State} {H : Heap} {h : AH} (hM : jM D U H h) {a : Nat} (ha : ¬ jt h a = 0) (h40 : jt h a < 40) : 32 ≤ a ∧ a < jx h := by
  rcases hM.2.2.1 a ha with ⟨-, -, q, -⟩ | ⟨q1, q2, -⟩
  · omega
  · exact ⟨q1, q2⟩
def lvl (D : jD) (loc : List AV) : List (Nat × Value) := (List.range loc.length).filterMap (fun i => if loc.getD i jU = jU then none else some (i, jV D (loc.getD i jU)))
theorem lvl_in {D : jD} {loc : List AV} {q : Nat × Value} : q ∈ lvl D loc ↔ ∃ v, loc[q.1]? = some v ∧ ¬ v = jU ∧ q.2 = jV D v := by
  unfold lvl
  rw [List.mem_filterMap]
  constructor
  · rintro ⟨i, hi, he⟩
    have hi := List.mem_range.mp hi
    split at he
    · cases he
    · cases he
      refine ⟨loc.getD i jU, ?_, by assumption, rfl⟩
      show loc[i]? = _
      rw [List.getD_eq_getElem?_getD, List.getElem?_eq_getElem hi]; rfl
  · rintro ⟨v, h1, h2, h3⟩
    have hi : q.1 < loc.length := (List.getElem?_eq_some_iff.mp h1).1
    refine ⟨q.1, List.mem_range.mpr hi, ?_⟩
    have hg : loc.getD q.1 jU = v := by rw [List.getD_eq_getElem?_getD, h1]; rfl
    rw [hg, if_neg h2, ← h3]
theorem jLo.has {D : jD} {ls : Array Slot} {loc : List AV} (h : jLo D ls loc) : lv_has ls loc.length (lvl D loc) := by
  refine ⟨h.1, h.2.1, fun q hq => ?_⟩
  obtain ⟨v, h1, h2, h3⟩ := lvl_in.mp hq
  rw [h3]
  exact h.2.2 _ _ h1 h2
theorem lset_len (i : Nat) (v : AV) (loc : List AV) : (lset i v loc).length = loc.length := by simp [lset]
theorem lset_get {i : Nat} {v w : AV} {loc : List AV} {j : Nat} (hi : i < loc.length) (h : (lset i v loc)[j]? = some w) (hw : ¬ w = jU) : (j = i ∧ w = v) ∨ (j ≠ i ∧ loc[j]? = some w ∧ (j + 1 = i → isL w = false)) := by
  unfold lset at h
  rw [List.getElem?_set] at h
  split at h
  · rename_i e
    subst e
    simp [hi] at h
    exact Or.inl ⟨rfl, h.symm⟩
  · rename_i e
    rw [List.getElem?_set] at h
    split at h
    · rename_i e2
      subst e2
      split at h
      · have h := Option.some.inj h
        have hc : ¬ isL (loc.getD (i - 1) jU) = true := fun q => hw (by rw [← h, clrL, if_pos q])
        have hw2 : loc.getD (i - 1) jU = w := by rw [← h, clrL, if_neg hc]
        refine Or.inr ⟨fun q => e q.symm, ?_, fun _ => by rw [← hw2]; simpa using hc⟩
        have hl : i - 1 < loc.length := by omega
        rw [← hw2, List.getD_eq_getElem?_getD, List.getElem?_eq_getElem hl]; rfl
      · cases h
    · rename_i e2
      exact Or.inr ⟨fun q => e q.symm, h, fun q => absurd (show i - 1 = j by omega) e2⟩
theorem jLo.set1 {D : jD} (hf : jfv D) {ls : Array Slot} {loc : List AV} {i : Nat} {v : AV} (hi : i < loc.length) (h : lv_has ls loc.length ((i, jV D v) :: (lvl D loc).filter (fun q => !(q.1 == i) && !(q.1 + 1 == i && q.2.category == 2)))) : jLo D ls (lset i v loc) := by
  refine ⟨by rw [lset_len]; exact h.1, h.2.1, fun j w hw hu => ?_⟩
  rcases lset_get hi hw hu with ⟨rfl, rfl⟩ | ⟨q1, q2, q3⟩
  · exact h.2.2 (j, jV D w) List.mem_cons_self
  · refine h.2.2 (j, jV D w) (List.mem_cons_of_mem _ (List.mem_filter.mpr ⟨lvl_in.mpr ⟨w, q2, hu, rfl⟩, ?_⟩))
    by_cases e : j + 1 = i
    · have hc : (jV D w).category = 1 := by rw [jV_cat hf, jcat, q3 e]; rfl
      simp [q1, hc]
    · simp [q1, e]
theorem jLo.set2 {D : jD} (hf : jfv D) {ls : Array Slot} {loc : List AV} {i : Nat} {v : AV} (hi : i + 1 < loc.length) (h : lv_has ls loc.length ((i, jV D v) :: (lvl D loc).filter (fun q => !(q.1 == i) && (!(q.1 == i + 1) && !(q.1 + 1 == i && q.2.category == 2))))) : jLo D ls (lset2 i v loc) := by
  refine ⟨by rw [lset2, List.length_set, lset_len]; exact h.1, h.2.1, fun j w hw hu => ?_⟩
  have hj : j ≠ i + 1 := by
    rintro rfl
    rw [lset2, List.getElem?_set_self (by rw [lset_len]; exact hi)] at hw
    exact hu (Option.some.inj hw).symm
  rw [lset2, List.getElem?_set_ne (fun q => hj q.symm)] at hw
  rcases lset_get (by omega) hw hu with ⟨rfl, rfl⟩ | ⟨q1, q2, q3⟩
  · exact h.2.2 (j, jV D w) List.mem_cons_self
  · refine h.2.2 (j, jV D w) (List.mem_cons_of_mem _ (List.mem_filter.mpr ⟨lvl_in.mpr ⟨w, q2, hu, rfl⟩, ?_⟩))
    by_cases e : j + 1 = i
    · have hc : (jV D w).category = 1 := by rw [jV_cat hf, jcat, q3 e]; rfl
      simp [q1, hj, hc]
    · simp [q1, hj, e]
theorem lset_ok {i : Nat} {v : AV} {loc : List AV} (hv : vok v) (hl : ∀ w ∈ loc, vok w) : ∀ w ∈ lset i v loc, vok w := by
  intro w hw
  unfold lset at hw
  rcases List.mem_or_eq_of_mem_set hw with hw | rfl
  · rcases List.mem_or_eq_of_mem_set hw with hw | rfl
    · exact hl w hw
    · unfold clrL
      split
      · trivial
      · rw [List.getD_eq_getElem?_getD]
        cases hq : loc[i - 1]? with
        | none => trivial
        | some u => exact hl u (List.mem_of_getElem? hq)
  · exact hv
theorem lset2_ok {i : Nat} {v : AV} {loc : List AV} (hv : vok v) (hl : ∀ w ∈ loc, vok w) : ∀ w ∈ lset2 i v loc, vok w := by
  intro w hw
  rcases List.mem_or_eq_of_mem_set hw with hw | rfl
  · exact lset_ok hv hl w hw
  · trivial
theorem loc_get {D : jD} {ls : Array Slot} {loc : List AV} {i : Nat} {v : AV} (h : jLo D ls loc) (hv : loc.getD i jU = v) (hu : ¬ v = jU) : ls[i]? = some (.val (jV D v)) ∧ v ∈ loc := by
  rw [List.getD_eq_getElem?_getD] at hv
  cases hq : loc[i]? with
  | none => rw [hq] at hv; exact absurd hv.symm hu
  | some w =>
    rw [hq] at hv
    have hv : w = v := hv
    subst hv
    exact ⟨h.2.2 i w hq hu, List.mem_of_getElem? hq⟩
section ST1
variable {D : jD} {p : Program} {l : Launch} {e : Env} {R : Room} {s : State} {m : MethodId} {args : Array Value} {below : List Frame} {meth : Method} {c : Code} {Q : State → Prop} {x0 u0 y : Nat}
variable {cl : Nat → List AV → AH → Option AV → AH → Prop} {K : Nat → List AV → List AV → AH → Prop} {Rt : Option AV → AH → Prop} {pc len : Nat} {loc stk : List AV} {h : AH}
theorem st_iconst (hX : jX D p s m args meth c y) {v : Int} (hd : decode (mT y).2.1 pc = .ok (.iconst v, 1)) (hS : jS cl (.sipush v) pc 1 loc stk h K Rt) (hK : ∀ pc loc stk h, K pc loc stk h → jG D p l e R s m args below meth c Q x0 u0 pc loc stk h) : jG D p l e R s m args below meth c Q x0 u0 pc loc stk h := by
  intro H ls locs hM hL hs hl hq hx0 hu0
  refine lv_iconst hX.1 hX.2.1 hd rfl ?_
  exact hK _ _ _ _ hS.2 H ls locs hM hL (List.forall_mem_cons.mpr ⟨hS.1, hs⟩) hl hq hx0 hu0
theorem st_bipush (hX : jX D p s m args meth c y) {v : Int} (hv : -128 ≤ v ∧ v ≤ 127) (hd : decode (mT y).2.1 pc = .ok (.bipush v, 2)) (hS : jS cl (.sipush v) pc 2 loc stk h K Rt) (hK : ∀ pc loc stk h, K pc loc stk h → jG D p l e R s m args below meth c Q x0 u0 pc loc stk h) : jG D p l e R s m args below meth c Q x0 u0 pc loc stk h := by
  intro H ls locs hM hL hs hl hq hx0 hu0
  refine lv_bipush (v := Int32.ofInt v) hX.1 hX.2.1 hd ?_ ?_
  · rw [← Int32.toInt_inj, Int8.toInt_toInt32, Int8.toInt_ofInt_of_le (by omega) (by omega), I_to hS.1]
  · exact hK _ _ _ _ hS.2 H ls locs hM hL (List.forall_mem_cons.mpr ⟨hS.1, hs⟩) hl hq hx0 hu0
theorem st_sipush (hX : jX D p s m args meth c y) {v : Int} (hv : -32768 ≤ v ∧ v ≤ 32767) (hd : decode (mT y).2.1 pc = .ok (.sipush v, 3)) (hS : jS cl (.sipush v) pc 3 loc stk h K Rt) (hK : ∀ pc loc stk h, K pc loc stk h → jG D p l e R s m args below meth c Q x0 u0 pc loc stk h) : jG D p l e R s m args below meth c Q x0 u0 pc loc stk h := by
  intro H ls locs hM hL hs hl hq hx0 hu0
  refine lv_sipush (v := Int32.ofInt v) hX.1 hX.2.1 hd ?_ ?_
  · rw [← Int32.toInt_inj, Int16.toInt_toInt32, Int16.toInt_ofInt_of_le (by omega) (by omega), I_to hS.1]
  · exact hK _ _ _ _ hS.2 H ls locs hM hL (List.forall_mem_cons.mpr ⟨hS.1, hs⟩) hl hq hx0 hu0
theorem st_ldc (hX : jX D p s m args meth c y) {v : Int} {ix : Nat} (hw : Jvm.Cond.constant (oR (mT y).2.2.2.2.1) ix (Int32.ofInt v) ∈ gw) (hd : decode (mT y).2.1 pc = .ok (.ldc ix, 2)) (hS : jS cl (.sipush v) pc 2 loc stk h K Rt) (hK : ∀ pc loc stk h, K pc loc stk h → jG D p l e R s m args below meth c Q x0 u0 pc loc stk h) : jG D p l e R s m args below meth c Q x0 u0 pc loc stk h := by
  intro H ls locs hM hL hs hl hq hx0 hu0
  refine lv_ldc hX.1 hX.2.1 hX.2.2.2.1 (hX.2.2.2.2.1 _ hw) hd ?_
  exact hK _ _ _ _ hS.2 H ls locs hM hL (List.forall_mem_cons.mpr ⟨hS.1, hs⟩) hl hq hx0 hu0
theorem st_ldcw (hX : jX D p s m args meth c y) {v : Int} {ix : Nat} (hw : Jvm.Cond.constant (oR (mT y).2.2.2.2.1) ix (Int32.ofInt v) ∈ gw) (hd : decode (mT y).2.1 pc = .ok (.ldc_w ix, 3)) (hS : jS cl (.sipush v) pc 3 loc stk h K Rt) (hK : ∀ pc loc stk h, K pc loc stk h → jG D p l e R s m args below meth c Q x0 u0 pc loc stk h) : jG D p l e R s m args below meth c Q x0 u0 pc loc stk h := by
  intro H ls locs hM hL hs hl hq hx0 hu0
  refine lv_ldcw hX.1 hX.2.1 hX.2.2.2.1 (hX.2.2.2.2.1 _ hw) hd ?_
  exact hK _ _ _ _ hS.2 H ls locs hM hL (List.forall_mem_cons.mpr ⟨hS.1, hs⟩) hl hq hx0 hu0
theorem st_ldc2 (hX : jX D p s m args meth c y) {v : Int} {ix : Nat} (hw : Jvm.Cond.constantLong (oR (mT y).2.2.2.2.1) ix (Int64.ofInt v) ∈ gw) (hd : decode (mT y).2.1 pc = .ok (.ldc2_w ix, 3)) (hS : jS cl (.jsr_w v) pc 3 loc stk h K Rt) (hK : ∀ pc loc stk h, K pc loc stk h → jG D p l e R s m args below meth c Q x0 u0 pc loc stk h) : jG D p l e R s m args below meth c Q x0 u0 pc loc stk h := by
  intro H ls locs hM hL hs hl hq hx0 hu0
  refine lv_ldc2 hX.1 hX.2.1 hX.2.2.2.1 (hX.2.2.2.2.1 _ hw) hd ?_
  exact hK _ _ _ _ hS.2 H ls locs hM hL (List.forall_mem_cons.mpr ⟨hS.1, hs⟩) hl hq hx0 hu0
theorem st_lconst (hX : jX D p s m args meth c y) {n : Fin 2} (hd : decode (mT y).2.1 pc = .ok (.lconst n, 1)) (hS : jS cl (.jsr_w (n.val : Int)) pc 1 loc stk h K Rt) (hK : ∀ pc loc stk h, K pc loc stk h → jG D p l e R s m args below meth c Q x0 u0 pc loc stk h) : jG D p l e R s m args below meth c Q x0 u0 pc loc stk h := by
  intro H ls locs hM hL hs hl hq hx0 hu0
  refine lv_lconst (v := Int64.ofInt (n.val : Int)) hX.1 hX.2.1 hd (by rw [Int64.ofInt_eq_ofNat]) ?_
  exact hK _ _ _ _ hS.2 H ls locs hM hL (List.forall_mem_cons.mpr ⟨hS.1, hs⟩) hl hq hx0 hu0
theorem st_null (hX : jX D p s m args meth c y)  (hd : decode (mT y).2.1 pc = .ok (.aconst_null, 1)) (hS : jS cl (.jsr 0) pc 1 loc stk h K Rt) (hK : ∀ pc loc stk h, K pc loc stk h → jG D p l e R s m args below meth c Q x0 u0 pc loc stk h) : jG D p l e R s m args below meth c Q x0 u0 pc loc stk h := by
  intro H ls locs hM hL hs hl hq hx0 hu0
  refine lv_null hX.1 hX.2.1 hd ?_
  exact hK _ _ _ _ hS H ls locs hM hL (List.forall_mem_cons.mpr ⟨trivial, hs⟩) hl hq hx0 hu0
theorem st_ldcS (hX : jX D p s m args meth c y) {a ix : Nat} (ha : 2 ≤ a) (hw : ∃ tx, ((oR (mT y).2.2.2.2.1), ix, tx, a) ∈ strL) (hd : decode (mT y).2.1 pc = .ok (.ldc ix, 2)) (hS : jS cl (.jsr (a : Int)) pc 2 loc stk h K Rt) (hK : ∀ pc loc stk h, K pc loc stk h → jG D p l e R s m args below meth c Q x0 u0 pc loc stk h) : jG D p l e R s m args below meth c Q x0 u0 pc loc stk h := by
  intro H ls locs hM hL hs hl hq hx0 hu0
  obtain ⟨tx, hmem⟩ := hw
  have hz := hX.2.2.2.2.2.2.2.2.2.1 _ hmem
  refine va_ldcS hX.1 hX.2.1 hX.2.2.2.1 hz hd ?_
  have hS : K (pc + 2) loc (jP a :: stk) h := hS
  have g := hK _ _ _ _ hS H ls locs hM hL (List.forall_mem_cons.mpr ⟨trivial, hs⟩) hl hq hx0 hu0
  rw [List.map_cons, show jV D (jP a) = .ref (jA D a) from jVp_2 ha] at g
  exact g
theorem st_iload_n (hX : jX D p s m args meth c y) {n : Fin 4} (hd : decode (mT y).2.1 pc = .ok (.iload_n n, 1)) (hS : jS cl (.iload n.val) pc 1 loc stk h K Rt) (hK : ∀ pc loc stk h, K pc loc stk h → jG D p l e R s m args below meth c Q x0 u0 pc loc stk h) : jG D p l e R s m args below meth c Q x0 u0 pc loc stk h := by
  intro H ls locs hM hL hs hl hq hx0 hu0
  obtain ⟨x, r, he, hS⟩ := s1I_e hS
  obtain ⟨g1, g2⟩ := loc_get hL (List.cons.inj he).1 (by simp)
  refine lv_iload_n hX.1 hX.2.1 hd rfl g1 ?_
  exact hK _ _ _ _ hS H ls locs hM hL (List.forall_mem_cons.mpr ⟨hl _ g2, hs⟩) hl hq hx0 hu0
theorem st_iload (hX : jX D p s m args meth c y) {i : Nat} (hd : decode (mT y).2.1 pc = .ok (.iload i, 2)) (hS : jS cl (.iload i) pc 2 loc stk h K Rt) (hK : ∀ pc loc stk h, K pc loc stk h → jG D p l e R s m args below meth c Q x0 u0 pc loc stk h) : jG D p l e R s m args below meth c Q x0 u0 pc loc stk h := by
  intro H ls locs hM hL hs hl hq hx0 hu0
  obtain ⟨x, r, he, hS⟩ := s1I_e hS
  obtain ⟨g1, g2⟩ := loc_get hL (List.cons.inj he).1 (by simp)
  refine lv_iload hX.1 hX.2.1 hd  g1 ?_
  exact hK _ _ _ _ hS H ls locs hM hL (List.forall_mem_cons.mpr ⟨hl _ g2, hs⟩) hl hq hx0 hu0
theorem st_lload_n (hX : jX D p s m args meth c y) {n : Fin 4} (hd : decode (mT y).2.1 pc = .ok (.lload_n n, 1)) (hS : jS cl (.lload n.val) pc 1 loc stk h K Rt) (hK : ∀ pc loc stk h, K pc loc stk h → jG D p l e R s m args below meth c Q x0 u0 pc loc stk h) : jG D p l e R s m args below meth c Q x0 u0 pc loc stk h := by
  intro H ls locs hM hL hs hl hq hx0 hu0
  obtain ⟨x, r, he, hS⟩ := s1L_e hS
  obtain ⟨g1, g2⟩ := loc_get hL (List.cons.inj he).1 (by simp)
  refine lv_lload_n hX.1 hX.2.1 hd rfl g1 ?_
  exact hK _ _ _ _ hS H ls locs hM hL (List.forall_mem_cons.mpr ⟨hl _ g2, hs⟩) hl hq hx0 hu0
theorem st_lload (hX : jX D p s m args meth c y) {i : Nat} (hd : decode (mT y).2.1 pc = .ok (.lload i, 2)) (hS : jS cl (.lload i) pc 2 loc stk h K Rt) (hK : ∀ pc loc stk h, K pc loc stk h → jG D p l e R s m args below meth c Q x0 u0 pc loc stk h) : jG D p l e R s m args below meth c Q x0 u0 pc loc stk h := by
  intro H ls locs hM hL hs hl hq hx0 hu0
  obtain ⟨x, r, he, hS⟩ := s1L_e hS
  obtain ⟨g1, g2⟩ := loc_get hL (List.cons.inj he).1 (by simp)
  refine lv_lload hX.1 hX.2.1 hd  g1 ?_
  exact hK _ _ _ _ hS H ls locs hM hL (List.forall_mem_cons.mpr ⟨hl _ g2, hs⟩) hl hq hx0 hu0
theorem st_aload_n (hX : jX D p s m args meth c y) {n : Fin 4} (hd : decode (mT y).2.1 pc = .ok (.aload_n n, 1)) (hS : jS cl (.aload n.val) pc 1 loc stk h K Rt) (hK : ∀ pc loc stk h, K pc loc stk h → jG D p l e R s m args below meth c Q x0 u0 pc loc stk h) : jG D p l e R s m args below meth c Q x0 u0 pc loc stk h := by
  intro H ls locs hM hL hs hl hq hx0 hu0
  obtain ⟨x, r, he, hS⟩ := s1P_e hS
  obtain ⟨g1, g2⟩ := loc_get hL (List.cons.inj he).1 (by simp)
  have g := hK _ _ _ _ hS H ls locs hM hL (List.forall_mem_cons.mpr ⟨trivial, hs⟩) hl hq hx0 hu0
  rw [List.map_cons] at g
  have e0 : jV D (jP x) = jVp D x := rfl
  rw [e0] at g g1
  rcases jVp_or hM.fv x with e1 | ⟨q, e1⟩
  · rw [e1] at g g1; exact lv_aload_nN hX.1 hX.2.1 hd rfl g1 g
  · rw [e1] at g g1; exact lv_aload_n hX.1 hX.2.1 hd rfl g1 g
theorem st_aload (hX : jX D p s m args meth c y) {i : Nat} (hd : decode (mT y).2.1 pc = .ok (.aload i, 2)) (hS : jS cl (.aload i) pc 2 loc stk h K Rt) (hK : ∀ pc loc stk h, K pc loc stk h → jG D p l e R s m args below meth c Q x0 u0 pc loc stk h) : jG D p l e R s m args below meth c Q x0 u0 pc loc stk h := by
  intro H ls locs hM hL hs hl hq hx0 hu0
  obtain ⟨x, r, he, hS⟩ := s1P_e hS
  obtain ⟨g1, g2⟩ := loc_get hL (List.cons.inj he).1 (by simp)
  have g := hK _ _ _ _ hS H ls locs hM hL (List.forall_mem_cons.mpr ⟨trivial, hs⟩) hl hq hx0 hu0
  rw [List.map_cons] at g
  have e0 : jV D (jP x) = jVp D x := rfl
  rw [e0] at g g1
  rcases jVp_or hM.fv x with e1 | ⟨q, e1⟩
  · rw [e1] at g g1; exact lv_aloadN hX.1 hX.2.1 hd  g1 g
  · rw [e1] at g g1; exact lv_aload hX.1 hX.2.1 hd  g1 g
theorem st_istore_n (hX : jX D p s m args meth c y) {n : Fin 4} (hd : decode (mT y).2.1 pc = .ok (.istore_n n, 1)) (hS : jS cl (.istore n.val) pc 1 loc stk h K Rt) (hK : ∀ pc loc stk h, K pc loc stk h → jG D p l e R s m args below meth c Q x0 u0 pc loc stk h) : jG D p l e R s m args below meth c Q x0 u0 pc loc stk h := by
  intro H ls locs hM hL hs hl hq hx0 hu0
  obtain ⟨x, r, rfl, hi, hS⟩ := s1I_e hS
  obtain ⟨hv, hs⟩ := List.forall_mem_cons.mp hs
  refine lv_istore_n hX.1 hX.2.1 hd rfl hL.has hi rfl (fun ls hL2 => ?_)
  exact hK _ _ _ _ hS H ls locs hM (jLo.set1 hM.fv hi hL2) hs (lset_ok hv hl) hq hx0 hu0
theorem st_istore (hX : jX D p s m args meth c y) {i : Nat} (hd : decode (mT y).2.1 pc = .ok (.istore i, 2)) (hS : jS cl (.istore i) pc 2 loc stk h K Rt) (hK : ∀ pc loc stk h, K pc loc stk h → jG D p l e R s m args below meth c Q x0 u0 pc loc stk h) : jG D p l e R s m args below meth c Q x0 u0 pc loc stk h := by
  intro H ls locs hM hL hs hl hq hx0 hu0
  obtain ⟨x, r, rfl, hi, hS⟩ := s1I_e hS
  obtain ⟨hv, hs⟩ := List.forall_mem_cons.mp hs
  refine lv_istore hX.1 hX.2.1 hd  hL.has hi rfl (fun ls hL2 => ?_)
  exact hK _ _ _ _ hS H ls locs hM (jLo.set1 hM.fv hi hL2) hs (lset_ok hv hl) hq hx0 hu0
theorem st_lstore_n (hX : jX D p s m args meth c y) {n : Fin 4} (hd : decode (mT y).2.1 pc = .ok (.lstore_n n, 1)) (hS : jS cl (.lstore n.val) pc 1 loc stk h K Rt) (hK : ∀ pc loc stk h, K pc loc stk h → jG D p l e R s m args below meth c Q x0 u0 pc loc stk h) : jG D p l e R s m args below meth c Q x0 u0 pc loc stk h := by
  intro H ls locs hM hL hs hl hq hx0 hu0
  obtain ⟨x, r, rfl, hi, hS⟩ := s1L_e hS
  obtain ⟨hv, hs⟩ := List.forall_mem_cons.mp hs
  refine lv_lstore_n hX.1 hX.2.1 hd rfl hL.has hi rfl (fun ls hL2 => ?_)
  exact hK _ _ _ _ hS H ls locs hM (jLo.set2 hM.fv hi hL2) hs (lset2_ok hv hl) hq hx0 hu0
theorem st_lstore (hX : jX D p s m args meth c y) {i : Nat} (hd : decode (mT y).2.1 pc = .ok (.lstore i, 2)) (hS : jS cl (.lstore i) pc 2 loc stk h K Rt) (hK : ∀ pc loc stk h, K pc loc stk h → jG D p l e R s m args below meth c Q x0 u0 pc loc stk h) : jG D p l e R s m args below meth c Q x0 u0 pc loc stk h := by
  intro H ls locs hM hL hs hl hq hx0 hu0
  obtain ⟨x, r, rfl, hi, hS⟩ := s1L_e hS
  obtain ⟨hv, hs⟩ := List.forall_mem_cons.mp hs
  refine lv_lstore hX.1 hX.2.1 hd  hL.has hi rfl (fun ls hL2 => ?_)
  exact hK _ _ _ _ hS H ls locs hM (jLo.set2 hM.fv hi hL2) hs (lset2_ok hv hl) hq hx0 hu0
theorem st_astore_n (hX : jX D p s m args meth c y) {n : Fin 4} (hd : decode (mT y).2.1 pc = .ok (.astore_n n, 1)) (hS : jS cl (.astore n.val) pc 1 loc stk h K Rt) (hK : ∀ pc loc stk h, K pc loc stk h → jG D p l e R s m args below meth c Q x0 u0 pc loc stk h) : jG D p l e R s m args below meth c Q x0 u0 pc loc stk h := by
  intro H ls locs hM hL hs hl hq hx0 hu0
  obtain ⟨x, r, rfl, hi, hS⟩ := s1P_e hS
  obtain ⟨hv, hs⟩ := List.forall_mem_cons.mp hs
  have g : ∀ ls, lv_has ls loc.length ((n.val, jV D (jP x)) :: (lvl D loc).filter (fun q => !(q.1 == n.val) && !(q.1 + 1 == n.val && q.2.category == 2))) → _ := fun ls hL2 => hK _ _ _ _ hS H ls locs hM (jLo.set1 hM.fv hi hL2) hs (lset_ok (v := jP x) trivial hl) hq hx0 hu0
  have e0 : jV D (jP x) = jVp D x := rfl
  rw [e0] at g
  rw [List.map_cons, e0]
  rcases jVp_or hM.fv x with e1 | ⟨q, e1⟩
  · rw [e1] at g ⊢; exact lv_astore_nN hX.1 hX.2.1 hd rfl hL.has hi rfl g
  · rw [e1] at g ⊢; exact lv_astore_n hX.1 hX.2.1 hd rfl hL.has hi rfl g
theorem st_astore (hX : jX D p s m args meth c y) {i : Nat} (hd : decode (mT y).2.1 pc = .ok (.astore i, 2)) (hS : jS cl (.astore i) pc 2 loc stk h K Rt) (hK : ∀ pc loc stk h, K pc loc stk h → jG D p l e R s m args below meth c Q x0 u0 pc loc stk h) : jG D p l e R s m args below meth c Q x0 u0 pc loc stk h := by
  intro H ls locs hM hL hs hl hq hx0 hu0
  obtain ⟨x, r, rfl, hi, hS⟩ := s1P_e hS
  obtain ⟨hv, hs⟩ := List.forall_mem_cons.mp hs
  have g : ∀ ls, lv_has ls loc.length ((i, jV D (jP x)) :: (lvl D loc).filter (fun q => !(q.1 == i) && !(q.1 + 1 == i && q.2.category == 2))) → _ := fun ls hL2 => hK _ _ _ _ hS H ls locs hM (jLo.set1 hM.fv hi hL2) hs (lset_ok (v := jP x) trivial hl) hq hx0 hu0
  have e0 : jV D (jP x) = jVp D x := rfl
  rw [e0] at g
  rw [List.map_cons, e0]
  rcases jVp_or hM.fv x with e1 | ⟨q, e1⟩
  · rw [e1] at g ⊢; exact lv_astoreN hX.1 hX.2.1 hd  hL.has hi rfl g
  · rw [e1] at g ⊢; exact lv_astore hX.1 hX.2.1 hd  hL.has hi rfl g
theorem st_iinc (hX : jX D p s m args meth c y) {i : Nat} {n : Int} (hd : decode (mT y).2.1 pc = .ok (.iinc i n, 3)) (hS : jS cl (.iinc i n) pc 3 loc stk h K Rt) (hK : ∀ pc loc stk h, K pc loc stk h → jG D p l e R s m args below meth c Q x0 u0 pc loc stk h) : jG D p l e R s m args below meth c Q x0 u0 pc loc stk h := by
  intro H ls locs hM hL hs hl hq hx0 hu0
  obtain ⟨x, r, he, hi, hS⟩ := s1I_e hS
  obtain ⟨g1, g2⟩ := loc_get hL (List.cons.inj he).1 (by simp)
  have hm : (i, Value.int (Int32.ofInt x)) ∈ lvl D loc := lvl_in.mpr ⟨jI x, by
    have hg := (List.cons.inj he).1
    rw [List.getD_eq_getElem?_getD] at hg
    show loc[i]? = _
    rw [List.getElem?_eq_getElem hi] at hg ⊢
    exact congrArg some hg, by simp, rfl⟩
  obtain ⟨k, hk⟩ := List.getElem?_of_mem hm
  refine lv_iinc (k := k) (v := Int32.ofInt (w32 (x + n))) hX.1 hX.2.1 hd hL.has hk (I_add x n) hi rfl (fun ls hL2 => ?_)
  exact hK _ _ _ _ hS H ls locs hM (jLo.set1 hM.fv (v := jI (w32 (x + n))) hi hL2) hs (lset_ok (v := jI (w32 (x + n))) (w32_r _) hl) hq hx0 hu0
theorem st_iadd (hX : jX D p s m args meth c y)  (hd : decode (mT y).2.1 pc = .ok (.iadd, 1)) (hS : jS cl (.iadd) pc 1 loc stk h K Rt) (hK : ∀ pc loc stk h, K pc loc stk h → jG D p l e R s m args below meth c Q x0 u0 pc loc stk h) : jG D p l e R s m args below meth c Q x0 u0 pc loc stk h := by
  intro H ls locs hM hL hs hl hq hx0 hu0
  obtain ⟨y1, r, rfl, hS⟩ := s1I_e hS
  obtain ⟨x1, r, rfl, hS⟩ := s1I_e hS
  obtain ⟨hy, hs⟩ := List.forall_mem_cons.mp hs
  obtain ⟨hx, hs⟩ := List.forall_mem_cons.mp hs
  refine lv_iadd hX.1 hX.2.1 hd ?_
  rw [I_add]
  exact hK _ _ _ _ hS H ls locs hM hL (List.forall_mem_cons.mpr ⟨w32_r _, hs⟩) hl hq hx0 hu0
theorem st_isub (hX : jX D p s m args meth c y)  (hd : decode (mT y).2.1 pc = .ok (.isub, 1)) (hS : jS cl (.isub) pc 1 loc stk h K Rt) (hK : ∀ pc loc stk h, K pc loc stk h → jG D p l e R s m args below meth c Q x0 u0 pc loc stk h) : jG D p l e R s m args below meth c Q x0 u0 pc loc stk h := by
  intro H ls locs hM hL hs hl hq hx0 hu0
  obtain ⟨y1, r, rfl, hS⟩ := s1I_e hS
  obtain ⟨x1, r, rfl, hS⟩ := s1I_e hS
  obtain ⟨hy, hs⟩ := List.forall_mem_cons.mp hs
  obtain ⟨hx, hs⟩ := List.forall_mem_cons.mp hs
  refine lv_isub hX.1 hX.2.1 hd ?_
  rw [I_sub]
  exact hK _ _ _ _ hS H ls locs hM hL (List.forall_mem_cons.mpr ⟨w32_r _, hs⟩) hl hq hx0 hu0
theorem st_imul (hX : jX D p s m args meth c y)  (hd : decode (mT y).2.1 pc = .ok (.imul, 1)) (hS : jS cl (.imul) pc 1 loc stk h K Rt) (hK : ∀ pc loc stk h, K pc loc stk h → jG D p l e R s m args below meth c Q x0 u0 pc loc stk h) : jG D p l e R s m args below meth c Q x0 u0 pc loc stk h := by
  intro H ls locs hM hL hs hl hq hx0 hu0
  obtain ⟨y1, r, rfl, hS⟩ := s1I_e hS
  obtain ⟨x1, r, rfl, hS⟩ := s1I_e hS
  obtain ⟨hy, hs⟩ := List.forall_mem_cons.mp hs
  obtain ⟨hx, hs⟩ := List.forall_mem_cons.mp hs
  refine lv_imul hX.1 hX.2.1 hd ?_
  rw [I_mul]
  exact hK _ _ _ _ hS H ls locs hM hL (List.forall_mem_cons.mpr ⟨w32_r _, hs⟩) hl hq hx0 hu0
theorem st_idiv (hX : jX D p s m args meth c y)  (hd : decode (mT y).2.1 pc = .ok (.idiv, 1)) (hS : jS cl (.idiv) pc 1 loc stk h K Rt) (hK : ∀ pc loc stk h, K pc loc stk h → jG D p l e R s m args below meth c Q x0 u0 pc loc stk h) : jG D p l e R s m args below meth c Q x0 u0 pc loc stk h := by
  intro H ls locs hM hL hs hl hq hx0 hu0
  obtain ⟨y1, r, rfl, hS⟩ := s1I_e hS
  obtain ⟨x1, r, rfl, hS⟩ := s1I_e hS
  obtain ⟨hy, hs⟩ := List.forall_mem_cons.mp hs
  obtain ⟨hx, hs⟩ := List.forall_mem_cons.mp hs
  refine lv_idiv hX.1 hX.2.1 hd (fun q => hS.1 ((I_eq hy (by unfold r32; omega)).mp q)) ?_
  rw [I_div hx hy]
  exact hK _ _ _ _ hS.2 H ls locs hM hL (List.forall_mem_cons.mpr ⟨w32_r _, hs⟩) hl hq hx0 hu0
theorem st_irem (hX : jX D p s m args meth c y)  (hd : decode (mT y).2.1 pc = .ok (.irem, 1)) (hS : jS cl (.irem) pc 1 loc stk h K Rt) (hK : ∀ pc loc stk h, K pc loc stk h → jG D p l e R s m args below meth c Q x0 u0 pc loc stk h) : jG D p l e R s m args below meth c Q x0 u0 pc loc stk h := by
  intro H ls locs hM hL hs hl hq hx0 hu0
  obtain ⟨y1, r, rfl, hS⟩ := s1I_e hS
  obtain ⟨x1, r, rfl, hS⟩ := s1I_e hS
  obtain ⟨hy, hs⟩ := List.forall_mem_cons.mp hs
  obtain ⟨hx, hs⟩ := List.forall_mem_cons.mp hs
  refine lv_irem hX.1 hX.2.1 hd (fun q => hS.1 ((I_eq hy (by unfold r32; omega)).mp q)) ?_
  rw [I_rem hx hy]
  exact hK _ _ _ _ hS.2 H ls locs hM hL (List.forall_mem_cons.mpr ⟨w32_r _, hs⟩) hl hq hx0 hu0
theorem st_ladd (hX : jX D p s m args meth c y)  (hd : decode (mT y).2.1 pc = .ok (.ladd, 1)) (hS : jS cl (.ladd) pc 1 loc stk h K Rt) (hK : ∀ pc loc stk h, K pc loc stk h → jG D p l e R s m args below meth c Q x0 u0 pc loc stk h) : jG D p l e R s m args below meth c Q x0 u0 pc loc stk h := by
  intro H ls locs hM hL hs hl hq hx0 hu0
  obtain ⟨y1, r, rfl, hS⟩ := s1L_e hS
  obtain ⟨x1, r, rfl, hS⟩ := s1L_e hS
  obtain ⟨hy, hs⟩ := List.forall_mem_cons.mp hs
  obtain ⟨hx, hs⟩ := List.forall_mem_cons.mp hs
  refine lv_ladd hX.1 hX.2.1 hd ?_
  rw [L_add]
  exact hK _ _ _ _ hS H ls locs hM hL (List.forall_mem_cons.mpr ⟨w64_r _, hs⟩) hl hq hx0 hu0
theorem st_lsub (hX : jX D p s m args meth c y)  (hd : decode (mT y).2.1 pc = .ok (.lsub, 1)) (hS : jS cl (.lsub) pc 1 loc stk h K Rt) (hK : ∀ pc loc stk h, K pc loc stk h → jG D p l e R s m args below meth c Q x0 u0 pc loc stk h) : jG D p l e R s m args below meth c Q x0 u0 pc loc stk h := by
  intro H ls locs hM hL hs hl hq hx0 hu0
  obtain ⟨y1, r, rfl, hS⟩ := s1L_e hS
  obtain ⟨x1, r, rfl, hS⟩ := s1L_e hS
  obtain ⟨hy, hs⟩ := List.forall_mem_cons.mp hs
  obtain ⟨hx, hs⟩ := List.forall_mem_cons.mp hs
  refine lv_lsub hX.1 hX.2.1 hd ?_
  rw [L_sub]
  exact hK _ _ _ _ hS H ls locs hM hL (List.forall_mem_cons.mpr ⟨w64_r _, hs⟩) hl hq hx0 hu0
theorem st_lmul (hX : jX D p s m args meth c y)  (hd : decode (mT y).2.1 pc = .ok (.lmul, 1)) (hS : jS cl (.lmul) pc 1 loc stk h K Rt) (hK : ∀ pc loc stk h, K pc loc stk h → jG D p l e R s m args below meth c Q x0 u0 pc loc stk h) : jG D p l e R s m args below meth c Q x0 u0 pc loc stk h := by
  intro H ls locs hM hL hs hl hq hx0 hu0
  obtain ⟨y1, r, rfl, hS⟩ := s1L_e hS
  obtain ⟨x1, r, rfl, hS⟩ := s1L_e hS
  obtain ⟨hy, hs⟩ := List.forall_mem_cons.mp hs
  obtain ⟨hx, hs⟩ := List.forall_mem_cons.mp hs
  refine lv_lmul hX.1 hX.2.1 hd ?_
  rw [L_mul]
  exact hK _ _ _ _ hS H ls locs hM hL (List.forall_mem_cons.mpr ⟨w64_r _, hs⟩) hl hq hx0 hu0
theorem st_ldiv (hX : jX D p s m args meth c y)  (hd : decode (mT y).2.1 pc = .ok (.ldiv, 1)) (hS : jS cl (.ldiv) pc 1 loc stk h K Rt) (hK : ∀ pc loc stk h, K pc loc stk h → jG D p l e R s m args below meth c Q x0 u0 pc loc stk h) : jG D p l e R s m args below meth c Q x0 u0 pc loc stk h := by
  intro H ls locs hM hL hs hl hq hx0 hu0
  obtain ⟨y1, r, rfl, hS⟩ := s1L_e hS
  obtain ⟨x1, r, rfl, hS⟩ := s1L_e hS
  obtain ⟨hy, hs⟩ := List.forall_mem_cons.mp hs
  obtain ⟨hx, hs⟩ := List.forall_mem_cons.mp hs
  refine lv_ldiv hX.1 hX.2.1 hd (fun q => hS.1 ((L_eq hy (by unfold r64; omega)).mp q)) ?_
  rw [L_div hx hy]
  exact hK _ _ _ _ hS.2 H ls locs hM hL (List.forall_mem_cons.mpr ⟨w64_r _, hs⟩) hl hq hx0 hu0
theorem st_lrem (hX : jX D p s m args meth c y)  (hd : decode (mT y).2.1 pc = .ok (.lrem, 1)) (hS : jS cl (.lrem) pc 1 loc stk h K Rt) (hK : ∀ pc loc stk h, K pc loc stk h → jG D p l e R s m args below meth c Q x0 u0 pc loc stk h) : jG D p l e R s m args below meth c Q x0 u0 pc loc stk h := by
  intro H ls locs hM hL hs hl hq hx0 hu0
  obtain ⟨y1, r, rfl, hS⟩ := s1L_e hS
  obtain ⟨x1, r, rfl, hS⟩ := s1L_e hS
  obtain ⟨hy, hs⟩ := List.forall_mem_cons.mp hs
  obtain ⟨hx, hs⟩ := List.forall_mem_cons.mp hs
  refine lv_lrem hX.1 hX.2.1 hd (fun q => hS.1 ((L_eq hy (by unfold r64; omega)).mp q)) ?_
  rw [L_rem hx hy]
  exact hK _ _ _ _ hS.2 H ls locs hM hL (List.forall_mem_cons.mpr ⟨w64_r _, hs⟩) hl hq hx0 hu0
theorem st_iand (hX : jX D p s m args meth c y)  (hd : decode (mT y).2.1 pc = .ok (.iand, 1)) (hS : jS cl (.iand) pc 1 loc stk h K Rt) (hK : ∀ pc loc stk h, K pc loc stk h → jG D p l e R s m args below meth c Q x0 u0 pc loc stk h) : jG D p l e R s m args below meth c Q x0 u0 pc loc stk h := by
  intro H ls locs hM hL hs hl hq hx0 hu0
  obtain ⟨y1, r, rfl, hS⟩ := s1I_e hS
  obtain ⟨x1, r, rfl, hS⟩ := s1I_e hS
  obtain ⟨hy, hs⟩ := List.forall_mem_cons.mp hs
  obtain ⟨hx, hs⟩ := List.forall_mem_cons.mp hs
  have g := hK _ _ _ _ hS H ls locs hM hL (List.forall_mem_cons.mpr ⟨r32_I _, hs⟩) hl hq hx0 hu0
  rw [List.map_cons, show jV D (jI (jand x1 y1)) = .int _ from congrArg Value.int (Int32.ofInt_toInt _)] at g
  exact lv_iand hX.1 hX.2.1 hd  g
theorem st_ior (hX : jX D p s m args meth c y)  (hd : decode (mT y).2.1 pc = .ok (.ior, 1)) (hS : jS cl (.ior) pc 1 loc stk h K Rt) (hK : ∀ pc loc stk h, K pc loc stk h → jG D p l e R s m args below meth c Q x0 u0 pc loc stk h) : jG D p l e R s m args below meth c Q x0 u0 pc loc stk h := by
  intro H ls locs hM hL hs hl hq hx0 hu0
  obtain ⟨y1, r, rfl, hS⟩ := s1I_e hS
  obtain ⟨x1, r, rfl, hS⟩ := s1I_e hS
  obtain ⟨hy, hs⟩ := List.forall_mem_cons.mp hs
  obtain ⟨hx, hs⟩ := List.forall_mem_cons.mp hs
  have g := hK _ _ _ _ hS H ls locs hM hL (List.forall_mem_cons.mpr ⟨r32_I _, hs⟩) hl hq hx0 hu0
  rw [List.map_cons, show jV D (jI (jor x1 y1)) = .int _ from congrArg Value.int (Int32.ofInt_toInt _)] at g
  exact lv_ior hX.1 hX.2.1 hd  g
theorem st_ixor (hX : jX D p s m args meth c y)  (hd : decode (mT y).2.1 pc = .ok (.ixor, 1)) (hS : jS cl (.ixor) pc 1 loc stk h K Rt) (hK : ∀ pc loc stk h, K pc loc stk h → jG D p l e R s m args below meth c Q x0 u0 pc loc stk h) : jG D p l e R s m args below meth c Q x0 u0 pc loc stk h := by
  intro H ls locs hM hL hs hl hq hx0 hu0
  obtain ⟨y1, r, rfl, hS⟩ := s1I_e hS
  obtain ⟨x1, r, rfl, hS⟩ := s1I_e hS
  obtain ⟨hy, hs⟩ := List.forall_mem_cons.mp hs
  obtain ⟨hx, hs⟩ := List.forall_mem_cons.mp hs
  have g := hK _ _ _ _ hS H ls locs hM hL (List.forall_mem_cons.mpr ⟨r32_I _, hs⟩) hl hq hx0 hu0
  rw [List.map_cons, show jV D (jI (jxor x1 y1)) = .int _ from congrArg Value.int (Int32.ofInt_toInt _)] at g
  exact lv_ixor hX.1 hX.2.1 hd  g
theorem st_ishl (hX : jX D p s m args meth c y)  (hd : decode (mT y).2.1 pc = .ok (.ishl, 1)) (hS : jS cl (.ishl) pc 1 loc stk h K Rt) (hK : ∀ pc loc stk h, K pc loc stk h → jG D p l e R s m args below meth c Q x0 u0 pc loc stk h) : jG D p l e R s m args below meth c Q x0 u0 pc loc stk h := by
  intro H ls locs hM hL hs hl hq hx0 hu0
  obtain ⟨y1, r, rfl, hS⟩ := s1I_e hS
  obtain ⟨x1, r, rfl, hS⟩ := s1I_e hS
  obtain ⟨hy, hs⟩ := List.forall_mem_cons.mp hs
  obtain ⟨hx, hs⟩ := List.forall_mem_cons.mp hs
  have g := hK _ _ _ _ hS H ls locs hM hL (List.forall_mem_cons.mpr ⟨r32_I _, hs⟩) hl hq hx0 hu0
  rw [List.map_cons, show jV D (jI (jshl x1 y1)) = .int _ from congrArg Value.int (Int32.ofInt_toInt _)] at g
  exact lv_ishl hX.1 hX.2.1 hd  g
theorem st_ishr (hX : jX D p s m args meth c y)  (hd : decode (mT y).2.1 pc = .ok (.ishr, 1)) (hS : jS cl (.ishr) pc 1 loc stk h K Rt) (hK : ∀ pc loc stk h, K pc loc stk h → jG D p l e R s m args below meth c Q x0 u0 pc loc stk h) : jG D p l e R s m args below meth c Q x0 u0 pc loc stk h := by
  intro H ls locs hM hL hs hl hq hx0 hu0
  obtain ⟨y1, r, rfl, hS⟩ := s1I_e hS
  obtain ⟨x1, r, rfl, hS⟩ := s1I_e hS
  obtain ⟨hy, hs⟩ := List.forall_mem_cons.mp hs
  obtain ⟨hx, hs⟩ := List.forall_mem_cons.mp hs
  have g := hK _ _ _ _ hS H ls locs hM hL (List.forall_mem_cons.mpr ⟨r32_I _, hs⟩) hl hq hx0 hu0
  rw [List.map_cons, show jV D (jI (jshr x1 y1)) = .int _ from congrArg Value.int (Int32.ofInt_toInt _)] at g
  exact lv_ishr hX.1 hX.2.1 hd  g
theorem st_iushr (hX : jX D p s m args meth c y)  (hd : decode (mT y).2.1 pc = .ok (.iushr, 1)) (hS : jS cl (.iushr) pc 1 loc stk h K Rt) (hK : ∀ pc loc stk h, K pc loc stk h → jG D p l e R s m args below meth c Q x0 u0 pc loc stk h) : jG D p l e R s m args below meth c Q x0 u0 pc loc stk h := by
  intro H ls locs hM hL hs hl hq hx0 hu0
  obtain ⟨y1, r, rfl, hS⟩ := s1I_e hS
  obtain ⟨x1, r, rfl, hS⟩ := s1I_e hS
  obtain ⟨hy, hs⟩ := List.forall_mem_cons.mp hs
  obtain ⟨hx, hs⟩ := List.forall_mem_cons.mp hs
  have g := hK _ _ _ _ hS H ls locs hM hL (List.forall_mem_cons.mpr ⟨r32_I _, hs⟩) hl hq hx0 hu0
  rw [List.map_cons, show jV D (jI (jush x1 y1)) = .int _ from congrArg Value.int (Int32.ofInt_toInt _)] at g
  exact lv_iushr hX.1 hX.2.1 hd rfl g
theorem st_land (hX : jX D p s m args meth c y)  (hd : decode (mT y).2.1 pc = .ok (.land, 1)) (hS : jS cl (.land) pc 1 loc stk h K Rt) (hK : ∀ pc loc stk h, K pc loc stk h → jG D p l e R s m args below meth c Q x0 u0 pc loc stk h) : jG D p l e R s m args below meth c Q x0 u0 pc loc stk h := by
  intro H ls locs hM hL hs hl hq hx0 hu0
  obtain ⟨y1, r, rfl, hS⟩ := s1L_e hS
  obtain ⟨x1, r, rfl, hS⟩ := s1L_e hS
  obtain ⟨hy, hs⟩ := List.forall_mem_cons.mp hs
  obtain ⟨hx, hs⟩ := List.forall_mem_cons.mp hs
  have g := hK _ _ _ _ hS H ls locs hM hL (List.forall_mem_cons.mpr ⟨r64_L _, hs⟩) hl hq hx0 hu0
  rw [List.map_cons, show jV D (jL (jandL x1 y1)) = .long _ from congrArg Value.long (Int64.ofInt_toInt _)] at g
  exact lv_land hX.1 hX.2.1 hd  g
theorem st_lor (hX : jX D p s m args meth c y)  (hd : decode (mT y).2.1 pc = .ok (.lor, 1)) (hS : jS cl (.lor) pc 1 loc stk h K Rt) (hK : ∀ pc loc stk h, K pc loc stk h → jG D p l e R s m args below meth c Q x0 u0 pc loc stk h) : jG D p l e R s m args below meth c Q x0 u0 pc loc stk h := by
  intro H ls locs hM hL hs hl hq hx0 hu0
  obtain ⟨y1, r, rfl, hS⟩ := s1L_e hS
  obtain ⟨x1, r, rfl, hS⟩ := s1L_e hS
  obtain ⟨hy, hs⟩ := List.forall_mem_cons.mp hs
  obtain ⟨hx, hs⟩ := List.forall_mem_cons.mp hs
  have g := hK _ _ _ _ hS H ls locs hM hL (List.forall_mem_cons.mpr ⟨r64_L _, hs⟩) hl hq hx0 hu0
  rw [List.map_cons, show jV D (jL (jorL x1 y1)) = .long _ from congrArg Value.long (Int64.ofInt_toInt _)] at g
  exact lv_lor hX.1 hX.2.1 hd  g
theorem st_lshl (hX : jX D p s m args meth c y)  (hd : decode (mT y).2.1 pc = .ok (.lshl, 1)) (hS : jS cl (.lshl) pc 1 loc stk h K Rt) (hK : ∀ pc loc stk h, K pc loc stk h → jG D p l e R s m args below meth c Q x0 u0 pc loc stk h) : jG D p l e R s m args below meth c Q x0 u0 pc loc stk h := by
  intro H ls locs hM hL hs hl hq hx0 hu0
  obtain ⟨y1, r, rfl, hS⟩ := s1I_e hS
  obtain ⟨x1, r, rfl, hS⟩ := s1L_e hS
  obtain ⟨hy, hs⟩ := List.forall_mem_cons.mp hs
  obtain ⟨hx, hs⟩ := List.forall_mem_cons.mp hs
  have g := hK _ _ _ _ hS H ls locs hM hL (List.forall_mem_cons.mpr ⟨r64_L _, hs⟩) hl hq hx0 hu0
  rw [List.map_cons, show jV D (jL (jshlL x1 y1)) = .long _ from congrArg Value.long (Int64.ofInt_toInt _)] at g
  exact lv_lshl hX.1 hX.2.1 hd rfl g
theorem st_lshr (hX : jX D p s m args meth c y)  (hd : decode (mT y).2.1 pc = .ok (.lshr, 1)) (hS : jS cl (.lshr) pc 1 loc stk h K Rt) (hK : ∀ pc loc stk h, K pc loc stk h → jG D p l e R s m args below meth c Q x0 u0 pc loc stk h) : jG D p l e R s m args below meth c Q x0 u0 pc loc stk h := by
  intro H ls locs hM hL hs hl hq hx0 hu0
  obtain ⟨y1, r, rfl, hS⟩ := s1I_e hS
  obtain ⟨x1, r, rfl, hS⟩ := s1L_e hS
  obtain ⟨hy, hs⟩ := List.forall_mem_cons.mp hs
  obtain ⟨hx, hs⟩ := List.forall_mem_cons.mp hs
  have g := hK _ _ _ _ hS H ls locs hM hL (List.forall_mem_cons.mpr ⟨r64_L _, hs⟩) hl hq hx0 hu0
  rw [List.map_cons, show jV D (jL (jshrL x1 y1)) = .long _ from congrArg Value.long (Int64.ofInt_toInt _)] at g
  exact lv_lshr hX.1 hX.2.1 hd rfl g
theorem st_lushr (hX : jX D p s m args meth c y)  (hd : decode (mT y).2.1 pc = .ok (.lushr, 1)) (hS : jS cl (.lushr) pc 1 loc stk h K Rt) (hK : ∀ pc loc stk h, K pc loc stk h → jG D p l e R s m args below meth c Q x0 u0 pc loc stk h) : jG D p l e R s m args below meth c Q x0 u0 pc loc stk h := by
  intro H ls locs hM hL hs hl hq hx0 hu0
  obtain ⟨y1, r, rfl, hS⟩ := s1I_e hS
  obtain ⟨x1, r, rfl, hS⟩ := s1L_e hS
  obtain ⟨hy, hs⟩ := List.forall_mem_cons.mp hs
  obtain ⟨hx, hs⟩ := List.forall_mem_cons.mp hs
  have g := hK _ _ _ _ hS H ls locs hM hL (List.forall_mem_cons.mpr ⟨r64_L _, hs⟩) hl hq hx0 hu0
  rw [List.map_cons, show jV D (jL (jushL x1 y1)) = .long _ from congrArg Value.long (Int64.ofInt_toInt _)] at g
  exact lv_lushr hX.1 hX.2.1 hd rfl g
theorem st_ineg (hX : jX D p s m args meth c y)  (hd : decode (mT y).2.1 pc = .ok (.ineg, 1)) (hS : jS cl (.ineg) pc 1 loc stk h K Rt) (hK : ∀ pc loc stk h, K pc loc stk h → jG D p l e R s m args below meth c Q x0 u0 pc loc stk h) : jG D p l e R s m args below meth c Q x0 u0 pc loc stk h := by
  intro H ls locs hM hL hs hl hq hx0 hu0
  obtain ⟨x1, r, rfl, hS⟩ := s1I_e hS
  obtain ⟨hx, hs⟩ := List.forall_mem_cons.mp hs
  refine lv_ineg hX.1 hX.2.1 hd ?_
  rw [I_neg]
  exact hK _ _ _ _ hS H ls locs hM hL (List.forall_mem_cons.mpr ⟨w32_r _, hs⟩) hl hq hx0 hu0
theorem st_lneg (hX : jX D p s m args meth c y)  (hd : decode (mT y).2.1 pc = .ok (.lneg, 1)) (hS : jS cl (.lneg) pc 1 loc stk h K Rt) (hK : ∀ pc loc stk h, K pc loc stk h → jG D p l e R s m args below meth c Q x0 u0 pc loc stk h) : jG D p l e R s m args below meth c Q x0 u0 pc loc stk h := by
  intro H ls locs hM hL hs hl hq hx0 hu0
  obtain ⟨x1, r, rfl, hS⟩ := s1L_e hS
  obtain ⟨hx, hs⟩ := List.forall_mem_cons.mp hs
  refine lv_lneg hX.1 hX.2.1 hd ?_
  rw [L_neg]
  exact hK _ _ _ _ hS H ls locs hM hL (List.forall_mem_cons.mpr ⟨w64_r _, hs⟩) hl hq hx0 hu0
theorem st_i2l (hX : jX D p s m args meth c y)  (hd : decode (mT y).2.1 pc = .ok (.i2l, 1)) (hS : jS cl (.i2l) pc 1 loc stk h K Rt) (hK : ∀ pc loc stk h, K pc loc stk h → jG D p l e R s m args below meth c Q x0 u0 pc loc stk h) : jG D p l e R s m args below meth c Q x0 u0 pc loc stk h := by
  intro H ls locs hM hL hs hl hq hx0 hu0
  obtain ⟨x1, r, rfl, hS⟩ := s1I_e hS
  obtain ⟨hx, hs⟩ := List.forall_mem_cons.mp hs
  have hx : r32 x1 := hx
  refine lv_i2l (v := Int64.ofInt x1) hX.1 hX.2.1 hd (by rw [← Int64.toInt_inj, Int32.toInt_toInt64, I_to hx, L_to (by unfold r32 at hx; unfold r64; omega)]) ?_
  exact hK _ _ _ _ hS H ls locs hM hL (List.forall_mem_cons.mpr ⟨(by show r64 x1; unfold r32 at hx; unfold r64; omega), hs⟩) hl hq hx0 hu0
theorem st_l2i (hX : jX D p s m args meth c y)  (hd : decode (mT y).2.1 pc = .ok (.l2i, 1)) (hS : jS cl (.l2i) pc 1 loc stk h K Rt) (hK : ∀ pc loc stk h, K pc loc stk h → jG D p l e R s m args below meth c Q x0 u0 pc loc stk h) : jG D p l e R s m args below meth c Q x0 u0 pc loc stk h := by
  intro H ls locs hM hL hs hl hq hx0 hu0
  obtain ⟨x1, r, rfl, hS⟩ := s1L_e hS
  obtain ⟨hx, hs⟩ := List.forall_mem_cons.mp hs
  refine lv_l2i (v := Int32.ofInt (w32 x1)) hX.1 hX.2.1 hd (by rw [Int64.toInt32_ofInt, I_w32]) ?_
  exact hK _ _ _ _ hS H ls locs hM hL (List.forall_mem_cons.mpr ⟨w32_r _, hs⟩) hl hq hx0 hu0
theorem st_i2b (hX : jX D p s m args meth c y)  (hd : decode (mT y).2.1 pc = .ok (.i2b, 1)) (hS : jS cl (.i2b) pc 1 loc stk h K Rt) (hK : ∀ pc loc stk h, K pc loc stk h → jG D p l e R s m args below meth c Q x0 u0 pc loc stk h) : jG D p l e R s m args below meth c Q x0 u0 pc loc stk h := by
  intro H ls locs hM hL hs hl hq hx0 hu0
  obtain ⟨x1, r, rfl, hS⟩ := s1I_e hS
  obtain ⟨hx, hs⟩ := List.forall_mem_cons.mp hs
  have g := hK _ _ _ _ hS H ls locs hM hL (List.forall_mem_cons.mpr ⟨r32_I _, hs⟩) hl hq hx0 hu0
  rw [List.map_cons, show jV D (jI (ji2b x1)) = .int _ from congrArg Value.int (Int32.ofInt_toInt _)] at g
  exact lv_i2b hX.1 hX.2.1 hd rfl g
theorem st_i2c (hX : jX D p s m args meth c y)  (hd : decode (mT y).2.1 pc = .ok (.i2c, 1)) (hS : jS cl (.i2c) pc 1 loc stk h K Rt) (hK : ∀ pc loc stk h, K pc loc stk h → jG D p l e R s m args below meth c Q x0 u0 pc loc stk h) : jG D p l e R s m args below meth c Q x0 u0 pc loc stk h := by
  intro H ls locs hM hL hs hl hq hx0 hu0
  obtain ⟨x1, r, rfl, hS⟩ := s1I_e hS
  obtain ⟨hx, hs⟩ := List.forall_mem_cons.mp hs
  have g := hK _ _ _ _ hS H ls locs hM hL (List.forall_mem_cons.mpr ⟨r32_I _, hs⟩) hl hq hx0 hu0
  rw [List.map_cons, show jV D (jI (ji2c x1)) = .int _ from congrArg Value.int (Int32.ofInt_toInt _)] at g
  exact lv_i2c hX.1 hX.2.1 hd rfl g
theorem st_lcmp (hX : jX D p s m args meth c y)  (hd : decode (mT y).2.1 pc = .ok (.lcmp, 1)) (hS : jS cl (.lcmp) pc 1 loc stk h K Rt) (hK : ∀ pc loc stk h, K pc loc stk h → jG D p l e R s m args below meth c Q x0 u0 pc loc stk h) : jG D p l e R s m args below meth c Q x0 u0 pc loc stk h := by
  intro H ls locs hM hL hs hl hq hx0 hu0
  obtain ⟨y1, r, rfl, hS⟩ := s1L_e hS
  obtain ⟨x1, r, rfl, hS⟩ := s1L_e hS
  obtain ⟨hy, hs⟩ := List.forall_mem_cons.mp hs
  obtain ⟨hx, hs⟩ := List.forall_mem_cons.mp hs
  have hy : r64 y1 := hy
  have hx : r64 x1 := hx
  refine W.lcmp hX.1 hX.2.1 hd ?_
  have e0 : lg_cmp (Int64.ofInt x1) (Int64.ofInt y1) = Int32.ofInt (jcmp x1 y1) := by
    unfold lg_cmp jcmp
    simp only [gt_iff_lt, L_lt hy hx, L_eq hx hy]
    split
    · rfl
    · split <;> rfl
  rw [e0]
  exact hK _ _ _ _ hS H ls locs hM hL (List.forall_mem_cons.mpr ⟨(by show r32 (jcmp x1 y1); unfold jcmp r32; split <;> (try split) <;> omega), hs⟩) hl hq hx0 hu0
theorem st_dup (hX : jX D p s m args meth c y)  (hd : decode (mT y).2.1 pc = .ok (.dup, 1)) (hS : jS cl (.dup) pc 1 loc stk h K Rt) (hK : ∀ pc loc stk h, K pc loc stk h → jG D p l e R s m args below meth c Q x0 u0 pc loc stk h) : jG D p l e R s m args below meth c Q x0 u0 pc loc stk h := by
  intro H ls locs hM hL hs hl hq hx0 hu0
  obtain ⟨v, r, rfl, hv, hS⟩ := s1V_e hS
  obtain ⟨hx, hs⟩ := List.forall_mem_cons.mp hs
  exact lv_dup hX.1 hX.2.1 hd (by rw [jV_cat hM.fv, jcat, hv]; rfl) (hK _ _ _ _ hS H ls locs hM hL (List.forall_mem_cons.mpr ⟨hx, List.forall_mem_cons.mpr ⟨hx, hs⟩⟩) hl hq hx0 hu0)
theorem st_pop (hX : jX D p s m args meth c y)  (hd : decode (mT y).2.1 pc = .ok (.pop, 1)) (hS : jS cl (.pop) pc 1 loc stk h K Rt) (hK : ∀ pc loc stk h, K pc loc stk h → jG D p l e R s m args below meth c Q x0 u0 pc loc stk h) : jG D p l e R s m args below meth c Q x0 u0 pc loc stk h := by
  intro H ls locs hM hL hs hl hq hx0 hu0
  obtain ⟨v, r, rfl, hv, hS⟩ := s1V_e hS
  obtain ⟨hx, hs⟩ := List.forall_mem_cons.mp hs
  exact lv_pop hX.1 hX.2.1 hd (by rw [jV_cat hM.fv, jcat, hv]; rfl) (hK _ _ _ _ hS H ls locs hM hL hs hl hq hx0 hu0)
theorem st_dup2 (hX : jX D p s m args meth c y)  (hd : decode (mT y).2.1 pc = .ok (.dup2, 1)) (hS : jS cl (.dup2) pc 1 loc stk h K Rt) (hK : ∀ pc loc stk h, K pc loc stk h → jG D p l e R s m args below meth c Q x0 u0 pc loc stk h) : jG D p l e R s m args below meth c Q x0 u0 pc loc stk h := by
  intro H ls locs hM hL hs hl hq hx0 hu0
  obtain ⟨v, r, rfl, hv, hS⟩ := s1V_e hS
  obtain ⟨w, r, rfl, hw, hS⟩ := s1V_e hS
  obtain ⟨hx, hs⟩ := List.forall_mem_cons.mp hs
  obtain ⟨hy, hs⟩ := List.forall_mem_cons.mp hs
  exact lv_dup2_11 hX.1 hX.2.1 hd (by rw [jV_cat hM.fv, jcat, hv]; rfl) (by rw [jV_cat hM.fv, jcat, hw]; rfl) (hK _ _ _ _ hS H ls locs hM hL (List.forall_mem_cons.mpr ⟨hx, List.forall_mem_cons.mpr ⟨hy, List.forall_mem_cons.mpr ⟨hx, List.forall_mem_cons.mpr ⟨hy, hs⟩⟩⟩⟩) hl hq hx0 hu0)
theorem st_if_eq (hX : jX D p s m args meth c y) {off : Int} (ht : 0 ≤ (pc : Int) + off) (hd : decode (mT y).2.1 pc = .ok (.ifCond .eq off, 3)) (hS : jS cl (.ifCond .eq ((pc : Int) + off)) pc 3 loc stk h K Rt) (hK : ∀ pc loc stk h, K pc loc stk h → jG D p l e R s m args below meth c Q x0 u0 pc loc stk h) : jG D p l e R s m args below meth c Q x0 u0 pc loc stk h := by
  intro H ls locs hM hL hs hl hq hx0 hu0
  obtain ⟨x1, r, rfl, hS⟩ := s1I_e hS
  obtain ⟨hx, hs⟩ := List.forall_mem_cons.mp hs
  have hx : r32 x1 := hx
  refine lv_if_eq (tgt := ((pc : Int) + off).toNat) hX.1 hX.2.1 hd (by omega) (fun q => ?_) (fun q => ?_)
  · exact hK _ _ _ _ (hS.1 ((I_eq hx r32_0).mp q)) H ls locs hM hL hs hl hq hx0 hu0
  · exact hK _ _ _ _ (hS.2 (fun z => q ((I_eq hx r32_0).mpr z))) H ls locs hM hL hs hl hq hx0 hu0
theorem st_icmp_eq (hX : jX D p s m args meth c y) {off : Int} (ht : 0 ≤ (pc : Int) + off) (hd : decode (mT y).2.1 pc = .ok (.if_icmp .eq off, 3)) (hS : jS cl (.if_icmp .eq ((pc : Int) + off)) pc 3 loc stk h K Rt) (hK : ∀ pc loc stk h, K pc loc stk h → jG D p l e R s m args below meth c Q x0 u0 pc loc stk h) : jG D p l e R s m args below meth c Q x0 u0 pc loc stk h := by
  intro H ls locs hM hL hs hl hq hx0 hu0
  obtain ⟨y1, r, rfl, hS⟩ := s1I_e hS
  obtain ⟨x1, r, rfl, hS⟩ := s1I_e hS
  obtain ⟨hy, hs⟩ := List.forall_mem_cons.mp hs
  obtain ⟨hx, hs⟩ := List.forall_mem_cons.mp hs
  have hx : r32 x1 := hx
  have hy : r32 y1 := hy
  refine lv_icmp_eq (tgt := ((pc : Int) + off).toNat) hX.1 hX.2.1 hd (by omega) (fun q => ?_) (fun q => ?_)
  · exact hK _ _ _ _ (hS.1 ((I_eq hx hy).mp q)) H ls locs hM hL hs hl hq hx0 hu0
  · exact hK _ _ _ _ (hS.2 (fun z => q ((I_eq hx hy).mpr z))) H ls locs hM hL hs hl hq hx0 hu0
theorem st_if_ne (hX : jX D p s m args meth c y) {off : Int} (ht : 0 ≤ (pc : Int) + off) (hd : decode (mT y).2.1 pc = .ok (.ifCond .ne off, 3)) (hS : jS cl (.ifCond .ne ((pc : Int) + off)) pc 3 loc stk h K Rt) (hK : ∀ pc loc stk h, K pc loc stk h → jG D p l e R s m args below meth c Q x0 u0 pc loc stk h) : jG D p l e R s m args below meth c Q x0 u0 pc loc stk h := by
  intro H ls locs hM hL hs hl hq hx0 hu0
  obtain ⟨x1, r, rfl, hS⟩ := s1I_e hS
  obtain ⟨hx, hs⟩ := List.forall_mem_cons.mp hs
  have hx : r32 x1 := hx
  refine lv_if_ne (tgt := ((pc : Int) + off).toNat) hX.1 hX.2.1 hd (by omega) (fun q => ?_) (fun q => ?_)
  · exact hK _ _ _ _ (hS.1 ((not_congr (I_eq hx r32_0)).mp q)) H ls locs hM hL hs hl hq hx0 hu0
  · exact hK _ _ _ _ (hS.2 (fun z => z ((I_eq hx r32_0).mp q))) H ls locs hM hL hs hl hq hx0 hu0
theorem st_icmp_ne (hX : jX D p s m args meth c y) {off : Int} (ht : 0 ≤ (pc : Int) + off) (hd : decode (mT y).2.1 pc = .ok (.if_icmp .ne off, 3)) (hS : jS cl (.if_icmp .ne ((pc : Int) + off)) pc 3 loc stk h K Rt) (hK : ∀ pc loc stk h, K pc loc stk h → jG D p l e R s m args below meth c Q x0 u0 pc loc stk h) : jG D p l e R s m args below meth c Q x0 u0 pc loc stk h := by
  intro H ls locs hM hL hs hl hq hx0 hu0
  obtain ⟨y1, r, rfl, hS⟩ := s1I_e hS
  obtain ⟨x1, r, rfl, hS⟩ := s1I_e hS
  obtain ⟨hy, hs⟩ := List.forall_mem_cons.mp hs
  obtain ⟨hx, hs⟩ := List.forall_mem_cons.mp hs
  have hx : r32 x1 := hx
  have hy : r32 y1 := hy
  refine lv_icmp_ne (tgt := ((pc : Int) + off).toNat) hX.1 hX.2.1 hd (by omega) (fun q => ?_) (fun q => ?_)
  · exact hK _ _ _ _ (hS.1 ((not_congr (I_eq hx hy)).mp q)) H ls locs hM hL hs hl hq hx0 hu0
  · exact hK _ _ _ _ (hS.2 (fun z => z ((I_eq hx hy).mp q))) H ls locs hM hL hs hl hq hx0 hu0
theorem st_if_lt (hX : jX D p s m args meth c y) {off : Int} (ht : 0 ≤ (pc : Int) + off) (hd : decode (mT y).2.1 pc = .ok (.ifCond .lt off, 3)) (hS : jS cl (.ifCond .lt ((pc : Int) + off)) pc 3 loc stk h K Rt) (hK : ∀ pc loc stk h, K pc loc stk h → jG D p l e R s m args below meth c Q x0 u0 pc loc stk h) : jG D p l e R s m args below meth c Q x0 u0 pc loc stk h := by
  intro H ls locs hM hL hs hl hq hx0 hu0
  obtain ⟨x1, r, rfl, hS⟩ := s1I_e hS
  obtain ⟨hx, hs⟩ := List.forall_mem_cons.mp hs
  have hx : r32 x1 := hx
  refine lv_if_lt (tgt := ((pc : Int) + off).toNat) hX.1 hX.2.1 hd (by omega) (fun q => ?_) (fun q => ?_)
  · exact hK _ _ _ _ (hS.1 ((I_lt hx r32_0).mp q)) H ls locs hM hL hs hl hq hx0 hu0
  · exact hK _ _ _ _ (hS.2 (fun z => q ((I_lt hx r32_0).mpr z))) H ls locs hM hL hs hl hq hx0 hu0
theorem st_icmp_lt (hX : jX D p s m args meth c y) {off : Int} (ht : 0 ≤ (pc : Int) + off) (hd : decode (mT y).2.1 pc = .ok (.if_icmp .lt off, 3)) (hS : jS cl (.if_icmp .lt ((pc : Int) + off)) pc 3 loc stk h K Rt) (hK : ∀ pc loc stk h, K pc loc stk h → jG D p l e R s m args below meth c Q x0 u0 pc loc stk h) : jG D p l e R s m args below meth c Q x0 u0 pc loc stk h := by
  intro H ls locs hM hL hs hl hq hx0 hu0
  obtain ⟨y1, r, rfl, hS⟩ := s1I_e hS
  obtain ⟨x1, r, rfl, hS⟩ := s1I_e hS
  obtain ⟨hy, hs⟩ := List.forall_mem_cons.mp hs
  obtain ⟨hx, hs⟩ := List.forall_mem_cons.mp hs
  have hx : r32 x1 := hx
  have hy : r32 y1 := hy
  refine lv_icmp_lt (tgt := ((pc : Int) + off).toNat) hX.1 hX.2.1 hd (by omega) (fun q => ?_) (fun q => ?_)
  · exact hK _ _ _ _ (hS.1 ((I_lt hx hy).mp q)) H ls locs hM hL hs hl hq hx0 hu0
  · exact hK _ _ _ _ (hS.2 (fun z => q ((I_lt hx hy).mpr z))) H ls locs hM hL hs hl hq hx0 hu0
theorem st_if_ge (hX : jX D p s m args meth c y) {off : Int} (ht : 0 ≤ (pc : Int) + off) (hd : decode (mT y).2.1 pc = .ok (.ifCond .ge off, 3)) (hS : jS cl (.ifCond .ge ((pc : Int) + off)) pc 3 loc stk h K Rt) (hK : ∀ pc loc stk h, K pc loc stk h → jG D p l e R s m args below meth c Q x0 u0 pc loc stk h) : jG D p l e R s m args below meth c Q x0 u0 pc loc stk h := by
  intro H ls locs hM hL hs hl hq hx0 hu0
  obtain ⟨x1, r, rfl, hS⟩ := s1I_e hS
  obtain ⟨hx, hs⟩ := List.forall_mem_cons.mp hs
  have hx : r32 x1 := hx
  refine lv_if_ge (tgt := ((pc : Int) + off).toNat) hX.1 hX.2.1 hd (by omega) (fun q => ?_) (fun q => ?_)
  · exact hK _ _ _ _ (hS.1 ((I_le r32_0 hx).mp q)) H ls locs hM hL hs hl hq hx0 hu0
  · exact hK _ _ _ _ (hS.2 (fun z => q ((I_le r32_0 hx).mpr z))) H ls locs hM hL hs hl hq hx0 hu0
theorem st_icmp_ge (hX : jX D p s m args meth c y) {off : Int} (ht : 0 ≤ (pc : Int) + off) (hd : decode (mT y).2.1 pc = .ok (.if_icmp .ge off, 3)) (hS : jS cl (.if_icmp .ge ((pc : Int) + off)) pc 3 loc stk h K Rt) (hK : ∀ pc loc stk h, K pc loc stk h → jG D p l e R s m args below meth c Q x0 u0 pc loc stk h) : jG D p l e R s m args below meth c Q x0 u0 pc loc stk h := by
  intro H ls locs hM hL hs hl hq hx0 hu0
  obtain ⟨y1, r, rfl, hS⟩ := s1I_e hS
  obtain ⟨x1, r, rfl, hS⟩ := s1I_e hS
  obtain ⟨hy, hs⟩ := List.forall_mem_cons.mp hs
  obtain ⟨hx, hs⟩ := List.forall_mem_cons.mp hs
  have hx : r32 x1 := hx
  have hy : r32 y1 := hy
  refine lv_icmp_ge (tgt := ((pc : Int) + off).toNat) hX.1 hX.2.1 hd (by omega) (fun q => ?_) (fun q => ?_)
  · exact hK _ _ _ _ (hS.1 ((I_le hy hx).mp q)) H ls locs hM hL hs hl hq hx0 hu0
  · exact hK _ _ _ _ (hS.2 (fun z => q ((I_le hy hx).mpr z))) H ls locs hM hL hs hl hq hx0 hu0
theorem st_if_gt (hX : jX D p s m args meth c y) {off : Int} (ht : 0 ≤ (pc : Int) + off) (hd : decode (mT y).2.1 pc = .ok (.ifCond .gt off, 3)) (hS : jS cl (.ifCond .gt ((pc : Int) + off)) pc 3 loc stk h K Rt) (hK : ∀ pc loc stk h, K pc loc stk h → jG D p l e R s m args below meth c Q x0 u0 pc loc stk h) : jG D p l e R s m args below meth c Q x0 u0 pc loc stk h := by
  intro H ls locs hM hL hs hl hq hx0 hu0
  obtain ⟨x1, r, rfl, hS⟩ := s1I_e hS
  obtain ⟨hx, hs⟩ := List.forall_mem_cons.mp hs
  have hx : r32 x1 := hx
  refine lv_if_gt (tgt := ((pc : Int) + off).toNat) hX.1 hX.2.1 hd (by omega) (fun q => ?_) (fun q => ?_)
  · exact hK _ _ _ _ (hS.1 ((I_lt r32_0 hx).mp q)) H ls locs hM hL hs hl hq hx0 hu0
  · exact hK _ _ _ _ (hS.2 (fun z => q ((I_lt r32_0 hx).mpr z))) H ls locs hM hL hs hl hq hx0 hu0
theorem st_icmp_gt (hX : jX D p s m args meth c y) {off : Int} (ht : 0 ≤ (pc : Int) + off) (hd : decode (mT y).2.1 pc = .ok (.if_icmp .gt off, 3)) (hS : jS cl (.if_icmp .gt ((pc : Int) + off)) pc 3 loc stk h K Rt) (hK : ∀ pc loc stk h, K pc loc stk h → jG D p l e R s m args below meth c Q x0 u0 pc loc stk h) : jG D p l e R s m args below meth c Q x0 u0 pc loc stk h := by
  intro H ls locs hM hL hs hl hq hx0 hu0
  obtain ⟨y1, r, rfl, hS⟩ := s1I_e hS
  obtain ⟨x1, r, rfl, hS⟩ := s1I_e hS
  obtain ⟨hy, hs⟩ := List.forall_mem_cons.mp hs
  obtain ⟨hx, hs⟩ := List.forall_mem_cons.mp hs
  have hx : r32 x1 := hx
  have hy : r32 y1 := hy
  refine lv_icmp_gt (tgt := ((pc : Int) + off).toNat) hX.1 hX.2.1 hd (by omega) (fun q => ?_) (fun q => ?_)
  · exact hK _ _ _ _ (hS.1 ((I_lt hy hx).mp q)) H ls locs hM hL hs hl hq hx0 hu0
  · exact hK _ _ _ _ (hS.2 (fun z => q ((I_lt hy hx).mpr z))) H ls locs hM hL hs hl hq hx0 hu0
theorem st_if_le (hX : jX D p s m args meth c y) {off : Int} (ht : 0 ≤ (pc : Int) + off) (hd : decode (mT y).2.1 pc = .ok (.ifCond .le off, 3)) (hS : jS cl (.ifCond .le ((pc : Int) + off)) pc 3 loc stk h K Rt) (hK : ∀ pc loc stk h, K pc loc stk h → jG D p l e R s m args below meth c Q x0 u0 pc loc stk h) : jG D p l e R s m args below meth c Q x0 u0 pc loc stk h := by
  intro H ls locs hM hL hs hl hq hx0 hu0
  obtain ⟨x1, r, rfl, hS⟩ := s1I_e hS
  obtain ⟨hx, hs⟩ := List.forall_mem_cons.mp hs
  have hx : r32 x1 := hx
  refine lv_if_le (tgt := ((pc : Int) + off).toNat) hX.1 hX.2.1 hd (by omega) (fun q => ?_) (fun q => ?_)
  · exact hK _ _ _ _ (hS.1 ((I_le hx r32_0).mp q)) H ls locs hM hL hs hl hq hx0 hu0
  · exact hK _ _ _ _ (hS.2 (fun z => q ((I_le hx r32_0).mpr z))) H ls locs hM hL hs hl hq hx0 hu0
theorem st_icmp_le (hX : jX D p s m args meth c y) {off : Int} (ht : 0 ≤ (pc : Int) + off) (hd : decode (mT y).2.1 pc = .ok (.if_icmp .le off, 3)) (hS : jS cl (.if_icmp .le ((pc : Int) + off)) pc 3 loc stk h K Rt) (hK : ∀ pc loc stk h, K pc loc stk h → jG D p l e R s m args below meth c Q x0 u0 pc loc stk h) : jG D p l e R s m args below meth c Q x0 u0 pc loc stk h := by
  intro H ls locs hM hL hs hl hq hx0 hu0
  obtain ⟨y1, r, rfl, hS⟩ := s1I_e hS
  obtain ⟨x1, r, rfl, hS⟩ := s1I_e hS
  obtain ⟨hy, hs⟩ := List.forall_mem_cons.mp hs
  obtain ⟨hx, hs⟩ := List.forall_mem_cons.mp hs
  have hx : r32 x1 := hx
  have hy : r32 y1 := hy
  refine lv_icmp_le (tgt := ((pc : Int) + off).toNat) hX.1 hX.2.1 hd (by omega) (fun q => ?_) (fun q => ?_)
  · exact hK _ _ _ _ (hS.1 ((I_le hx hy).mp q)) H ls locs hM hL hs hl hq hx0 hu0
  · exact hK _ _ _ _ (hS.2 (fun z => q ((I_le hx hy).mpr z))) H ls locs hM hL hs hl hq hx0 hu0
theorem st_goto (hX : jX D p s m args meth c y) {off : Int} (ht : 0 ≤ (pc : Int) + off) (hd : decode (mT y).2.1 pc = .ok (.goto off, 3)) (hS : jS cl (.goto ((pc : Int) + off)) pc 3 loc stk h K Rt) (hK : ∀ pc loc stk h, K pc loc stk h → jG D p l e R s m args below meth c Q x0 u0 pc loc stk h) : jG D p l e R s m args below meth c Q x0 u0 pc loc stk h := by
  intro H ls locs hM hL hs hl hq hx0 hu0
  exact lv_goto (tgt := ((pc : Int) + off).toNat) hX.1 hX.2.1 hd (by omega) (hK _ _ _ _ hS H ls locs hM hL hs hl hq hx0 hu0)
theorem st_ifnull (hX : jX D p s m args meth c y) {off : Int} (ht : 0 ≤ (pc : Int) + off) (hd : decode (mT y).2.1 pc = .ok (.ifnull off, 3)) (hS : jS cl (.ifnull ((pc : Int) + off)) pc 3 loc stk h K Rt) (hK : ∀ pc loc stk h, K pc loc stk h → jG D p l e R s m args below meth c Q x0 u0 pc loc stk h) : jG D p l e R s m args below meth c Q x0 u0 pc loc stk h := by
  intro H ls locs hM hL hs hl hq hx0 hu0
  obtain ⟨a, r, rfl, h1, hS1, hS2⟩ := s1P_e hS
  replace hs := (List.forall_mem_cons.mp hs).2
  by_cases h0 : a = 0
  · subst h0; exact lv_ifnullN (tgt := ((pc : Int) + off).toNat) hX.1 hX.2.1 hd (by omega) (hK _ _ _ _ (hS1 rfl) H ls locs hM hL hs hl hq hx0 hu0)
  · have e0 : jV D (jP a) = .ref (jA D a) := jVp_2 (by omega)
    rw [List.map_cons, e0]
    exact lv_ifnull hX.1 hX.2.1 hd (hK _ _ _ _ (hS2 h0) H ls locs hM hL hs hl hq hx0 hu0)
theorem st_ifnonnull (hX : jX D p s m args meth c y) {off : Int} (ht : 0 ≤ (pc : Int) + off) (hd : decode (mT y).2.1 pc = .ok (.ifnonnull off, 3)) (hS : jS cl (.ifnonnull ((pc : Int) + off)) pc 3 loc stk h K Rt) (hK : ∀ pc loc stk h, K pc loc stk h → jG D p l e R s m args below meth c Q x0 u0 pc loc stk h) : jG D p l e R s m args below meth c Q x0 u0 pc loc stk h := by
  intro H ls locs hM hL hs hl hq hx0 hu0
  obtain ⟨a, r, rfl, h1, hS1, hS2⟩ := s1P_e hS
  replace hs := (List.forall_mem_cons.mp hs).2
  by_cases h0 : a = 0
  · subst h0; exact lv_ifnonnullN hX.1 hX.2.1 hd (hK _ _ _ _ (hS2 rfl) H ls locs hM hL hs hl hq hx0 hu0)
  · have e0 : jV D (jP a) = .ref (jA D a) := jVp_2 (by omega)
    rw [List.map_cons, e0]
    exact lv_ifnonnull (tgt := ((pc : Int) + off).toNat) hX.1 hX.2.1 hd (by omega) (hK _ _ _ _ (hS1 h0) H ls locs hM hL hs hl hq hx0 hu0)
end ST1
end
section
/-! ONE STEP: switches, fields, arrays, new cells -/
theorem kC_get {ci : Nat} (h : ci < 12) : vwCl[ci]? = some (kC ci) := by
  rcases (show ci = 0 ∨ ci = 1 ∨ ci = 2 ∨ ci = 3 ∨ ci = 4 ∨ ci = 5 ∨ ci = 6 ∨ ci = 7 ∨ ci = 8 ∨ ci = 9 ∨ ci = 10 ∨ ci = 11 by omega) with rfl | rfl | rfl | rfl | rfl | rfl | rfl | rfl | rfl | rfl | rfl | rfl <;> rfl
theorem lay_good (C : String) (T : u_T) (k : Nat) : goodWord (u_lay C T k) = true := by
  unfold u_lay
  split <;> rfl
theorem kC_in0 {ci : Nat} (h : ci < 12) : ∀ w ∈ u_ws (kC ci).1 (kC ci).2.1 (kC ci).2.2, w ∈ lw_tbl := by
  rcases (show ci = 0 ∨ ci = 1 ∨ ci = 2 ∨ ci = 3 ∨ ci = 4 ∨ ci = 5 ∨ ci = 6 ∨ ci = 7 ∨ ci = 8 ∨ ci = 9 ∨ ci = 10 ∨ ci = 11 by omega) with rfl | rfl | rfl | rfl | rfl | rfl | rfl | rfl | rfl | rfl | rfl | rfl
  · exact inX0
  · exact inX1
  · exact inX2
  · exact inX3
  · exact inX4
  · exact inX5
  · exact inX6
  · exact inX7
  · exact inX8
  · exact inX9
  · exact inX10
  · exact inX11
theorem kC_in {ci : Nat} (h : ci < 12) : ∀ w ∈ u_ws (kC ci).1 (kC ci).2.1 (kC ci).2.2, w ∈ gw := fun w hw => gw_of (kC_in0 h w hw) (by
  obtain ⟨k, -, rfl⟩ := List.mem_map.mp hw
  exact lay_good _ _ k)
theorem kC_ty {ci : Nat} (h : ci < 12) : ∀ k, k < (kC ci).2.2 → parseFieldDescriptor ((kC ci).2.1 k).2.2.1 = some (kTy ci k) := by
  rcases (show ci = 0 ∨ ci = 1 ∨ ci = 2 ∨ ci = 3 ∨ ci = 4 ∨ ci = 5 ∨ ci = 6 ∨ ci = 7 ∨ ci = 8 ∨ ci = 9 ∨ ci = 10 ∨ ci = 11 by omega) with rfl | rfl | rfl | rfl | rfl | rfl | rfl | rfl | rfl | rfl | rfl | rfl
  · exact tyX0_ok
  · exact tyX1_ok
  · exact tyX2_ok
  · exact tyX3_ok
  · exact tyX4_ok
  · exact tyX5_ok
  · exact tyX6_ok
  · exact tyX7_ok
  · exact tyX8_ok
  · exact tyX9_ok
  · exact tyX10_ok
  · exact tyX11_ok
theorem kC_nm {ci : Nat} (h : ci < 12) : ∀ a, a < (kC ci).2.2 → ∀ b, b < (kC ci).2.2 → a ≠ b → ((kC ci).2.1 a).2.1 ≠ ((kC ci).2.1 b).2.1 := by
  rcases (show ci = 0 ∨ ci = 1 ∨ ci = 2 ∨ ci = 3 ∨ ci = 4 ∨ ci = 5 ∨ ci = 6 ∨ ci = 7 ∨ ci = 8 ∨ ci = 9 ∨ ci = 10 ∨ ci = 11 by omega) with rfl | rfl | rfl | rfl | rfl | rfl | rfl | rfl | rfl | rfl | rfl | rfl
  · exact nmX0
  · exact nmX1
  · exact nmX2
  · exact nmX3
  · exact nmX4
  · exact nmX5
  · exact nmX6
  · exact nmX7
  · exact nmX8
  · exact nmX9
  · exact nmX10
  · exact nmX11
theorem tg_lt {ci : Nat} (h : ci < 12) : tg ci = ci + 1 := by
  unfold tg
  rw [if_neg (by omega)]
/-! reads behind a write -/
theorem u2_s {α : Type} (f : Nat → Nat → α) (a k : Nat) (x : α) : u2 f a k x a k = x := by simp [u2]
theorem u2_n {α : Type} (f : Nat → Nat → α) {a k b j : Nat} (x : α) (h : ¬ (b = a ∧ j = k)) : u2 f a k x b j = f b j := by unfold u2; rw [if_neg h]
theorem ji_wi (h : AH) (a k : Nat) (x : Int) (b j : Nat) : ji (wi h a k x) b j = if b = a ∧ j = k then x else ji h b j := rfl
theorem jl_wi (h : AH) (a k : Nat) (x : Int) (b j : Nat) : jl (wi h a k x) b j = jl h b j := rfl
theorem jr_wi (h : AH) (a k : Nat) (x : Int) (b j : Nat) : jr (wi h a k x) b j = jr h b j := rfl
theorem jt_wi (h : AH) (a k : Nat) (x : Int) (b : Nat) : jt (wi h a k x) b = jt h b := rfl
theorem jn_wi (h : AH) (a k : Nat) (x : Int) (b : Nat) : jn (wi h a k x) b = jn h b := rfl
theorem jx_wi (h : AH) (a k : Nat) (x : Int) : jx (wi h a k x) = jx h := rfl
theorem ju_wi (h : AH) (a k : Nat) (x : Int) : ju (wi h a k x) = ju h := rfl
theorem ji_wl (h : AH) (a k : Nat) (x : Int) (b j : Nat) : ji (wl h a k x) b j = ji h b j := rfl
theorem jl_wl (h : AH) (a k : Nat) (x : Int) (b j : Nat) : jl (wl h a k x) b j = if b = a ∧ j = k then x else jl h b j := rfl
theorem jr_wl (h : AH) (a k : Nat) (x : Int) (b j : Nat) : jr (wl h a k x) b j = jr h b j := rfl
theorem jt_wl (h : AH) (a k : Nat) (x : Int) (b : Nat) : jt (wl h a k x) b = jt h b := rfl
theorem jn_wl (h : AH) (a k : Nat) (x : Int) (b : Nat) : jn (wl h a k x) b = jn h b := rfl
theorem jx_wl (h : AH) (a k : Nat) (x : Int) : jx (wl h a k x) = jx h := rfl
theorem ju_wl (h : AH) (a k : Nat) (x : Int) : ju (wl h a k x) = ju h := rfl
theorem ji_wr (h : AH) (a k : Nat) (x : Nat) (b j : Nat) : ji (wr h a k x) b j = ji h b j := rfl
theorem jl_wr (h : AH) (a k : Nat) (x : Nat) (b j : Nat) : jl (wr h a k x) b j = jl h b j := rfl
theorem jr_wr (h : AH) (a k : Nat) (x : Nat) (b j : Nat) : jr (wr h a k x) b j = if b = a ∧ j = k then x else jr h b j := rfl
theorem jt_wr (h : AH) (a k : Nat) (x : Nat) (b : Nat) : jt (wr h a k x) b = jt h b := rfl
theorem jn_wr (h : AH) (a k : Nat) (x : Nat) (b : Nat) : jn (wr h a k x) b = jn h b := rfl
theorem jx_wr (h : AH) (a k : Nat) (x : Nat) : jx (wr h a k x) = jx h := rfl
theorem ju_wr (h : AH) (a k : Nat) (x : Nat) : ju (wr h a k x) = ju h := rfl
theorem jt_nw (h : AH) (t n b : Nat) : jt (nw h t n) b = if b = jx h then t else jt h b := rfl
theorem jn_nw (h : AH) (t n b : Nat) : jn (nw h t n) b = if b = jx h then n else jn h b := rfl
theorem ji_nw (h : AH) (t n b j : Nat) : ji (nw h t n) b j = if b = jx h then 0 else ji h b j := rfl
theorem jl_nw (h : AH) (t n b j : Nat) : jl (nw h t n) b j = if b = jx h then 0 else jl h b j := rfl
theorem jr_nw (h : AH) (t n b j : Nat) : jr (nw h t n) b j = if b = jx h then 0 else jr h b j := rfl
theorem jx_nw (h : AH) (t n : Nat) : jx (nw h t n) = jx h + 1 := rfl
theorem ju_nw (h : AH) (t n : Nat) : ju (nw h t n) = ju h + n := rfl
/-- h' is h but for one slot of a -/
def one (h h' : AH) (a k : Nat) : Prop := (∀ b, jt h' b = jt h b ∧ jn h' b = jn h b) ∧ jx h' = jx h ∧ ju h' = ju h ∧ (∀ b j, ¬ (b = a ∧ j = k) → ji h' b j = ji h b j ∧ jl h' b j = jl h b j ∧ jr h' b j = jr h b j) ∧ ∀ j, r32 (ji h' a j) ∧ r64 (jl h' a j)
theorem one.eq {h h' : AH} {a k : Nat} (o : one h h' a k) {b : Nat} (hb : ¬ b = a) : eqat h h' b := ⟨(o.1 b).1, (o.1 b).2, fun j => o.2.2.2.1 b j (fun q => hb q.1)⟩
theorem one.fl {h h' : AH} {a k : Nat} (o : one h h' a k) (ty : FieldType) {j : Nat} (hj : ¬ j = k) : jfl ty h' a j = jfl ty h a j := by
  obtain ⟨e1, e2, e3⟩ := o.2.2.2.1 a j (fun q => hj q.2)
  cases ty <;> simp [jfl, e1, e2, e3]
theorem one_wi {D : jD} {U : State} {H : Heap} {h : AH} (hM : jM D U H h) (a k : Nat) {x : Int} (hx : r32 x) : one h (wi h a k x) a k :=
  ⟨fun _ => ⟨rfl, rfl⟩, rfl, rfl, fun b j hb => ⟨by rw [ji_wi, if_neg hb], rfl, rfl⟩, fun j => ⟨by rw [ji_wi]; split; exact hx; exact (hM.2.2.2.1 a j).1, (hM.2.2.2.1 a j).2⟩⟩
theorem one_wl {D : jD} {U : State} {H : Heap} {h : AH} (hM : jM D U H h) (a k : Nat) {x : Int} (hx : r64 x) : one h (wl h a k x) a k :=
  ⟨fun _ => ⟨rfl, rfl⟩, rfl, rfl, fun b j hb => ⟨rfl, by rw [jl_wl, if_neg hb], rfl⟩, fun j => ⟨(hM.2.2.2.1 a j).1, by rw [jl_wl]; split; exact hx; exact (hM.2.2.2.1 a j).2⟩⟩
theorem one_wr {D : jD} {U : State} {H : Heap} {h : AH} (hM : jM D U H h) (a k : Nat) (x : Nat) : one h (wr h a k x) a k :=
  ⟨fun _ => ⟨rfl, rfl⟩, rfl, rfl, fun b j hb => ⟨rfl, rfl, by rw [jr_wr, if_neg hb]⟩, fun j => hM.2.2.2.1 a j⟩
/-- a field is written -/
theorem jM.putf {D : jD} {U : State} {H H' : Heap} {h h' : AH} {a k ci : Nat} {cell : Cell} {v : Value} (hM : jM D U H h) (hci : ci < 12) (ht : jt h a = ci + 1) (hk : k < (kC ci).2.2) (hap : ∀ x y, x < (kC ci).2.2 → y < (kC ci).2.2 → x ≠ y → D.2.2.2.1 ci x ≠ D.2.2.2.1 ci y) (o : one h h' a k) (hv : v = jV D (jfl (kTy ci k) h' a k))
    (hc : H[jA D a]? = some cell) (e1 : H'[jA D a]? = some (cell.setSlot (D.2.2.2.1 ci k) v)) (e2 : H'.size = H.size) (e3 : ∀ q, q ≠ jA D a → H'[q]? = H[q]?) : jM D U H' h' := by
  have ha : ¬ jt h a = 0 := by omega
  obtain ⟨n1, n2⟩ := hM.new ha (by omega)
  refine hM.upd (fun b => b = a) (fun b hb => o.eq hb) (fun b hb => ?_) (by rw [e2, o.2.1]; exact hM.2.1.1) (Nat.le_of_eq o.2.1.symm) (fun q _ hq => e3 q (hq a rfl))
  subst hb
  refine ⟨n1, ?_, by rw [(o.1 b).1]; omega, by rw [o.2.1]; exact n2, o.2.2.2.2⟩
  have e0 : jt h' b = ci + 1 := by rw [(o.1 b).1]; exact ht
  have e0' : jt h' b - 1 = ci := by omega
  refine ⟨fun _ => ?_, fun t => by omega, fun t => by omega⟩
  obtain ⟨cell2, a1, a2, a3, a4, a5⟩ := (hM.1 b ha).1 (by omega)
  cases hc.symm.trans a1
  have e9 : jt h b - 1 = ci := by omega
  rw [e9] at a2 a5
  rw [e0']
  refine ⟨_, e1, a2, a3, hci, fun j hj => ?_⟩
  rw [t_set a5 hap hk v j hj]
  unfold updV
  split
  · rename_i e
    subst e
    rw [hv]
  · rename_i e
    rw [o.fl _ e]
/-- an element is written -/
theorem jM.puta {D : jD} {U : State} {H H' : Heap} {h h' : AH} {a k n : Nat} {cell : Cell} {v : Value} (hM : jM D U H h) (hn : n < 20) (ht : jt h a = 20 + n) (hk : k < jn h a) (o : one h h' a k) (hv : v = jV D (jfl (aTy n) h' a k))
    (hc : H[jA D a]? = some cell) (e1 : H'[jA D a]? = some (cell.setSlot k v)) (e2 : H'.size = H.size) (e3 : ∀ q, q ≠ jA D a → H'[q]? = H[q]?) : jM D U H' h' := by
  have ha : ¬ jt h a = 0 := by omega
  obtain ⟨n1, n2⟩ := hM.new ha (by omega)
  refine hM.upd (fun b => b = a) (fun b hb => o.eq hb) (fun b hb => ?_) (by rw [e2, o.2.1]; exact hM.2.1.1) (Nat.le_of_eq o.2.1.symm) (fun q _ hq => e3 q (hq a rfl))
  subst hb
  refine ⟨n1, ?_, by rw [(o.1 b).1]; omega, by rw [o.2.1]; exact n2, o.2.2.2.2⟩
  have e0 : jt h' b = 20 + n := by rw [(o.1 b).1]; exact ht
  have e9 : jt h b % 20 = n := by omega
  have e9' : jt h' b % 20 = n := by omega
  refine ⟨fun t => by omega, fun _ _ => ?_, fun t => by omega⟩
  obtain ⟨cell2, a1, a2, a3, a4, a5, a6, a7⟩ := (hM.1 b ha).2.1 (by omega) (by omega)
  cases hc.symm.trans a1
  rw [e9] at a2 a6
  rw [e9', (o.1 b).2]
  refine ⟨_, e1, a2, a3, by rw [k2_slotsz]; exact a4, a5, fun j hj => ?_, fun t => a7 (by omega)⟩
  by_cases e : j = k
  · subst e
    rw [← hv]
    show (cell.slots.setIfInBounds j v)[j]? = _
    rw [Array.getElem?_setIfInBounds_self_of_lt (Nat.lt_of_lt_of_le hj a4.1)]
  · rw [o.fl _ e, slot_ne cell v (fun q => e q.symm)]
    exact a6 j hj
/-- a new cell -/
theorem jM.cell {D : jD} {U : State} {H H' : Heap} {h : AH} {t n : Nat} (hM : jM D U H h) (ht : t < 40) (hc : jC D U H' (nw h t n) (jx h)) (z : H'.size = H.size + 1) (o : ∀ q, q < H.size → H'[q]? = H[q]?) : jM D U H' (nw h t n) := by
  have hx := hM.2.1.2
  refine hM.upd (fun b => b = jx h) (fun b hb => ⟨by rw [jt_nw, if_neg hb], by rw [jn_nw, if_neg hb], fun k => ⟨by rw [ji_nw, if_neg hb], by rw [jl_nw, if_neg hb], by rw [jr_nw, if_neg hb]⟩⟩) (fun b hb => ?_) (by rw [z, hM.2.1.1, jx_nw]; omega) (by rw [jx_nw]; omega) (fun q hq _ => o q hq)
  subst hb
  refine ⟨hx, hc, by rw [jt_nw, if_pos rfl]; exact ht, by rw [jx_nw]; omega, fun k => ⟨?_, ?_⟩⟩
  · rw [ji_nw, if_pos rfl]; unfold r32; omega
  · rw [jl_nw, if_pos rfl]; unfold r64; omega
theorem jM.next {D : jD} {U : State} {H : Heap} {h : AH} (hM : jM D U H h) : jA D (jx h) = H.size := by rw [jA_new hM.2.1.2, hM.2.1.1]
theorem jfl_0 (h : AH) (t n k : Nat) {ty : FieldType} (hf : ty ≠ .float) (hd : ty ≠ .double) (D : jD) : jV D (jfl ty (nw h t n) (jx h) k) = defaultValue ty := by
  cases ty <;> first
    | exact absurd rfl hf
    | exact absurd rfl hd
    | (simp only [jfl, ji_nw, jl_nw, jr_nw, if_pos, jV, defaultValue]; rfl)
theorem kC_nf {ci : Nat} (h : ci < 12) : ∀ k, k < (kC ci).2.2 → kTy ci k ≠ .float ∧ kTy ci k ≠ .double := by
  rcases (show ci = 0 ∨ ci = 1 ∨ ci = 2 ∨ ci = 3 ∨ ci = 4 ∨ ci = 5 ∨ ci = 6 ∨ ci = 7 ∨ ci = 8 ∨ ci = 9 ∨ ci = 10 ∨ ci = 11 by omega) with rfl | rfl | rfl | rfl | rfl | rfl | rfl | rfl | rfl | rfl | rfl | rfl <;> decide +kernel
end
section
/-! ONE STEP: switches, fields, statics, arrays, new cells -/
theorem vok_fl {D : jD} {U : State} {H : Heap} {h : AH} (hM : jM D U H h) (ty : FieldType) (a k : Nat) : vok (jfl ty h a k) := by
  obtain ⟨q1, q2⟩ := hM.2.2.2.1 a k
  cases ty <;> first
    | exact q1
    | exact q2
    | trivial
theorem jlook_off (pc d x : Int) : ∀ ps : List (Int × Int), jlook (pc + d) (ps.map (fun q => (q.1, pc + q.2))) x = pc + Op.lookupswitch.offset ps d x
  | [] => rfl
  | (a, o) :: r => by
    rw [Op.lookupswitch.offset_cons, List.map_cons]
    show (if x = a then pc + o else jlook (pc + d) (r.map (fun q => (q.1, pc + q.2))) x) = _
    by_cases e : x = a
    · rw [if_pos e, if_pos e.symm]
    · rw [if_neg e, if_neg (fun q => e q.symm), jlook_off pc d x r]
theorem jlook_ok (pc d x : Int) (hd : 0 ≤ pc + d) : ∀ ps : List (Int × Int), (∀ q ∈ ps, 0 ≤ pc + q.2) → 0 ≤ pc + Op.lookupswitch.offset ps d x
  | [], _ => hd
  | (a, o) :: r, h => by
    rw [Op.lookupswitch.offset_cons]
    split
    · exact h _ List.mem_cons_self
    · exact jlook_ok pc d x hd r (fun q hq => h q (List.mem_cons_of_mem _ hq))
theorem jpf_e {ty : FieldType} {stk : List AV} {h : AH} {k : Nat} {K : Nat → List AV → AH → Prop} (hS : jpf ty stk h k K) : ∃ v a r h', stk = v :: jP a :: r ∧ K a r h' ∧ (∀ (D : jD) (U : State) (H : Heap), jM D U H h → vok v → one h h' a k) ∧
    (∀ D : jD, jV D v = jV D (jfl ty h' a k)) ∧ ∀ D : jD, jfv D → narrow ty (jV D v) = jV D v ∧ fits ty (jV D v) = true := by
  cases ty with
  | long =>
    obtain ⟨x, r, rfl, hS⟩ := s1L_e hS
    obtain ⟨a, r, rfl, hS⟩ := s1P_e hS
    exact ⟨_, a, r, _, rfl, hS, fun D U H hM hv => one_wl hM a k hv, fun D => by simp [jfl, jl_wl], fun D _ => ⟨rfl, rfl⟩⟩
  | int =>
    obtain ⟨x, r, rfl, hS⟩ := s1I_e hS
    obtain ⟨a, r, rfl, hS⟩ := s1P_e hS
    exact ⟨_, a, r, _, rfl, hS, fun D U H hM hv => one_wi hM a k hv, fun D => by simp [jfl, ji_wi], fun D _ => ⟨rfl, rfl⟩⟩
  | boolean =>
    obtain ⟨x, r, rfl, hS⟩ := s1I_e hS
    obtain ⟨a, r, rfl, hb, hS⟩ := s1P_e hS
    refine ⟨_, a, r, _, rfl, hS, fun D U H hM hv => one_wi hM a k hv, fun D => by simp [jfl, ji_wi], fun D _ => ?_⟩
    rcases hb with rfl | rfl <;> exact ⟨rfl, rfl⟩
  | object n =>
    obtain ⟨x, r, rfl, hS⟩ := s1P_e hS
    obtain ⟨a, r, rfl, hS⟩ := s1P_e hS
    refine ⟨_, a, r, _, rfl, hS, fun D U H hM hv => one_wr hM a k x, fun D => by simp [jfl, jr_wr], fun D hf => ?_⟩
    show narrow _ (jVp D x) = jVp D x ∧ fits _ (jVp D x) = true
    rcases jVp_or hf x with e | ⟨q, e⟩ <;> rw [e] <;> exact ⟨rfl, rfl⟩
  | array n =>
    obtain ⟨x, r, rfl, hS⟩ := s1P_e hS
    obtain ⟨a, r, rfl, hS⟩ := s1P_e hS
    refine ⟨_, a, r, _, rfl, hS, fun D U H hM hv => one_wr hM a k x, fun D => by simp [jfl, jr_wr], fun D hf => ?_⟩
    show narrow _ (jVp D x) = jVp D x ∧ fits _ (jVp D x) = true
    rcases jVp_or hf x with e | ⟨q, e⟩ <;> rw [e] <;> exact ⟨rfl, rfl⟩
  | _ => exact hS.elim
section ST2
variable {D : jD} {p : Program} {l : Launch} {e : Env} {R : Room} {s : State} {m : MethodId} {args : Array Value} {below : List Frame} {meth : Method} {c : Code} {Q : State → Prop} {x0 u0 y : Nat}
variable {cl : Nat → List AV → AH → Option AV → AH → Prop} {K : Nat → List AV → List AV → AH → Prop} {Rt : Option AV → AH → Prop} {pc len : Nat} {loc stk : List AV} {h : AH}
theorem st_table (hX : jX D p s m args meth c y) {d lo hi : Int} {ts : Array Int} (ht : 0 ≤ (pc : Int) + d ∧ ∀ t ∈ ts.toList, 0 ≤ (pc : Int) + t) (hd : decode (mT y).2.1 pc = .ok (.tableswitch d lo hi ts, len)) (hS : jS cl (.tableswitch ((pc : Int) + d) lo hi (ts.map (fun t => (pc : Int) + t))) pc len loc stk h K Rt) (hK : ∀ pc loc stk h, K pc loc stk h → jG D p l e R s m args below meth c Q x0 u0 pc loc stk h) : jG D p l e R s m args below meth c Q x0 u0 pc loc stk h := by
  intro H ls locs hM hL hs hl hq hx0 hu0
  obtain ⟨x1, r, rfl, hS1, hS2⟩ := s1I_e hS
  obtain ⟨hx, hs⟩ := List.forall_mem_cons.mp hs
  have hx : r32 x1 := hx
  by_cases q : x1 < lo ∨ hi < x1
  · exact lv_tableOut (tgt := ((pc : Int) + d).toNat) hX.1 hX.2.1 hd (by rw [I_to hx]; exact q) (by omega) (hK _ _ _ _ (hS1 q) H ls locs hM hL hs hl hq hx0 hu0)
  · obtain ⟨t, e1, hS⟩ := hS2 q
    rw [Array.toList_map, List.getElem?_map, Option.map_eq_some_iff] at e1
    obtain ⟨o, e1, rfl⟩ := e1
    refine lv_tableIn (tgt := ((pc : Int) + o).toNat) (off := o) hX.1 hX.2.1 hd (by rw [I_to hx]; omega) (by rw [I_to hx]; omega) (by rw [I_to hx, ← Array.getElem?_toList]; exact e1) ?_ (hK _ _ _ _ hS H ls locs hM hL hs hl hq hx0 hu0)
    have := ht.2 o (List.mem_of_getElem? e1)
    omega
theorem st_look (hX : jX D p s m args meth c y) {d : Int} {ps : Array (Int × Int)} (ht : 0 ≤ (pc : Int) + d ∧ ∀ q ∈ ps.toList, 0 ≤ (pc : Int) + q.2) (hp : (ps.toList.zip (ps.toList.drop 1)).all (fun (a, next) => a.1 < next.1) = true) (hd : decode (mT y).2.1 pc = .ok (.lookupswitch d ps, len)) (hS : jS cl (.lookupswitch ((pc : Int) + d) (ps.map (fun q => (q.1, (pc : Int) + q.2)))) pc len loc stk h K Rt) (hK : ∀ pc loc stk h, K pc loc stk h → jG D p l e R s m args below meth c Q x0 u0 pc loc stk h) : jG D p l e R s m args below meth c Q x0 u0 pc loc stk h := by
  intro H ls locs hM hL hs hl hq hx0 hu0
  obtain ⟨x1, r, rfl, hS9⟩ := s1I_e hS
  obtain ⟨hx, hs⟩ := List.forall_mem_cons.mp hs
  have hx : r32 x1 := hx
  rw [Array.toList_map, jlook_off] at hS9
  have h0 := jlook_ok pc d x1 ht.1 ps.toList ht.2
  exact lv_lookup (tgt := ((pc : Int) + Op.lookupswitch.offset ps.toList d x1).toNat) hX.1 hX.2.1 hd hp (by rw [I_to hx]) (by omega) (hK _ _ _ _ hS9 H ls locs hM hL hs hl hq hx0 hu0)
theorem st_getf (hX : jX D p s m args meth c y) {ix f0 : Nat} (he : f0 / 100 < 12) (hk : f0 % 100 < (kC (f0 / 100)).2.2) (hw : Jvm.Cond.fieldLink (oR (mT y).2.2.2.2.1) ix ((kC (f0 / 100)).2.1 (f0 % 100)).1 ((kC (f0 / 100)).2.1 (f0 % 100)).2.1 ((kC (f0 / 100)).2.1 (f0 % 100)).2.2.1 ∈ gw) (hd : decode (mT y).2.1 pc = .ok (.getfield ix, 3)) (hS : jS cl (.getfield f0) pc 3 loc stk h K Rt) (hK : ∀ pc loc stk h, K pc loc stk h → jG D p l e R s m args below meth c Q x0 u0 pc loc stk h) : jG D p l e R s m args below meth c Q x0 u0 pc loc stk h := by
  intro H ls locs hM hL hs hl hq hx0 hu0
  obtain ⟨a, r, rfl, ht, hS⟩ := s1P_e hS
  rw [tg_lt he] at ht
  replace hs := (List.forall_mem_cons.mp hs).2
  have ha : ¬ jt h a = 0 := by omega
  obtain ⟨cell, a1, a2, a3, a4, a5⟩ := (hM.1 a ha).1 (by omega)
  have e9 : jt h a - 1 = f0 / 100 := by omega
  rw [e9] at a2 a5
  obtain ⟨hSl, hfc, kc, hkc, hkind⟩ := hX.2.2.2.2.2.1.1 (f0 / 100) _ (kC_get he)
  obtain ⟨cf, kf, fi, f, hi, hsl⟩ := hSl _ hk
  rw [List.map_cons, hM.ref ha]
  refine W.getf hX.1 hX.2.1 hX.2.2.2.1 (hX.2.2.2.2.1 _ hw) hi (u_facts hfc hkc (u_lays hX.2.2.2.2.1 (kC_in he) hk) hi).1 a1 (by rw [a3]; exact fun q => by cases q) (v := jV D (jfl (kTy (f0 / 100) (f0 % 100)) h a (f0 % 100))) (by rw [hsl]; exact a5 _ hk) rfl rfl hd ?_
  exact hK _ _ _ _ hS H ls locs hM hL (List.forall_mem_cons.mpr ⟨vok_fl hM _ _ _, hs⟩) hl hq hx0 hu0
theorem st_getS0 (hX : jX D p s m args meth c y) {ix : Nat} (hw : Jvm.Cond.fieldLink (oR (mT y).2.2.2.2.1) ix "java/lang/String" "value" "[B" ∈ gw) (hd : decode (mT y).2.1 pc = .ok (.getfield ix, 3)) (hS : jS cl (.getfield 1200) pc 3 loc stk h K Rt) (hK : ∀ pc loc stk h, K pc loc stk h → jG D p l e R s m args below meth c Q x0 u0 pc loc stk h) : jG D p l e R s m args below meth c Q x0 u0 pc loc stk h := by
  intro H ls locs hM hL hs hl hq hx0 hu0
  obtain ⟨a, r, rfl, ht, hS⟩ := s1P_e hS
  have ht : jt h a = 60 := ht
  replace hs := (List.forall_mem_cons.mp hs).2
  have ha : ¬ jt h a = 0 := by omega
  obtain ⟨-, ⟨cf, kf, fi, f, cell, h1, h2, h3, h4, h5, h6⟩, -⟩ := (hM.1 a ha).2.2 (by omega)
  rw [List.map_cons, hM.ref ha]
  exact W.getf hX.1 hX.2.1 hX.2.2.2.1 (hX.2.2.2.2.1 _ hw) h1 h2 h3 h4 h5 rfl rfl hd (hK _ _ _ _ hS H ls locs hM hL (List.forall_mem_cons.mpr ⟨vok_fl hM _ _ _, hs⟩) hl hq hx0 hu0)
theorem st_getS1 (hX : jX D p s m args meth c y) {ix : Nat} (hw : Jvm.Cond.fieldLink (oR (mT y).2.2.2.2.1) ix "java/lang/String" "coder" "B" ∈ gw) (hd : decode (mT y).2.1 pc = .ok (.getfield ix, 3)) (hS : jS cl (.getfield 1201) pc 3 loc stk h K Rt) (hK : ∀ pc loc stk h, K pc loc stk h → jG D p l e R s m args below meth c Q x0 u0 pc loc stk h) : jG D p l e R s m args below meth c Q x0 u0 pc loc stk h := by
  intro H ls locs hM hL hs hl hq hx0 hu0
  obtain ⟨a, r, rfl, ht, hS⟩ := s1P_e hS
  have ht : jt h a = 60 := ht
  replace hs := (List.forall_mem_cons.mp hs).2
  have ha : ¬ jt h a = 0 := by omega
  obtain ⟨-, -, ⟨cf, kf, fi, f, cell, h1, h2, h3, h4, h5, h6⟩⟩ := (hM.1 a ha).2.2 (by omega)
  rw [List.map_cons, hM.ref ha]
  exact W.getf hX.1 hX.2.1 hX.2.2.2.1 (hX.2.2.2.2.1 _ hw) h1 h2 h3 h4 h5 rfl rfl hd (hK _ _ _ _ hS H ls locs hM hL (List.forall_mem_cons.mpr ⟨vok_fl hM _ _ _, hs⟩) hl hq hx0 hu0)
theorem st_putf (hX : jX D p s m args meth c y) {ix f0 : Nat} (he : f0 / 100 < 12) (hk : f0 % 100 < (kC (f0 / 100)).2.2) (hw : Jvm.Cond.fieldLink (oR (mT y).2.2.2.2.1) ix ((kC (f0 / 100)).2.1 (f0 % 100)).1 ((kC (f0 / 100)).2.1 (f0 % 100)).2.1 ((kC (f0 / 100)).2.1 (f0 % 100)).2.2.1 ∈ gw) (hfin : ((kC (f0 / 100)).2.1 (f0 % 100)).2.2.2 = true → (mT y).2.2.2.2.2.2 = 2 ∧ ((kC (f0 / 100)).2.1 (f0 % 100)).1 = oR (mT y).2.2.2.2.1) (hd : decode (mT y).2.1 pc = .ok (.putfield ix, 3)) (hS : jS cl (.putfield f0) pc 3 loc stk h K Rt) (hK : ∀ pc loc stk h, K pc loc stk h → jG D p l e R s m args below meth c Q x0 u0 pc loc stk h) : jG D p l e R s m args below meth c Q x0 u0 pc loc stk h := by
  intro H ls locs hM hL hs hl hq hx0 hu0
  have hS : jpf (kTy (f0 / 100) (f0 % 100)) stk h (f0 % 100) (fun a r h' => jt h a = tg (f0 / 100) ∧ f0 / 100 < 12 ∧ K (pc + 3) loc r h') := hS
  obtain ⟨v, a, r, h', rfl, ⟨ht, -, hS⟩, ho, hv, hn⟩ := jpf_e hS
  rw [tg_lt he] at ht
  obtain ⟨hvk, hs⟩ := List.forall_mem_cons.mp hs
  replace hs := (List.forall_mem_cons.mp hs).2
  have o := ho D s H hM hvk
  obtain ⟨hn, hf⟩ := hn D hM.fv
  have ha : ¬ jt h a = 0 := by omega
  obtain ⟨n1, n2⟩ := hM.new ha (by omega)
  obtain ⟨cell, a1, a2, a3, a4, a5⟩ := (hM.1 a ha).1 (by omega)
  have e9 : jt h a - 1 = f0 / 100 := by omega
  rw [e9] at a2 a5
  obtain ⟨hSl, hfc, kc, hkc, hkind⟩ := hX.2.2.2.2.2.1.1 (f0 / 100) _ (kC_get he)
  have hap := va_apart (D := (D.2.2.1, D.2.2.2.1)) (own := "") hX.2.2.2.2.1 (kC_in he) (kTy (f0 / 100)) (kC_ty he) (kC_nm he) hX.2.2.2.2.2.1 (kC_get he)
  obtain ⟨cf, kf, fi, f, hi, hsl⟩ := hSl _ hk
  have hst := (u_facts hfc hkc (u_lays hX.2.2.2.2.1 (kC_in he) hk) hi).1
  have hlay := hX.2.2.2.2.1 _ (kC_in he _ (u_in_lay hk))
  unfold u_lay at hlay
  have fin : ∀ H' : Heap, H'[jA D a]? = some (cell.setSlot f.slot (jV D v)) → H'.size = H.size → (∀ q, q ≠ jA D a → H'[q]? = H[q]?) → W p l e R s m args below meth c H' (locs ++ [⟨jA D a, f.slot⟩]) (jx h - x0) (ju h - u0) Q (F0 m (pc + 3) ls (r.map (jV D))) := fun H' e1 e2 e3 => by
    rw [hsl] at e1
    have hM' := hM.putf he ht hk hap o (hv D) a1 e1 e2 e3
    have g := hK _ _ _ _ hS H' ls (locs ++ [⟨jA D a, f.slot⟩]) hM' hL hs hl (fun q hq2 => by
      rcases List.mem_append.mp hq2 with q1 | q1
      · exact hq q q1
      · rw [List.mem_singleton] at q1
        subst q1
        show D.2.2.2.2 ≤ jA D a
        rw [jA_new n1]; omega) (by rw [o.2.1]; exact hx0) (by rw [o.2.2.1]; exact hu0)
    rw [o.2.1, o.2.2.1] at g
    exact g
  rw [List.map_cons, List.map_cons, hM.ref ha]
  cases hfc0 : ((kC (f0 / 100)).2.1 (f0 % 100)).2.2.2 with
  | false =>
    rw [if_neg (by rw [hfc0]; decide)] at hlay
    have h6 := u_store hfc hkc hkind hlay hi (kC_ty he _ hk) hn hf
    exact W.putK hX.1 hX.2.1 (f := f) ⟨hX.2.2.2.1, hX.2.2.2.2.1 _ hw, ⟨_, _, _, hi⟩, hst⟩ (by rw [a2]; exact h6) a1 a3 (by rw [hsl]; exact k2_hasslot (a5 _ hk)) rfl rfl hd fin
  | true =>
    rw [if_pos hfc0] at hlay
    obtain ⟨k2, hdecl⟩ := hfin hfc0
    have hcf : m.cls = cf := by
      obtain ⟨_, _, c', _, _, _, -, -, hf', -, -, -, hown2, -⟩ := Cond.laysFinal_spec hlay
      have e1 : c' = cf := by have := hi.symm.trans hf'; simp at this; exact this.1.symm
      rw [hdecl] at hown2
      rw [← e1]; exact Option.some.inj (hX.2.2.2.1.symm.trans hown2)
    have h6 := u_fits hfc hkc hkind (Or.inr hlay) hi (kC_ty he _ hk) hn hf
    exact W.putFinK hX.1 hX.2.1 hX.2.2.2.1 (hX.2.2.2.2.1 _ hw) hi hst hcf (hX.2.2.2.2.2.2.2.2.1 k2) (by rw [a2]; exact h6) a1 a3 (by rw [hsl]; exact k2_hasslot (a5 _ hk)) rfl rfl hd fin
end ST2
end
section
/-! ONE STEP: statics, arrays, new cells -/
theorem jM.arr {D : jD} {U : State} {H : Heap} {h : AH} (hM : jM D U H h) {a n : Nat} {i : Int} (hi : inA h a n i) (hn : n < 20) (hr : r32 i) : ∃ cell : Cell, H[jA D a]? = some cell ∧ U.isArrayOf cell (aTy n) ∧ cell.vm ≠ .unknown ∧ ¬ (Int32.ofInt i < 0 ∨ cell.slots.size ≤ (Int32.ofInt i).toNatClampNeg) ∧
    (Int32.ofInt i).toNatClampNeg = i.toNat ∧ cell.slots[i.toNat]? = some (jV D (jfl (aTy n) h a i.toNat)) ∧ ¬ jt h a = 0 ∧ i.toNat < jn h a ∧ (jt h a = 25 → va_RA U cell.cls (.object "ProblemTexts$Part")) := by
  obtain ⟨ht, i0, i1⟩ := hi
  have ha : ¬ jt h a = 0 := by omega
  obtain ⟨cell, a1, a2, a3, a4, a5, a6, a7⟩ := (hM.1 a ha).2.1 (by omega) (by omega)
  have e9 : jt h a % 20 = n := by omega
  rw [e9] at a2 a6
  exact ⟨cell, a1, a2, a3, I_in hr i0 (by have := a4.1; omega), I_clamp hr i0, a6 _ (by omega), ha, by omega, a7⟩
theorem inW.A {h : AH} {a n : Nat} {i : Int} (hi : inW h a n i) : inA h a n i := ⟨Or.inl hi.1, hi.2⟩
theorem nar_byte {x : Int} (h : -128 ≤ x ∧ x ≤ 127) : narrow .byte (.int (Int32.ofInt x)) = .int (Int32.ofInt x) := by
  show Value.int ((Int32.ofInt x).toInt8.toInt32) = _
  congr 1
  rw [← Int32.toInt_inj, Int8.toInt_toInt32, Int32.toInt_toInt8, I_to (by unfold r32; omega), Int.bmod_def]
  split <;> omega
theorem kC_inst {ci : Nat} (h : ci < 12) : Cond.instantiable (kC ci).1 (kC ci).2.2 ∈ gw ∧ Cond.initialized (kC ci).1 ∈ gw := by
  rcases (show ci = 0 ∨ ci = 1 ∨ ci = 2 ∨ ci = 3 ∨ ci = 4 ∨ ci = 5 ∨ ci = 6 ∨ ci = 7 ∨ ci = 8 ∨ ci = 9 ∨ ci = 10 ∨ ci = 11 by omega) with rfl | rfl | rfl | rfl | rfl | rfl | rfl | rfl | rfl | rfl | rfl | rfl <;> exact ⟨gw_of (by decide +kernel) rfl, gw_of (by decide +kernel) rfl⟩
theorem aTy_aT {t : Jvm.ClassFile.ArrayType} (h : aT t < 4) : aTy (aT t) = newarray.typeOf t ∧ newarray.typeOf t ≠ .float ∧ newarray.typeOf t ≠ .double := by
  cases t <;> first
    | exact ⟨rfl, by decide, by decide⟩
    | exact absurd h (by decide)
theorem aT_bytes {t : Jvm.ClassFile.ArrayType} (h : aT t < 4) : componentBytes (newarray.typeOf t) ≤ 8 := by
  cases t <;> first
    | decide
    | exact absurd h (by decide)
theorem arr_word {t : Jvm.ClassFile.ArrayType} (h : aT t < 4) : Cond.arrayClass (newarray.typeOf t) ∈ gw := by
  cases t <;> first
    | exact gw_of (by decide +kernel) rfl
    | exact absurd h (by decide)
section ST3
variable {D : jD} {p : Program} {l : Launch} {e : Env} {R : Room} {s : State} {m : MethodId} {args : Array Value} {below : List Frame} {meth : Method} {c : Code} {Q : State → Prop} {x0 u0 y : Nat}
variable {cl : Nat → List AV → AH → Option AV → AH → Prop} {K : Nat → List AV → List AV → AH → Prop} {Rt : Option AV → AH → Prop} {pc len : Nat} {loc stk : List AV} {h : AH}
theorem st_gs0 (hX : jX D p s m args meth c y) {ix : Nat} (hw : Cond.fieldLink (oR (mT y).2.2.2.2.1) ix "java/lang/String" "COMPACT_STRINGS" "Z" ∈ gw) (hd : decode (mT y).2.1 pc = .ok (.getstatic ix, 3)) (hS : jS cl (.sipush 1) pc 3 loc stk h K Rt) (hK : ∀ pc loc stk h, K pc loc stk h → jG D p l e R s m args below meth c Q x0 u0 pc loc stk h) : jG D p l e R s m args below meth c Q x0 u0 pc loc stk h := by
  intro H ls locs hM hL hs hl hq hx0 hu0
  obtain ⟨cf, kf, fi, f, a, cell, h1, h2, h3, h4, h5, h6, h7, h8⟩ := hM.2.2.2.2.1.2.1
  exact W.gets hX.1 hX.2.1 hX.2.2.2.1 (hX.2.2.2.2.1 _ hw) h1 h2 h3 h4 h5 (fun e => by rw [e] at h6; cases h6) h7 rfl hd (hK _ _ _ _ hS.2 H ls locs hM hL (List.forall_mem_cons.mpr ⟨hS.1, hs⟩) hl hq hx0 hu0)
theorem st_gs1 (hX : jX D p s m args meth c y) {ix : Nat} (hw : Cond.fieldLink (oR (mT y).2.2.2.2.1) ix "jdk/internal/util/Preconditions" "SIOOBE_FORMATTER" "Ljava/util/function/BiFunction;" ∈ gw) (hd : decode (mT y).2.1 pc = .ok (.getstatic ix, 3)) (hS : jS cl (.jsr 1) pc 3 loc stk h K Rt) (hK : ∀ pc loc stk h, K pc loc stk h → jG D p l e R s m args below meth c Q x0 u0 pc loc stk h) : jG D p l e R s m args below meth c Q x0 u0 pc loc stk h := by
  intro H ls locs hM hL hs hl hq hx0 hu0
  obtain ⟨cf, kf, fi, f, a, cell, h1, h2, h3, h4, h5, h6, h7, h8⟩ := hM.2.2.2.2.1.2.2
  exact W.gets hX.1 hX.2.1 hX.2.2.2.1 (hX.2.2.2.2.1 _ hw) h1 h2 h3 h4 h5 (fun e => by rw [e] at h6; cases h6) h7 rfl hd (hK _ _ _ _ hS H ls locs hM hL (List.forall_mem_cons.mpr ⟨trivial, hs⟩) hl hq hx0 hu0)
theorem st_gs2 (hX : jX D p s m args meth c y) (ho : (oR (mT y).2.2.2.2.1) = RX9) (hd : decode (mT y).2.1 pc = .ok (.getstatic 66, 3)) (hS : jS cl (.jsr 3) pc 3 loc stk h K Rt) (hK : ∀ pc loc stk h, K pc loc stk h → jG D p l e R s m args below meth c Q x0 u0 pc loc stk h) : jG D p l e R s m args below meth c Q x0 u0 pc loc stk h := by
  intro H ls locs hM hL hs hl hq hx0 hu0
  obtain ⟨cf, kf, fi, f, a, cell, h1, h2, h3, h4, h5, h6, h7, h8⟩ := hM.2.2.2.2.1.1
  exact va_WgetsN hX.1 hX.2.1 hX.2.2.2.1 (va_Nw.use rfl (by rw [ho]; exact hX.2.2.2.2.2.2.2.2.2.2.2.2.1)) h1 h2 h3 h4 h5 (fun e => by rw [e] at h6; cases h6) h7 rfl hd (hK _ _ _ _ hS H ls locs hM hL (List.forall_mem_cons.mpr ⟨trivial, hs⟩) hl hq hx0 hu0)
theorem st_iaload (hX : jX D p s m args meth c y)  (hd : decode (mT y).2.1 pc = .ok (.iaload, 1)) (hS : jS cl (.iaload) pc 1 loc stk h K Rt) (hK : ∀ pc loc stk h, K pc loc stk h → jG D p l e R s m args below meth c Q x0 u0 pc loc stk h) : jG D p l e R s m args below meth c Q x0 u0 pc loc stk h := by
  intro H ls locs hM hL hs hl hq hx0 hu0
  obtain ⟨i, r, rfl, hS⟩ := s1I_e hS
  obtain ⟨a, r, rfl, hA, hS⟩ := s1P_e hS
  obtain ⟨hi, hs⟩ := List.forall_mem_cons.mp hs
  replace hs := (List.forall_mem_cons.mp hs).2
  obtain ⟨cell, c1, c2, c3, c4, c5, c6, ha, -⟩ := hM.arr hA (by omega) hi
  rw [List.map_cons, List.map_cons, hM.ref ha]
  exact W.iald hX.1 hX.2.1 c1 c2 c3 c4 (by rw [c5]; exact c6) rfl rfl hd (hK _ _ _ _ hS H ls locs hM hL (List.forall_mem_cons.mpr ⟨(hM.2.2.2.1 _ _).1, hs⟩) hl hq hx0 hu0)
theorem st_laload (hX : jX D p s m args meth c y)  (hd : decode (mT y).2.1 pc = .ok (.laload, 1)) (hS : jS cl (.laload) pc 1 loc stk h K Rt) (hK : ∀ pc loc stk h, K pc loc stk h → jG D p l e R s m args below meth c Q x0 u0 pc loc stk h) : jG D p l e R s m args below meth c Q x0 u0 pc loc stk h := by
  intro H ls locs hM hL hs hl hq hx0 hu0
  obtain ⟨i, r, rfl, hS⟩ := s1I_e hS
  obtain ⟨a, r, rfl, hA, hS⟩ := s1P_e hS
  obtain ⟨hi, hs⟩ := List.forall_mem_cons.mp hs
  replace hs := (List.forall_mem_cons.mp hs).2
  obtain ⟨cell, c1, c2, c3, c4, c5, c6, ha, -⟩ := hM.arr hA (by omega) hi
  rw [List.map_cons, List.map_cons, hM.ref ha]
  exact W.lald hX.1 hX.2.1 c1 c2 c3 c4 (by rw [c5]; exact c6) rfl rfl hd (hK _ _ _ _ hS H ls locs hM hL (List.forall_mem_cons.mpr ⟨(hM.2.2.2.1 _ _).2, hs⟩) hl hq hx0 hu0)
theorem st_baload (hX : jX D p s m args meth c y)  (hd : decode (mT y).2.1 pc = .ok (.baload, 1)) (hS : jS cl (.baload) pc 1 loc stk h K Rt) (hK : ∀ pc loc stk h, K pc loc stk h → jG D p l e R s m args below meth c Q x0 u0 pc loc stk h) : jG D p l e R s m args below meth c Q x0 u0 pc loc stk h := by
  intro H ls locs hM hL hs hl hq hx0 hu0
  obtain ⟨i, r, rfl, hS⟩ := s1I_e hS
  obtain ⟨a, r, rfl, hA, hS⟩ := s1P_e hS
  obtain ⟨hi, hs⟩ := List.forall_mem_cons.mp hs
  replace hs := (List.forall_mem_cons.mp hs).2
  have g := hK _ _ _ _ hS H ls locs hM hL (List.forall_mem_cons.mpr ⟨(hM.2.2.2.1 _ _).1, hs⟩) hl hq hx0 hu0
  rcases hA with hA | hA
  · obtain ⟨cell, c1, c2, c3, c4, c5, c6, ha, -⟩ := hM.arr hA (by omega) hi
    rw [List.map_cons, List.map_cons, hM.ref ha]
    exact W.bald hX.1 hX.2.1 c1 c2 c3 c4 (by rw [c5]; exact c6) rfl rfl hd g
  · obtain ⟨cell, c1, c2, c3, c4, c5, c6, ha, -⟩ := hM.arr hA (by omega) hi
    rw [List.map_cons, List.map_cons, hM.ref ha]
    exact W.zald hX.1 hX.2.1 c1 c2 c3 c4 (by rw [c5]; exact c6) rfl rfl hd g
theorem st_aaload (hX : jX D p s m args meth c y)  (hd : decode (mT y).2.1 pc = .ok (.aaload, 1)) (hS : jS cl (.aaload) pc 1 loc stk h K Rt) (hK : ∀ pc loc stk h, K pc loc stk h → jG D p l e R s m args below meth c Q x0 u0 pc loc stk h) : jG D p l e R s m args below meth c Q x0 u0 pc loc stk h := by
  intro H ls locs hM hL hs hl hq hx0 hu0
  obtain ⟨i, r, rfl, hS⟩ := s1I_e hS
  obtain ⟨a, r, rfl, hA, hS⟩ := s1P_e hS
  obtain ⟨hi, hs⟩ := List.forall_mem_cons.mp hs
  replace hs := (List.forall_mem_cons.mp hs).2
  have g := hK _ _ _ _ hS H ls locs hM hL (List.forall_mem_cons.mpr ⟨trivial, hs⟩) hl hq hx0 hu0
  rcases hA with hA | hA
  · obtain ⟨cell, c1, c2, c3, c4, c5, c6, ha, -⟩ := hM.arr hA (by omega) hi
    rw [List.map_cons, List.map_cons, hM.ref ha]
    exact W.aald hX.1 hX.2.1 c1 c2 rfl c3 c4 (by rw [c5]; exact c6) rfl rfl hd g
  · obtain ⟨cell, c1, c2, c3, c4, c5, c6, ha, -⟩ := hM.arr hA (by omega) hi
    rw [List.map_cons, List.map_cons, hM.ref ha]
    exact W.aald hX.1 hX.2.1 c1 c2 rfl c3 c4 (by rw [c5]; exact c6) rfl rfl hd g
theorem st_alen (hX : jX D p s m args meth c y)  (hd : decode (mT y).2.1 pc = .ok (.arraylength, 1)) (hS : jS cl (.arraylength) pc 1 loc stk h K Rt) (hK : ∀ pc loc stk h, K pc loc stk h → jG D p l e R s m args below meth c Q x0 u0 pc loc stk h) : jG D p l e R s m args below meth c Q x0 u0 pc loc stk h := by
  intro H ls locs hM hL hs hl hq hx0 hu0
  obtain ⟨a, r, rfl, t1, t2, hS⟩ := s1P_e hS
  replace hs := (List.forall_mem_cons.mp hs).2
  have ha : ¬ jt h a = 0 := by omega
  obtain ⟨cell, a1, a2, a3, a4, a5, -⟩ := (hM.1 a ha).2.1 t1 t2
  rw [List.map_cons, hM.ref ha]
  refine W.alen (n := Int32.ofInt (jn h a : Int)) hX.1 hX.2.1 a1 a2 (by rw [Int32.ofInt_eq_ofNat]; exact a4.2) rfl rfl hd ?_
  exact hK _ _ _ _ hS H ls locs hM hL (List.forall_mem_cons.mpr ⟨(by show r32 (jn h a : Int); unfold r32; omega), hs⟩) hl hq hx0 hu0
theorem st_iastore (hX : jX D p s m args meth c y)  (hd : decode (mT y).2.1 pc = .ok (.iastore, 1)) (hS : jS cl (.iastore) pc 1 loc stk h K Rt) (hK : ∀ pc loc stk h, K pc loc stk h → jG D p l e R s m args below meth c Q x0 u0 pc loc stk h) : jG D p l e R s m args below meth c Q x0 u0 pc loc stk h := by
  intro H ls locs hM hL hs hl hq hx0 hu0
  obtain ⟨x, r, rfl, hS⟩ := s1I_e hS
  obtain ⟨i, r, rfl, hS⟩ := s1I_e hS
  obtain ⟨a, r, rfl, hA, hS⟩ := s1P_e hS
  obtain ⟨hx, hs⟩ := List.forall_mem_cons.mp hs
  obtain ⟨hi, hs⟩ := List.forall_mem_cons.mp hs
  replace hs := (List.forall_mem_cons.mp hs).2
  obtain ⟨cell, c1, c2, c3, c4, c5, c6, ha, c8, -⟩ := hM.arr hA.A (by omega) hi
  rw [List.map_cons, List.map_cons, List.map_cons, hM.ref ha]
  refine W.iast hX.1 hX.2.1 c1 c2 c3 c4 rfl rfl hd fun H2 e1 e2 e3 => ?_
  rw [c5] at e1 ⊢
  have hM2 := hM.puta (n := 0) (by omega) hA.1 c8 (one_wi hM a i.toNat hx) (by simp [aTy, jfl, ji_wi, jV]) c1 e1 e2 e3
  exact hK _ _ _ _ hS H2 ls _ hM2 hL hs hl (fun q hq2 => by
      rcases List.mem_append.mp hq2 with q1 | q1
      · exact hq q q1
      · rw [List.mem_singleton] at q1
        subst q1
        show D.2.2.2.2 ≤ jA D a
        rw [jA_new (hM.new ha (by have := hA.1; omega)).1]; omega) hx0 hu0
theorem st_lastore (hX : jX D p s m args meth c y)  (hd : decode (mT y).2.1 pc = .ok (.lastore, 1)) (hS : jS cl (.lastore) pc 1 loc stk h K Rt) (hK : ∀ pc loc stk h, K pc loc stk h → jG D p l e R s m args below meth c Q x0 u0 pc loc stk h) : jG D p l e R s m args below meth c Q x0 u0 pc loc stk h := by
  intro H ls locs hM hL hs hl hq hx0 hu0
  obtain ⟨x, r, rfl, hS⟩ := s1L_e hS
  obtain ⟨i, r, rfl, hS⟩ := s1I_e hS
  obtain ⟨a, r, rfl, hA, hS⟩ := s1P_e hS
  obtain ⟨hx, hs⟩ := List.forall_mem_cons.mp hs
  obtain ⟨hi, hs⟩ := List.forall_mem_cons.mp hs
  replace hs := (List.forall_mem_cons.mp hs).2
  obtain ⟨cell, c1, c2, c3, c4, c5, c6, ha, c8, -⟩ := hM.arr hA.A (by omega) hi
  rw [List.map_cons, List.map_cons, List.map_cons, hM.ref ha]
  refine W.last hX.1 hX.2.1 c1 c2 c3 c4 rfl rfl hd fun H2 e1 e2 e3 => ?_
  rw [c5] at e1 ⊢
  have hM2 := hM.puta (n := 1) (by omega) hA.1 c8 (one_wl hM a i.toNat hx) (by simp [aTy, jfl, jl_wl, jV]) c1 e1 e2 e3
  exact hK _ _ _ _ hS H2 ls _ hM2 hL hs hl (fun q hq2 => by
      rcases List.mem_append.mp hq2 with q1 | q1
      · exact hq q q1
      · rw [List.mem_singleton] at q1
        subst q1
        show D.2.2.2.2 ≤ jA D a
        rw [jA_new (hM.new ha (by have := hA.1; omega)).1]; omega) hx0 hu0
theorem st_bastore (hX : jX D p s m args meth c y)  (hd : decode (mT y).2.1 pc = .ok (.bastore, 1)) (hS : jS cl (.bastore) pc 1 loc stk h K Rt) (hK : ∀ pc loc stk h, K pc loc stk h → jG D p l e R s m args below meth c Q x0 u0 pc loc stk h) : jG D p l e R s m args below meth c Q x0 u0 pc loc stk h := by
  intro H ls locs hM hL hs hl hq hx0 hu0
  obtain ⟨x, r, rfl, hS⟩ := s1I_e hS
  obtain ⟨i, r, rfl, hS⟩ := s1I_e hS
  obtain ⟨a, r, rfl, hA, hS⟩ := s1P_e hS
  obtain ⟨hx, hs⟩ := List.forall_mem_cons.mp hs
  obtain ⟨hi, hs⟩ := List.forall_mem_cons.mp hs
  replace hs := (List.forall_mem_cons.mp hs).2
  rcases hA with ⟨hA, hb⟩ | ⟨hA, hb⟩
  · obtain ⟨cell, c1, c2, c3, c4, c5, c6, ha, c8, -⟩ := hM.arr hA.A (by omega) hi
    rw [List.map_cons, List.map_cons, List.map_cons, hM.ref ha]
    refine W.bast hX.1 hX.2.1 c1 c2 c3 c4 rfl rfl hd fun H2 e1 e2 e3 => ?_
    rw [nar_byte hb] at e1
    rw [c5] at e1 ⊢
    have hM2 := hM.puta (n := 2) (by omega) hA.1 c8 (one_wi hM a i.toNat hx) (by simp [aTy, jfl, ji_wi, jV]) c1 e1 e2 e3
    exact hK _ _ _ _ hS H2 ls _ hM2 hL hs hl (fun q hq2 => by
        rcases List.mem_append.mp hq2 with q1 | q1
        · exact hq q q1
        · rw [List.mem_singleton] at q1
          subst q1
          show D.2.2.2.2 ≤ jA D a
          rw [jA_new (hM.new ha (by have := hA.1; omega)).1]; omega) hx0 hu0
  · obtain ⟨cell, c1, c2, c3, c4, c5, c6, ha, c8, -⟩ := hM.arr hA.A (by omega) hi
    rw [List.map_cons, List.map_cons, List.map_cons, hM.ref ha]
    refine W.zast hX.1 hX.2.1 c1 c2 c3 c4 rfl rfl hd fun H2 e1 e2 e3 => ?_
    rw [show narrow .boolean (.int (Int32.ofInt x)) = .int (Int32.ofInt x) by rcases hb with rfl | rfl <;> rfl] at e1
    rw [c5] at e1 ⊢
    have hM2 := hM.puta (n := 3) (by omega) hA.1 c8 (one_wi hM a i.toNat hx) (by simp [aTy, jfl, ji_wi, jV]) c1 e1 e2 e3
    exact hK _ _ _ _ hS H2 ls _ hM2 hL hs hl (fun q hq2 => by
        rcases List.mem_append.mp hq2 with q1 | q1
        · exact hq q q1
        · rw [List.mem_singleton] at q1
          subst q1
          show D.2.2.2.2 ≤ jA D a
          rw [jA_new (hM.new ha (by have := hA.1; omega)).1]; omega) hx0 hu0
theorem st_aastore (hX : jX D p s m args meth c y)  (hd : decode (mT y).2.1 pc = .ok (.aastore, 1)) (hS : jS cl (.aastore) pc 1 loc stk h K Rt) (hK : ∀ pc loc stk h, K pc loc stk h → jG D p l e R s m args below meth c Q x0 u0 pc loc stk h) : jG D p l e R s m args below meth c Q x0 u0 pc loc stk h := by
  intro H ls locs hM hL hs hl hq hx0 hu0
  obtain ⟨b, r, rfl, hS⟩ := s1P_e hS
  obtain ⟨i, r, rfl, hS⟩ := s1I_e hS
  obtain ⟨a, r, rfl, hA, hb, hS⟩ := s1P_e hS
  replace hs := (List.forall_mem_cons.mp hs).2
  obtain ⟨hi, hs⟩ := List.forall_mem_cons.mp hs
  replace hs := (List.forall_mem_cons.mp hs).2
  obtain ⟨cell, c1, c2, c3, c4, c5, c6, ha, c8, c9⟩ := hM.arr hA.A (by omega) hi
  rw [List.map_cons, List.map_cons, List.map_cons, hM.ref ha]
  have hval : jV D (jP b) = jV D (jfl (aTy 5) (wr h a i.toNat b) a i.toNat) := by simp [aTy, jfl, jr_wr]
  have fin : ∀ H2 : Heap, H2[jA D a]? = some (cell.setSlot (Int32.ofInt i).toNatClampNeg (jV D (jP b))) → H2.size = H.size → (∀ q, q ≠ jA D a → H2[q]? = H[q]?) → W p l e R s m args below meth c H2 (locs ++ [⟨jA D a, (Int32.ofInt i).toNatClampNeg⟩]) (jx h - x0) (ju h - u0) Q (F0 m (pc + 1) ls (r.map (jV D))) := fun H2 e1 e2 e3 => by
    rw [c5] at e1 ⊢
    have hM2 := hM.puta (n := 5) (by omega) hA.1 c8 (one_wr hM a i.toNat b) hval c1 e1 e2 e3
    exact hK _ _ _ _ hS H2 ls _ hM2 hL hs hl (fun q hq2 => by
        rcases List.mem_append.mp hq2 with q1 | q1
        · exact hq q q1
        · rw [List.mem_singleton] at q1
          subst q1
          show D.2.2.2.2 ≤ jA D a
          rw [jA_new (hM.new ha (by have := hA.1; omega)).1]; omega) hx0 hu0
  rcases hb with rfl | hb
  · exact va_WaastN (C := "ProblemTexts$Part") hX.1 hX.2.1 c1 c2 c3 c4 rfl rfl hd fin
  · have hbn : ¬ jt h b = 0 := by omega
    obtain ⟨kA, comp, r1, r2, r3, r4⟩ := c9 hA.1
    obtain ⟨cv, b1, b2, b3, b4, b5⟩ := (hM.1 b hbn).1 (by omega)
    have hP := hX.2.2.2.2.2.1.1 5 _ (kC_get (by omega))
    obtain ⟨-, hfc, kc, hkc, hkind⟩ := hP
    have e6 : jt h b - 1 = 5 := by omega
    rw [e6] at b2
    have hcc : comp = cv.cls := by rw [b2]; exact Option.some.inj (r3.symm.trans hfc)
    rw [hM.ref hbn] at fin ⊢
    obtain ⟨kcomp, hkcomp, -⟩ := Vm.findClass_spec r3
    refine W.aast hX.1 hX.2.1 c1 c2.1 c3 r1 r2 rfl hkcomp ⟨fun q => c4 (Or.inl q), Nat.not_le.mp fun q => c4 (Or.inr q)⟩ b1 (by rw [b3]; exact fun q z => by cases z) (kv := kc) (by rw [b2]; exact hkc) (by rw [hcc]; exact va_asg _ _) rfl rfl hd fin
theorem st_new (hX : jX D p s m args meth c y) {ix ci : Nat} (hw : Cond.classLink (oR (mT y).2.2.2.2.1) ix (kC ci).1 ∈ gw) (hKm : ∀ pc loc stk h, K pc loc stk h → jx h - x0 ≤ R.cells ∧ ju h - u0 ≤ R.slots) (hd : decode (mT y).2.1 pc = .ok (.new ix, 3)) (hS : jS cl (.new ci) pc 3 loc stk h K Rt) (hK : ∀ pc loc stk h, K pc loc stk h → jG D p l e R s m args below meth c Q x0 u0 pc loc stk h) : jG D p l e R s m args below meth c Q x0 u0 pc loc stk h := by
  intro H ls locs hM hL hs hl hq hx0 hu0
  obtain ⟨hci, hS⟩ := hS
  obtain ⟨rc, rs⟩ := hKm _ _ _ _ hS
  rw [jx_nw] at rc
  rw [ju_nw] at rs
  have hKn := hX.2.2.2.2.2.1.1 ci _ (kC_get hci)
  refine W.newcK hX.1 hX.2.1 hX.2.2.2.1 (hX.2.2.2.2.1 _ hw) (hX.2.2.2.2.1 _ (kC_inst hci).1) (hX.2.2.2.2.1 _ (kC_inst hci).2) rfl hd (by omega) (by omega) hKn.2.1 rfl fun H2 kc hkc e1 z1 o1 => ?_
  obtain ⟨cell, b1, b2, b3, b4⟩ := u_born (kTy ci) hX.2.2.2.2.1 (kC_in hci) hKn hkc e1 (kC_ty hci)
  have hc : jC D s H2 (nw h (ci + 1) (kC ci).2.2) (jx h) := by
    have e0 : jt (nw h (ci + 1) (kC ci).2.2) (jx h) = ci + 1 := by rw [jt_nw, if_pos rfl]
    refine ⟨fun _ => ?_, fun t => by omega, fun t => by omega⟩
    rw [e0, hM.next, Nat.add_sub_cancel]
    exact ⟨cell, b1, b2, b3, hci, fun k hk => by rw [b4 k hk, jfl_0 h _ _ k (kC_nf hci k hk).1 (kC_nf hci k hk).2]⟩
  have hM2 := hM.cell (by omega) hc z1 o1
  have g := hK _ _ _ _ hS H2 ls locs hM2 hL (List.forall_mem_cons.mpr ⟨trivial, hs⟩) hl hq (by rw [jx_nw]; omega) (by rw [ju_nw]; omega)
  rw [List.map_cons, show jV D (jP (jx h)) = .ref H.size by rw [← hM.next]; exact jVp_2 (by have := hM.2.1.2; omega), jx_nw, ju_nw] at g
  rw [show jx h + 1 - x0 = jx h - x0 + 1 by omega, show ju h + (kC ci).2.2 - u0 = ju h - u0 + (kC ci).2.2 by omega] at g
  exact g
theorem st_newa (hX : jX D p s m args meth c y) {t : Jvm.ClassFile.ArrayType} (hKm : ∀ pc loc stk h, K pc loc stk h → jx h - x0 ≤ R.cells ∧ ju h - u0 ≤ R.slots) (hd : decode (mT y).2.1 pc = .ok (.newarray t, 2)) (hS : jS cl (.newarray t) pc 2 loc stk h K Rt) (hK : ∀ pc loc stk h, K pc loc stk h → jG D p l e R s m args below meth c Q x0 u0 pc loc stk h) : jG D p l e R s m args below meth c Q x0 u0 pc loc stk h := by
  intro H ls locs hM hL hs hl hq hx0 hu0
  obtain ⟨n, r, rfl, n0, n1, ht, hS⟩ := s1I_e hS
  obtain ⟨hn, hs⟩ := List.forall_mem_cons.mp hs
  have hn : r32 n := hn
  obtain ⟨rc, rs⟩ := hKm _ _ _ _ hS
  rw [jx_nw] at rc
  rw [ju_nw] at rs
  obtain ⟨t1, t2, t3⟩ := aTy_aT ht
  have hby := aT_bytes ht
  refine W.newaK (N := n.toNat) hX.1 hX.2.1 (hX.2.2.2.2.1 _ (arr_word ht)) rfl hd rfl (by rw [← I_0, I_lt hn r32_0]; omega) (I_clamp hn n0) ?_ (by omega) (by omega) rfl fun H2 cA e1 z1 o1 hAr => ?_
  · have : n.toNat * componentBytes (newarray.typeOf t) ≤ 1000000 * 8 := Nat.mul_le_mul (by omega) hby
    omega
  · have hc : jC D s H2 (nw h (20 + aT t) n.toNat) (jx h) := by
      have e0 : jt (nw h (20 + aT t) n.toNat) (jx h) = 20 + aT t := by rw [jt_nw, if_pos rfl]
      have e3 : jn (nw h (20 + aT t) n.toNat) (jx h) = n.toNat := by rw [jn_nw, if_pos rfl]
      have e5 : (20 + aT t) % 20 = aT t := by omega
      refine ⟨fun q => by omega, fun _ _ => ?_, fun q => by omega⟩
      rw [e0, e3, hM.next, e5, t1]
      exact ⟨_, e1, hAr _ _, (fun q => by cases q), ⟨Nat.le_of_eq (arrV_size _ _ _).symm, by rw [arrV_size]⟩, by omega, fun k hk => by rw [arrV_read _ _ hk, jfl_0 h _ _ k t2 t3], fun q => by omega⟩
    have hM2 := hM.cell (by omega) hc z1 o1
    have g := hK _ _ _ _ hS H2 ls locs hM2 hL (List.forall_mem_cons.mpr ⟨trivial, hs⟩) hl hq (by rw [jx_nw]; omega) (by rw [ju_nw]; omega)
    rw [List.map_cons, show jV D (jP (jx h)) = .ref H.size by rw [← hM.next]; exact jVp_2 (by have := hM.2.1.2; omega), jx_nw, ju_nw] at g
    rw [show jx h + 1 - x0 = jx h - x0 + 1 by omega, show ju h + n.toNat - u0 = ju h - u0 + n.toNat by omega] at g
    exact g
theorem st_anew (hX : jX D p s m args meth c y) {ix : Nat} (hw : Cond.classLink (oR (mT y).2.2.2.2.1) ix "ProblemTexts$Part" ∈ gw) (hKm : ∀ pc loc stk h, K pc loc stk h → jx h - x0 ≤ R.cells ∧ ju h - u0 ≤ R.slots) (hd : decode (mT y).2.1 pc = .ok (.anewarray ix, 3)) (hS : jS cl (.anewarray 5) pc 3 loc stk h K Rt) (hK : ∀ pc loc stk h, K pc loc stk h → jG D p l e R s m args below meth c Q x0 u0 pc loc stk h) : jG D p l e R s m args below meth c Q x0 u0 pc loc stk h := by
  intro H ls locs hM hL hs hl hq hx0 hu0
  obtain ⟨n, r, rfl, n0, n1, -, hS⟩ := s1I_e hS
  obtain ⟨hn, hs⟩ := List.forall_mem_cons.mp hs
  have hn : r32 n := hn
  obtain ⟨rc, rs⟩ := hKm _ _ _ _ hS
  rw [jx_nw] at rc
  rw [ju_nw] at rs
  have hcl := I_clamp hn n0
  refine W.anew hX.1 hX.2.1 hX.2.2.2.1 (hX.2.2.2.2.1 _ hw) (hX.2.2.2.2.2.2.2.2.2.2.2.2.2.1).use rfl hd rfl (by rw [← I_0, I_lt hn r32_0]; omega) (by rw [hcl]; omega) (by omega) (by rw [hcl]; omega) fun cA kA comp f1 f2 f3 f4 => ?_
  rw [hcl, arrV_new]
  have z1 : (H.push (arrV cA n.toNat (fun _ => .null))).size = H.size + 1 := by simp
  have e1 : (H.push (arrV cA n.toNat (fun _ => .null)))[H.size]? = some (arrV cA n.toNat (fun _ => .null)) := by simp
  have o1 : ∀ q, q < H.size → (H.push (arrV cA n.toNat (fun _ => .null)))[q]? = H[q]? := fun q hq => by rw [Array.getElem?_push, if_neg (Nat.ne_of_lt hq)]
  generalize H.push (arrV cA n.toNat (fun _ => .null)) = H2 at z1 e1 o1 ⊢
  have hc : jC D s H2 (nw h 25 n.toNat) (jx h) := by
    have e0 : jt (nw h 25 n.toNat) (jx h) = 25 := by rw [jt_nw, if_pos rfl]
    have e3 : jn (nw h 25 n.toNat) (jx h) = n.toNat := by rw [jn_nw, if_pos rfl]
    refine ⟨fun q => by omega, fun _ _ => ?_, fun q => by omega⟩
    rw [e0, e3, hM.next]
    exact ⟨_, e1, ⟨fun k q => (by cases q), kA, f2, comp, f3⟩, (fun q => by cases q), ⟨Nat.le_of_eq (arrV_size _ _ _).symm, by rw [arrV_size]⟩, by omega, fun k hk => by rw [arrV_read _ _ hk, jfl_0 h _ _ k (by decide) (by decide)]; rfl, fun _ => ⟨kA, comp, f2, f3, f4, f1⟩⟩
  have hM2 := hM.cell (by omega) hc z1 o1
  have g := hK _ _ _ _ hS H2 ls locs hM2 hL (List.forall_mem_cons.mpr ⟨trivial, hs⟩) hl hq (by rw [jx_nw]; omega) (by rw [ju_nw]; omega)
  rw [List.map_cons, show jV D (jP (jx h)) = .ref H.size by rw [← hM.next]; exact jVp_2 (by have := hM.2.1.2; omega), jx_nw, ju_nw] at g
  rw [show jx h + 1 - x0 = jx h - x0 + 1 by omega, show ju h + n.toNat - u0 = ju h - u0 + n.toNat by omega] at g
  exact g
end ST3
end
section
/-! CALLS AND ENDS -/
def rmd (d c s : Nat) : Room := { frames := d, cells := c, slots := s, locals := 120 * d }
def jPc (D : jD) (as : List AV) (h : AH) : Array Value → State → Prop := fun a U => a = (as.map (jV D)).toArray ∧ va_K (D.2.2.1, D.2.2.2.1) vwCl [] U ∧ jM D U U.heap h ∧ jStr D U ∧ ∀ v ∈ as, vok v
def jQc (D : jD) (v : Option AV) (h' : AH) : Array Value → State → Outcome → State → Prop := fun _ _ o t => o = .returned (v.map (jV D)) ∧ jM D t t.heap h' ∧ ∀ x, v = some x → vok x
def jws (y : Nat) : List Cond := Cond.code (mT y).1 (mT y).2.1 (mT y).2.2.1 (mT y).2.2.2.1 :: gw
/-- the contract of one run of method y -/
def jMt (D : jD) (l : Launch) (d y : Nat) (as : List AV) (h : AH) (v : Option AV) (h' : AH) : Prop :=
  Met l (mT y).1 (jws y) (rmd d (jx h' - jx h) (ju h' - ju h)) (jPc D as h) (jQc D v h') (jx h' - jx h) (ju h' - ju h) (jNew D) ∧ jx h ≤ jx h' ∧ ju h ≤ ju h'
/-- what the tables say of method y -/
def mOK (y : Nat) : Prop := Cond.code (mT y).1 (mT y).2.1 (mT y).2.2.1 (mT y).2.2.2.1 ∈ gw ∧ Cond.initialized (mT y).1.cls ∈ gw ∧ ((mT y).1.cls ≠ "java/lang/invoke/MethodHandle" ∧ (mT y).1.cls ≠ "java/lang/invoke/VarHandle") ∧ (mT y).2.2.1 ≤ 90 ∧ (mT y).1.cls = oR (mT y).2.2.2.2.1 ∧ plainName (mT y).1.cls = true
def mSt (y : Nat) : Prop := mOK y ∧ Cond.static (mT y).1 ∈ gw ∧ (parseMethodDescriptor (mT y).1.desc).map (fun d => d.parameters.length) = some (mT y).2.2.2.2.2.1
def mVi (y : Nat) : Prop := mOK y ∧ Cond.instanceMethod (mT y).1 ∈ gw ∧ Cond.selects (mT y).1.cls (mT y).1 (mT y).1 ∈ gw ∧ (parseMethodDescriptor (mT y).1.desc).map (fun d => d.parameters.length + 1) = some (mT y).2.2.2.2.2.1 ∧ (mT y).2.2.2.2.1 ≤ 12
def mSp (y : Nat) : Prop := mOK y ∧ Cond.instanceMethod (mT y).1 ∈ gw ∧ (mT y).1.name = "<init>" ∧ (mT y).2.2.2.1 = none ∧ (parseMethodDescriptor (mT y).1.desc).map (fun d => d.parameters.length + 1) = some (mT y).2.2.2.2.2.1
theorem jPc_blind (D : jD) (as : List AV) (h : AH) : FrameBlind (jPc D as h) := fun a U g mk ⟨q1, q2, q3, q4, q5⟩ => ⟨q1, va_K.moved (u := U) (U := U.calling g mk a) (Vm.Alike.refl U.vm) q2, jM.moved (u := U) (U := U.calling g mk a) (Vm.Alike.refl U.vm) q3, jStr.same (u := U) (U := U.calling g mk a) rfl q4, q5⟩
theorem jws_good {y : Nat} (h : Cond.code (mT y).1 (mT y).2.1 (mT y).2.2.1 (mT y).2.2.2.1 ∈ gw) : GoodIn gw (jws y) := fun w hw => by
  rcases List.mem_cons.mp hw with rfl | hw
  · exact gw_good _ h
  · exact gw_good w hw
theorem stk_split {α β : Type} (f : α → β) (stk : List α) (n : Nat) : stk.map f = ((stk.take n).reverse.map f).reverse ++ (stk.drop n).map f := by
  rw [← List.map_reverse, List.reverse_reverse, ← List.map_append, List.take_append_drop]
theorem cat_sum {D : jD} (hf : jfv D) (st : List AV) : ((st.map (jV D)).map (fun v => v.category)).sum = (st.map jcat).sum := by
  rw [List.map_map]
  congr 1
  exact List.map_congr_left (fun v _ => jV_cat hf v)
section ST4
variable {D : jD} {p : Program} {l : Launch} {e : Env} {R : Room} {s : State} {m : MethodId} {args : Array Value} {below : List Frame} {meth : Method} {c : Code} {Q : State → Prop} {x0 u0 y : Nat}
variable {cl : Nat → List AV → AH → Option AV → AH → Prop} {K : Nat → List AV → List AV → AH → Prop} {Rt : Option AV → AH → Prop} {pc len : Nat} {loc stk : List AV} {h : AH}
theorem run_go {H : Heap} {locs : List Loc} {cells slots mc ms : Nat} {ls : Array Slot} {st0 rest : List Value} {v : Option AV} {h' : AH} {a : Array Value} (hr : va_Run p l e R s m args below meth c H locs cells slots mc ms (F0 m pc ls st0) rest (jQc D v h' a) (jNew D))
    (kk : ∀ (H1 : Heap) (L : List Loc), (∀ q ∈ L, D.2.2.2.2 ≤ q.base) → jM D s H1 h' → (∀ x, v = some x → vok x) → W p l e R s m args below meth c H1 (locs ++ L) (cells + mc) (slots + ms) Q (F0 m (pc + 3) ls ((v.map (jV D)).toList ++ rest))) : W p l e R s m args below meth c H locs cells slots Q (F0 m pc ls st0) := by
  intro T hT X
  obtain ⟨v', st₀, t, T', L, h0, X', hL, e1, e2, ⟨hv, hm, hvk⟩, st⟩ := hr T hT X
  cases hv
  have hal : t.vm.Alike s.vm := by rw [← e2]; exact X'.warmed.alike.symm
  obtain ⟨t2, a1, b1⟩ := kk t.heap L hL (hm.moved hal) hvk T' e1 X'
  exact ⟨t2, st t2 a1, b1⟩
/-- behind a call -/
theorem st_behind {H : Heap} {locs : List Loc} {ls : Array Slot} {st0 : List Value} {v : Option AV} {h' : AH} {a : Array Value} {n : Nat} (hK : ∀ pc loc stk h, K pc loc stk h → jG D p l e R s m args below meth c Q x0 u0 pc loc stk h) (hS : K (pc + 3) loc (v.toList ++ stk.drop n) h')
    (hr : va_Run p l e R s m args below meth c H locs (jx h - x0) (ju h - u0) (jx h' - jx h) (ju h' - ju h) (F0 m pc ls st0) ((stk.drop n).map (jV D)) (jQc D v h' a) (jNew D)) (m1 : jx h ≤ jx h') (m2 : ju h ≤ ju h')
    (hL : jLo D ls loc) (hs : ∀ v ∈ stk, vok v) (hl : ∀ v ∈ loc, vok v) (hq : ∀ q ∈ locs, D.2.2.2.2 ≤ q.base) (hx0 : x0 ≤ jx h) (hu0 : u0 ≤ ju h) : W p l e R s m args below meth c H locs (jx h - x0) (ju h - u0) Q (F0 m pc ls st0) := by
  refine run_go hr fun H1 L hL1 hM1 hv => ?_
  have g := hK _ _ _ _ hS H1 ls (locs ++ L) hM1 hL (fun w hw => by
    rcases List.mem_append.mp hw with q | q
    · cases v with
      | none => cases q
      | some x => rw [Option.toList_some, List.mem_singleton] at q; subst q; exact hv w rfl
    · exact hs w (List.mem_of_mem_drop q)) hl (fun q hq2 => by
    rcases List.mem_append.mp hq2 with q1 | q1
    · exact hq q q1
    · exact hL1 q q1) (by omega) (by omega)
  rw [show jx h' - x0 = jx h - x0 + (jx h' - jx h) by omega, show ju h' - u0 = ju h - u0 + (ju h' - ju h) by omega, List.map_append] at g
  cases v with
  | none => exact g
  | some x => exact g
theorem st_static (hX : jX D p s m args meth c y) {ix z d : Nat} (hz : mSt z) (hw : Cond.methodLink (oR (mT y).2.2.2.2.1) ix (mT z).1 ∈ gw) (hcl : ∀ as h v h', cl z as h v h' → jMt D l d z as h v h') (hN : loc.length = (mT y).2.2.1) (hR : d + 1 ≤ R.frames ∧ 120 * d + 120 ≤ R.locals) (hKm : ∀ pc loc stk h, K pc loc stk h → jx h - x0 ≤ R.cells ∧ ju h - u0 ≤ R.slots)
    (hd : decode (mT y).2.1 pc = .ok (.invokestatic ix, 3)) (hS : jS cl (.invokestatic z) pc 3 loc stk h K Rt) (hK : ∀ pc loc stk h, K pc loc stk h → jG D p l e R s m args below meth c Q x0 u0 pc loc stk h) : jG D p l e R s m args below meth c Q x0 u0 pc loc stk h := by
  intro H ls locs hM hL hs hl hq hx0 hu0
  obtain ⟨hn, hc8, v, h', hc, hS⟩ := hS
  obtain ⟨hMt, m1, m2⟩ := hcl _ _ _ _ hc
  obtain ⟨rc, rs⟩ := hKm _ _ _ _ hS
  obtain ⟨⟨z1, z2, z3, z4, z5, z6⟩, z7, z8⟩ := hz
  refine st_behind (a := ((stk.take (mT z).2.2.2.2.2.1).reverse.map (jV D)).toArray) hK hS ?_ m1 m2 hL hs hl hq hx0 hu0
  refine va_runS (As := (stk.take (mT z).2.2.2.2.2.1).reverse.map (jV D)) (rest := (stk.drop (mT z).2.2.2.2.2.1).map (jV D)) (n := (mT z).2.2.2.2.2.1) ⟨hX.1, hX.2.1, hX.2.2.1, hX.2.2.2.1, hX.2.2.2.2.1⟩ hMt
    ⟨callB_of _ hX.2.2.2.2.1 (jws_good z1) rfl rfl rfl (hX.2.2.2.2.1 _ z2) (hX.2.2.2.2.1 _ hw) ⟨z3.1, z3.2, z8⟩ ⟨hR.1, ?_⟩, hX.2.2.2.2.1 _ z7⟩ ⟨jPc_blind _ _ _, fun U hU hW => ⟨rfl, va_K.moved hW.alike hX.2.2.2.2.2.1, ?_, hX.2.2.2.2.2.2.2.2.2.warm hW, ?_⟩⟩ rfl ?_ ?_ (stk_split _ _ _) ?_ hd ⟨by omega, by omega⟩
  · show 8 + ((mT z).2.2.1 + 11) + 120 * d ≤ R.locals
    omega
  · rw [hU]; exact hM.moved hW.alike
  · exact fun w hw => hs w (List.mem_of_mem_take (List.mem_reverse.mp hw))
  · rw [List.length_map, List.length_reverse, List.length_take]; omega
  · show ls.size = _
    rw [hL.1, hN]
  · exact lv_room (by rw [cat_sum hM.fv]; exact hc8)
theorem oR_12 {o : Nat} (h : o < 12) : oR o = (kC o).1 := by
  rcases (show o = 0 ∨ o = 1 ∨ o = 2 ∨ o = 3 ∨ o = 4 ∨ o = 5 ∨ o = 6 ∨ o = 7 ∨ o = 8 ∨ o = 9 ∨ o = 10 ∨ o = 11 by omega) with rfl | rfl | rfl | rfl | rfl | rfl | rfl | rfl | rfl | rfl | rfl | rfl <;> rfl
/-- the receiver is an object of the method's class -/
theorem jM.recv {H : Heap} {o a : Nat} (hM : jM D s H h) (hK : va_K (D.2.2.1, D.2.2.2.1) vwCl [] s) (ho : o ≤ 12) (ht : jt h a = tg o) : ∃ cell : Cell, H[jA D a]? = some cell ∧ cell.vm.isStatics = false ∧ s.vm.findClass (oR o) = some cell.cls := by
  by_cases h12 : o = 12
  · subst h12
    have ht : jt h a = 60 := ht
    obtain ⟨⟨cell, q1, q2, q3, -⟩, -⟩ := (hM.1 a (by omega)).2.2 (by omega)
    exact ⟨cell, q1, q2, q3⟩
  · rw [tg_lt (by omega)] at ht
    obtain ⟨cell, a1, a2, a3, a4, a5⟩ := (hM.1 a (by omega)).1 (by omega)
    have e9 : jt h a - 1 = o := by omega
    rw [e9] at a2
    obtain ⟨-, hfc, -⟩ := hK.1 o _ (kC_get (by omega))
    exact ⟨cell, a1, by rw [a3]; rfl, by rw [oR_12 (by omega), a2]; exact hfc⟩
theorem map_len1 {x n : Nat} {q : Option MethodDescriptor} (h : q.map (fun d => d.parameters.length + 1) = some (n + 1)) : q.map (fun d => d.parameters.length) = some n := by
  cases q with
  | none => cases h
  | some d => simp at h ⊢; exact h
theorem st_virt (hX : jX D p s m args meth c y) {ix z d : Nat} (hz : mVi z) (hw : Cond.methodLink (oR (mT y).2.2.2.2.1) ix (mT z).1 ∈ gw) (hcl : ∀ as h v h', cl z as h v h' → jMt D l d z as h v h') (hN : loc.length = (mT y).2.2.1) (hR : d + 1 ≤ R.frames ∧ 120 * d + 120 ≤ R.locals) (hKm : ∀ pc loc stk h, K pc loc stk h → jx h - x0 ≤ R.cells ∧ ju h - u0 ≤ R.slots)
    (hd : decode (mT y).2.1 pc = .ok (.invokevirtual ix, 3)) (hS : jS cl (.invokevirtual z) pc 3 loc stk h K Rt) (hK : ∀ pc loc stk h, K pc loc stk h → jG D p l e R s m args below meth c Q x0 u0 pc loc stk h) : jG D p l e R s m args below meth c Q x0 u0 pc loc stk h := by
  intro H ls locs hM hL hs hl hq hx0 hu0
  obtain ⟨⟨a, hr, ht⟩, hn, hc8, v, h', hc, hS⟩ := hS
  obtain ⟨hMt, m1, m2⟩ := hcl _ _ _ _ hc
  obtain ⟨rc, rs⟩ := hKm _ _ _ _ hS
  obtain ⟨⟨z1, z2, z3, z4, z5, z6⟩, z7, z7', z8, z9⟩ := hz
  have hlen : (stk.take (mT z).2.2.2.2.2.1).reverse.length = (mT z).2.2.2.2.2.1 := by rw [List.length_reverse, List.length_take]; omega
  have hsp := stk_split (jV D) stk (mT z).2.2.2.2.2.1
  have hok : ∀ w ∈ (stk.take (mT z).2.2.2.2.2.1).reverse, vok w := fun w hw => hs w (List.mem_of_mem_take (List.mem_reverse.mp hw))
  generalize has : (stk.take (mT z).2.2.2.2.2.1).reverse = as at *
  cases as with
  | nil => cases hr
  | cons a0 as =>
    have hr : a0 = jP a := Option.some.inj hr
    subst hr
    have hne : ¬ jt h a = 0 := by rw [ht]; unfold tg; split <;> omega
    rw [List.map_cons, List.reverse_cons, List.append_assoc, List.singleton_append, hM.ref hne] at hsp
    have hnn : as.length + 1 = (mT z).2.2.2.2.2.1 := hlen
    rw [← hnn] at z8
    refine st_behind (a := (Value.ref (jA D a) :: as.map (jV D)).toArray) hK hS ?_ m1 m2 hL hs hl hq hx0 hu0
    refine va_runV (b := jA D a) (As := as.map (jV D)) (rest := (stk.drop (mT z).2.2.2.2.2.1).map (jV D)) (n := as.length) (C := (mT z).1.cls) ⟨hX.1, hX.2.1, hX.2.2.1, hX.2.2.2.1, hX.2.2.2.2.1⟩ hMt
      ⟨callB_of _ hX.2.2.2.2.1 (jws_good z1) rfl rfl rfl (hX.2.2.2.2.1 _ z2) (hX.2.2.2.2.1 _ hw) ⟨z3.1, z3.2, map_len1 (x := 0) z8⟩ ⟨hR.1, ?_⟩, hX.2.2.2.2.1 _ z7, hX.2.2.2.2.1 _ z7'⟩ ⟨jPc_blind _ _ _, by rw [z5]; exact hM.recv hX.2.2.2.2.2.1 z9 ht, fun U hU hW => ⟨by rw [List.map_cons, hM.ref hne], va_K.moved hW.alike hX.2.2.2.2.2.1, ?_, hX.2.2.2.2.2.2.2.2.2.warm hW, hok⟩⟩ rfl (List.length_map _) ?_ hsp ?_ hd ⟨by omega, by omega⟩
    · show 8 + ((mT z).2.2.1 + 11) + 120 * d ≤ R.locals
      omega
    · rw [hU]; exact hM.moved hW.alike
    · show ls.size = _
      rw [hL.1, hN]
    · exact lv_room (by rw [cat_sum hM.fv]; exact hc8)
theorem st_spec (hX : jX D p s m args meth c y) {ix z d : Nat} (hz : mSp z) (hw : Cond.methodLink (oR (mT y).2.2.2.2.1) ix (mT z).1 ∈ gw ∨ va_Nw (.methodLinkNest (oR (mT y).2.2.2.2.1) ix (mT z).1 "ProblemTexts") s) (hcl : ∀ as h v h', cl z as h v h' → jMt D l d z as h v h') (hN : loc.length = (mT y).2.2.1) (hR : d + 1 ≤ R.frames ∧ 120 * d + 120 ≤ R.locals) (hKm : ∀ pc loc stk h, K pc loc stk h → jx h - x0 ≤ R.cells ∧ ju h - u0 ≤ R.slots)
    (hd : decode (mT y).2.1 pc = .ok (.invokespecial ix, 3)) {z0 : Nat} (hz0 : z0 % 1000 = z) (hS : jS cl (.invokespecial z0) pc 3 loc stk h K Rt) (hK : ∀ pc loc stk h, K pc loc stk h → jG D p l e R s m args below meth c Q x0 u0 pc loc stk h) : jG D p l e R s m args below meth c Q x0 u0 pc loc stk h := by
  intro H ls locs hM hL hs hl hq hx0 hu0
  obtain ⟨⟨a, hr, ht⟩, hn, hc8, v, h', hc, hS⟩ := hS
  rw [hz0] at hr hn hc8 hc hS
  obtain ⟨hMt, m1, m2⟩ := hcl _ _ _ _ hc
  obtain ⟨rc, rs⟩ := hKm _ _ _ _ hS
  obtain ⟨⟨z1, z2, z3, z4, z5, z6⟩, z7, z9, z10, z8⟩ := hz
  have hlen : (stk.take (mT z).2.2.2.2.2.1).reverse.length = (mT z).2.2.2.2.2.1 := by rw [List.length_reverse, List.length_take]; omega
  have hsp := stk_split (jV D) stk (mT z).2.2.2.2.2.1
  have hok : ∀ w ∈ (stk.take (mT z).2.2.2.2.2.1).reverse, vok w := fun w hw => hs w (List.mem_of_mem_take (List.mem_reverse.mp hw))
  generalize has : (stk.take (mT z).2.2.2.2.2.1).reverse = as at *
  cases as with
  | nil => cases hr
  | cons a0 as =>
    have hr : a0 = jP a := Option.some.inj hr
    subst hr
    have hre : jV D (jP a) = .ref (jA D a) := jVp_2 ht
    rw [List.map_cons, List.reverse_cons, List.append_assoc, List.singleton_append, hre] at hsp
    have hnn : as.length + 1 = (mT z).2.2.2.2.2.1 := hlen
    rw [← hnn] at z8
    have hloc : 8 + ((mT z).2.2.1 + 11) + (rmd d (jx h' - jx h) (ju h' - ju h)).locals ≤ R.locals := by
      show 8 + ((mT z).2.2.1 + 11) + 120 * d ≤ R.locals
      omega
    have hg := jws_good z1
    unfold jMt jws at *
    rw [z10] at hMt z1 hg
    have hp : PreS s H (jPc D (jP a :: as) h) (.ref (jA D a) :: as.map (jV D)) := ⟨jPc_blind _ _ _, fun U hU hW => ⟨by rw [List.map_cons, hre], va_K.moved hW.alike hX.2.2.2.2.2.1, by rw [hU]; exact hM.moved hW.alike, hX.2.2.2.2.2.2.2.2.2.warm hW, hok⟩⟩
    refine st_behind (a := (Value.ref (jA D a) :: as.map (jV D)).toArray) hK hS ?_ m1 m2 hL hs hl hq hx0 hu0
    rcases hw with hw | hw
    · exact va_runI (b := jA D a) (As := as.map (jV D)) (rest := (stk.drop (mT z).2.2.2.2.2.1).map (jV D)) (n := as.length) ⟨hX.1, hX.2.1, hX.2.2.1, hX.2.2.2.1, hX.2.2.2.2.1⟩ hMt
        ⟨callB_of _ hX.2.2.2.2.1 hg rfl rfl rfl (hX.2.2.2.2.1 _ z2) (hX.2.2.2.2.1 _ hw) ⟨z3.1, z3.2, map_len1 (x := 0) z8⟩ ⟨hR.1, hloc⟩, z9, hX.2.2.2.2.1 _ z7⟩ hp rfl (List.length_map _) (by show ls.size = _; rw [hL.1, hN]) hsp (lv_room (by rw [cat_sum hM.fv]; exact hc8)) hd ⟨by omega, by omega⟩
    · exact va_runIN (b := jA D a) (As := as.map (jV D)) (rest := (stk.drop (mT z).2.2.2.2.2.1).map (jV D)) (n := as.length) ⟨hX.1, hX.2.1, hX.2.2.1, hX.2.2.2.1, hX.2.2.2.2.1⟩ hMt
        ⟨va_cnB _ hX.2.2.2.2.1 hg rfl rfl rfl hw (hX.2.2.2.2.1 _ z2) ⟨z3.1, z3.2, map_len1 (x := 0) z8⟩ ⟨hR.1, hloc⟩, z9, hX.2.2.2.2.1 _ z7⟩ hp rfl (List.length_map _) (by show ls.size = _; rw [hL.1, hN]) hsp (lv_room (by rw [cat_sum hM.fv]; exact hc8)) hd ⟨by omega, by omega⟩
theorem objI_words : Cond.instanceMethod Lib.objectInit ∈ gw ∧ Cond.code Lib.objectInit ⟨#[0xb1]⟩ 1 none ∈ gw := ⟨gw_of (by decide +kernel) rfl, gw_of (by decide +kernel) rfl⟩
theorem st_objI (hX : jX D p s m args meth c y) {ix : Nat} (hw : Cond.methodLink (oR (mT y).2.2.2.2.1) ix Lib.objectInit ∈ gw) (hN : loc.length = (mT y).2.2.1) (hR : 1 ≤ R.frames ∧ 20 ≤ R.locals)
    (hd : decode (mT y).2.1 pc = .ok (.invokespecial ix, 3)) (hS : jS cl .monitorenter pc 3 loc stk h K Rt) (hK : ∀ pc loc stk h, K pc loc stk h → jG D p l e R s m args below meth c Q x0 u0 pc loc stk h) : jG D p l e R s m args below meth c Q x0 u0 pc loc stk h := by
  intro H ls locs hM hL hs hl hq hx0 hu0
  obtain ⟨a, r, rfl, ha, hc8, hS⟩ := s1P_e hS
  replace hs := (List.forall_mem_cons.mp hs).2
  rw [List.map_cons, show jV D (jP a) = .ref (jA D a) from jVp_2 ha]
  have hrm := lv_room (m := m) (pc := pc) (ls := ls) (rest := []) (st := r.map (jV D)) (by rw [cat_sum hM.fv]; exact hc8)
  refine W.objInit hX.1 hX.2.1 hX.2.2.2.1 (hX.2.2.2.2.1 _ hw) (hX.2.2.2.2.1 _ objI_words.1) (hX.2.2.2.2.1 _ objI_words.2) rfl (by rw [hX.2.2.1, ← hN]; exact hL.1) rfl hd hR.1 ?_ ?_
  · have : 2 * (F0 m pc ls (.ref (jA D a) :: r.map (jV D))).monitorRoom + ((r.map (jV D)).map fun v => v.category).sum ≤ 8 := hrm
    omega
  · exact hK _ _ _ _ hS H ls locs hM hL hs hl hq hx0 hu0
theorem max_words : Cond.static Lib.Math.max.name ∈ lw_tbl ∧ Cond.initialized "java/lang/Math" ∈ lw_tbl ∧ Cond.code Lib.Math.max.name Lib.Math.max.code 2 (some .int) ∈ lw_tbl := ⟨by decide +kernel, by decide +kernel, by decide +kernel⟩
theorem st_max (hX : jX D p s m args meth c y) {ix : Nat} (hw : Cond.methodLink (oR (mT y).2.2.2.2.1) ix Lib.Math.max.name ∈ gw) (hN : loc.length = (mT y).2.2.1) (hR : 1 ≤ R.frames ∧ 30 ≤ R.locals) (hKm : ∀ pc loc stk h, K pc loc stk h → jx h - x0 ≤ R.cells ∧ ju h - u0 ≤ R.slots)
    (hd : decode (mT y).2.1 pc = .ok (.invokestatic ix, 3)) (hS : jS cl .saload pc 3 loc stk h K Rt) (hK : ∀ pc loc stk h, K pc loc stk h → jG D p l e R s m args below meth c Q x0 u0 pc loc stk h) : jG D p l e R s m args below meth c Q x0 u0 pc loc stk h := by
  intro H ls locs hM hL hs hl hq hx0 hu0
  obtain ⟨y1, r, rfl, hS⟩ := s1I_e hS
  obtain ⟨x1, r, rfl, hc8, hS⟩ := s1I_e hS
  obtain ⟨hy, hs⟩ := List.forall_mem_cons.mp hs
  obtain ⟨hx, hs⟩ := List.forall_mem_cons.mp hs
  have hy : r32 y1 := hy
  have hx : r32 x1 := hx
  obtain ⟨rc, rs⟩ := hKm _ _ _ _ hS
  refine va_mmax hX.1 hX.2.1 (by rw [hX.2.2.1, ← hN]; exact hL.1.symm) hX.2.2.2.1 (hX.2.2.2.2.1 _ hw) (hX.2.2.2.2.1 _ (gw_of max_words.1 rfl)) (hX.2.2.2.2.1 _ (gw_of max_words.2.1 rfl)) (hX.2.2.2.2.1 _ (gw_of max_words.2.2 rfl)) hR.1 (by rw [cat_sum hM.fv]; omega) rc rs hd ?_
  have g := hK _ _ _ _ hS H ls locs hM hL (List.forall_mem_cons.mpr ⟨(by show r32 (if _ then _ else _); split <;> assumption), hs⟩) hl hq hx0 hu0
  have e0 : (if Int32.ofInt x1 < Int32.ofInt y1 then Int32.ofInt y1 else Int32.ofInt x1) = Int32.ofInt (if x1 < y1 then y1 else x1) := by
    simp only [I_lt hx hy]
    split <;> rfl
  rw [e0]
  exact g
theorem min_words : Cond.static Lib.Math.min.name ∈ lw_tbl ∧ Cond.initialized "java/lang/Math" ∈ lw_tbl ∧ Cond.code Lib.Math.min.name Lib.Math.min.code 2 (some .int) ∈ lw_tbl := ⟨by decide +kernel, by decide +kernel, by decide +kernel⟩
theorem st_min (hX : jX D p s m args meth c y) {ix : Nat} (hw : Cond.methodLink (oR (mT y).2.2.2.2.1) ix Lib.Math.min.name ∈ gw) (hN : loc.length = (mT y).2.2.1) (hR : 1 ≤ R.frames ∧ 30 ≤ R.locals) (hKm : ∀ pc loc stk h, K pc loc stk h → jx h - x0 ≤ R.cells ∧ ju h - u0 ≤ R.slots)
    (hd : decode (mT y).2.1 pc = .ok (.invokestatic ix, 3)) (hS : jS cl .sastore pc 3 loc stk h K Rt) (hK : ∀ pc loc stk h, K pc loc stk h → jG D p l e R s m args below meth c Q x0 u0 pc loc stk h) : jG D p l e R s m args below meth c Q x0 u0 pc loc stk h := by
  intro H ls locs hM hL hs hl hq hx0 hu0
  obtain ⟨y1, r, rfl, hS⟩ := s1I_e hS
  obtain ⟨x1, r, rfl, hc8, hS⟩ := s1I_e hS
  obtain ⟨hy, hs⟩ := List.forall_mem_cons.mp hs
  obtain ⟨hx, hs⟩ := List.forall_mem_cons.mp hs
  have hy : r32 y1 := hy
  have hx : r32 x1 := hx
  obtain ⟨rc, rs⟩ := hKm _ _ _ _ hS
  refine va_mmin hX.1 hX.2.1 (by rw [hX.2.2.1, ← hN]; exact hL.1.symm) hX.2.2.2.1 (hX.2.2.2.2.1 _ hw) (hX.2.2.2.2.1 _ (gw_of min_words.1 rfl)) (hX.2.2.2.2.1 _ (gw_of min_words.2.1 rfl)) (hX.2.2.2.2.1 _ (gw_of min_words.2.2 rfl)) hR.1 (by rw [cat_sum hM.fv]; omega) rc rs hd ?_
  have g := hK _ _ _ _ hS H ls locs hM hL (List.forall_mem_cons.mpr ⟨(by show r32 (if _ then _ else _); split <;> assumption), hs⟩) hl hq hx0 hu0
  have e0 : (if Int32.ofInt y1 < Int32.ofInt x1 then Int32.ofInt y1 else Int32.ofInt x1) = Int32.ofInt (if y1 < x1 then y1 else x1) := by
    simp only [I_lt hy hx]
    split <;> rfl
  rw [e0]
  exact g
theorem minL_words : Cond.static Lib.MathLoose.min_long.x ∈ lw_tbl ∧ Cond.initialized "java/lang/Math" ∈ lw_tbl ∧ Cond.code Lib.MathLoose.min_long.x Lib.MathLoose.min_long.code 4 (some .long) ∈ lw_tbl := ⟨by decide +kernel, by decide +kernel, by decide +kernel⟩
theorem st_minL (hX : jX D p s m args meth c y) {ix : Nat} (hw : Cond.methodLink (oR (mT y).2.2.2.2.1) ix Lib.MathLoose.min_long.x ∈ gw) (hN : loc.length = (mT y).2.2.1) (hR : 1 ≤ R.frames ∧ 30 ≤ R.locals) (hKm : ∀ pc loc stk h, K pc loc stk h → jx h - x0 ≤ R.cells ∧ ju h - u0 ≤ R.slots)
    (hd : decode (mT y).2.1 pc = .ok (.invokestatic ix, 3)) (hS : jS cl .caload pc 3 loc stk h K Rt) (hK : ∀ pc loc stk h, K pc loc stk h → jG D p l e R s m args below meth c Q x0 u0 pc loc stk h) : jG D p l e R s m args below meth c Q x0 u0 pc loc stk h := by
  intro H ls locs hM hL hs hl hq hx0 hu0
  obtain ⟨y1, r, rfl, hS⟩ := s1L_e hS
  obtain ⟨x1, r, rfl, hc8, hS⟩ := s1L_e hS
  obtain ⟨hy, hs⟩ := List.forall_mem_cons.mp hs
  obtain ⟨hx, hs⟩ := List.forall_mem_cons.mp hs
  have hy : r64 y1 := hy
  have hx : r64 x1 := hx
  obtain ⟨rc, rs⟩ := hKm _ _ _ _ hS
  refine va_mmin_long hX.1 hX.2.1 (by rw [hX.2.2.1, ← hN]; exact hL.1.symm) hX.2.2.2.1 (hX.2.2.2.2.1 _ hw) (hX.2.2.2.2.1 _ (gw_of minL_words.1 rfl)) (hX.2.2.2.2.1 _ (gw_of minL_words.2.1 rfl)) (hX.2.2.2.2.1 _ (gw_of minL_words.2.2 rfl)) hR.1 (by rw [cat_sum hM.fv]; omega) rc rs hd ?_
  have g := hK _ _ _ _ hS H ls locs hM hL (List.forall_mem_cons.mpr ⟨(by show r64 (if _ then _ else _); split <;> assumption), hs⟩) hl hq hx0 hu0
  have e0 : (if Int64.ofInt y1 < Int64.ofInt x1 then Int64.ofInt y1 else Int64.ofInt x1) = Int64.ofInt (if y1 < x1 then y1 else x1) := by
    simp only [L_lt hy hx]
    split <;> rfl
  rw [e0]
  exact g
end ST4
end
section
/-! A STEP'S GOING ON MAY BE WEAKENED; the locals keep their number, the heap only grows -/
theorem s1I_m {st : List AV} {k k2 : Int → List AV → Prop} (h : s1I st k) (f : ∀ x r, k x r → k2 x r) : s1I st k2 := by
  obtain ⟨x, r, rfl, h⟩ := s1I_e h
  exact f x r h
theorem s1L_m {st : List AV} {k k2 : Int → List AV → Prop} (h : s1L st k) (f : ∀ x r, k x r → k2 x r) : s1L st k2 := by
  obtain ⟨x, r, rfl, h⟩ := s1L_e h
  exact f x r h
theorem s1P_m {st : List AV} {k k2 : Nat → List AV → Prop} (h : s1P st k) (f : ∀ x r, k x r → k2 x r) : s1P st k2 := by
  obtain ⟨x, r, rfl, h⟩ := s1P_e h
  exact f x r h
theorem s1V_m {st : List AV} {k k2 : AV → List AV → Prop} (h : s1V st k) (f : ∀ x r, k x r → k2 x r) : s1V st k2 := by
  obtain ⟨x, r, rfl, e, h⟩ := s1V_e h
  exact ⟨e, f x r h⟩
theorem jpf_m {ty : FieldType} {stk : List AV} {h : AH} {k : Nat} {K K2 : Nat → List AV → AH → Prop} (hS : jpf ty stk h k K) (f : ∀ a r h', jx h' = jx h → ju h' = ju h → K a r h' → K2 a r h') : jpf ty stk h k K2 := by
  cases ty with
  | long => exact s1L_m hS fun x r hS => s1P_m hS fun a r hS => f _ _ _ rfl rfl hS
  | int => exact s1I_m hS fun x r hS => s1P_m hS fun a r hS => f _ _ _ rfl rfl hS
  | boolean => exact s1I_m hS fun x r hS => s1P_m hS fun a r hS => ⟨hS.1, f _ _ _ rfl rfl hS.2⟩
  | object n => exact s1P_m hS fun x r hS => s1P_m hS fun a r hS => f _ _ _ rfl rfl hS
  | array n => exact s1P_m hS fun x r hS => s1P_m hS fun a r hS => f _ _ _ rfl rfl hS
  | _ => exact hS.elim
theorem jpf_c {ty : FieldType} {stk : List AV} {h : AH} {k : Nat} {B : Prop} (hS : jpf ty stk h k (fun _ _ _ => B)) : B := by
  obtain ⟨v, a, r, h', -, hB, -⟩ := jpf_e hS
  exact hB
theorem lset2_len (i : Nat) (v : AV) (loc : List AV) : (lset2 i v loc).length = loc.length := by rw [lset2, List.length_set, lset_len]
theorem jcl_m {cl : Nat → List AV → AH → Option AV → AH → Prop} {y : Nat} {stk : List AV} {h : AH} {K K2 : List AV → AH → Prop} (hS : jcl cl y stk h K) (hcl : ∀ y as h v h', cl y as h v h' → jx h ≤ jx h' ∧ ju h ≤ ju h') (f : ∀ st h', jx h ≤ jx h' → ju h ≤ ju h' → K st h' → K2 st h') : jcl cl y stk h K2 := by
  obtain ⟨a, b, v, h', c, d⟩ := hS
  obtain ⟨q1, q2⟩ := hcl _ _ _ _ _ c
  exact ⟨a, b, v, h', c, f _ _ q1 q2 d⟩
set_option maxHeartbeats 4000000 in
theorem jS_mono {cl : Nat → List AV → AH → Option AV → AH → Prop} {ins : Instr} {pc len : Nat} {loc stk : List AV} {h : AH} {K K2 : Nat → List AV → List AV → AH → Prop} {R R2 : Option AV → AH → Prop} (hS : jS cl ins pc len loc stk h K R) (hcl : ∀ y as h v h', cl y as h v h' → jx h ≤ jx h' ∧ ju h ≤ ju h')
    (hK : ∀ pc' loc' stk' h', loc'.length = loc.length → jx h ≤ jx h' → ju h ≤ ju h' → K pc' loc' stk' h' → K2 pc' loc' stk' h') (hR : ∀ v h', jx h ≤ jx h' → ju h ≤ ju h' → R v h' → R2 v h') : jS cl ins pc len loc stk h K2 R2 := by
  have z := Nat.le_refl (jx h)
  have w := Nat.le_refl (ju h)
  cases ins with
  | sipush c => exact ⟨hS.1, hK _ _ _ _ rfl z w hS.2⟩
  | jsr_w c => exact ⟨hS.1, hK _ _ _ _ rfl z w hS.2⟩
  | jsr c => exact hK _ _ _ _ rfl z w hS
  | iload i => exact s1I_m hS fun _ _ hS => hK _ _ _ _ rfl z w hS
  | lload i => exact s1L_m hS fun _ _ hS => hK _ _ _ _ rfl z w hS
  | aload i => exact s1P_m hS fun _ _ hS => hK _ _ _ _ rfl z w hS
  | istore i => exact s1I_m hS fun _ _ hS => ⟨hS.1, hK _ _ _ _ (lset_len _ _ _) z w hS.2⟩
  | astore i => exact s1P_m hS fun _ _ hS => ⟨hS.1, hK _ _ _ _ (lset_len _ _ _) z w hS.2⟩
  | lstore i => exact s1L_m hS fun _ _ hS => ⟨hS.1, hK _ _ _ _ (lset2_len _ _ _) z w hS.2⟩
  | iinc i c => exact s1I_m hS fun _ _ hS => ⟨hS.1, hK _ _ _ _ (lset_len _ _ _) z w hS.2⟩
  | iadd => exact s1I_m hS fun _ _ hS => s1I_m hS fun _ _ hS => hK _ _ _ _ rfl z w hS
  | isub => exact s1I_m hS fun _ _ hS => s1I_m hS fun _ _ hS => hK _ _ _ _ rfl z w hS
  | imul => exact s1I_m hS fun _ _ hS => s1I_m hS fun _ _ hS => hK _ _ _ _ rfl z w hS
  | iand => exact s1I_m hS fun _ _ hS => s1I_m hS fun _ _ hS => hK _ _ _ _ rfl z w hS
  | ior => exact s1I_m hS fun _ _ hS => s1I_m hS fun _ _ hS => hK _ _ _ _ rfl z w hS
  | ixor => exact s1I_m hS fun _ _ hS => s1I_m hS fun _ _ hS => hK _ _ _ _ rfl z w hS
  | ishl => exact s1I_m hS fun _ _ hS => s1I_m hS fun _ _ hS => hK _ _ _ _ rfl z w hS
  | ishr => exact s1I_m hS fun _ _ hS => s1I_m hS fun _ _ hS => hK _ _ _ _ rfl z w hS
  | iushr => exact s1I_m hS fun _ _ hS => s1I_m hS fun _ _ hS => hK _ _ _ _ rfl z w hS
  | idiv => exact s1I_m hS fun _ _ hS => s1I_m hS fun _ _ hS => ⟨hS.1, hK _ _ _ _ rfl z w hS.2⟩
  | irem => exact s1I_m hS fun _ _ hS => s1I_m hS fun _ _ hS => ⟨hS.1, hK _ _ _ _ rfl z w hS.2⟩
  | ladd => exact s1L_m hS fun _ _ hS => s1L_m hS fun _ _ hS => hK _ _ _ _ rfl z w hS
  | lsub => exact s1L_m hS fun _ _ hS => s1L_m hS fun _ _ hS => hK _ _ _ _ rfl z w hS
  | lmul => exact s1L_m hS fun _ _ hS => s1L_m hS fun _ _ hS => hK _ _ _ _ rfl z w hS
  | land => exact s1L_m hS fun _ _ hS => s1L_m hS fun _ _ hS => hK _ _ _ _ rfl z w hS
  | lor => exact s1L_m hS fun _ _ hS => s1L_m hS fun _ _ hS => hK _ _ _ _ rfl z w hS
  | lcmp => exact s1L_m hS fun _ _ hS => s1L_m hS fun _ _ hS => hK _ _ _ _ rfl z w hS
  | ldiv => exact s1L_m hS fun _ _ hS => s1L_m hS fun _ _ hS => ⟨hS.1, hK _ _ _ _ rfl z w hS.2⟩
  | lrem => exact s1L_m hS fun _ _ hS => s1L_m hS fun _ _ hS => ⟨hS.1, hK _ _ _ _ rfl z w hS.2⟩
  | lshl => exact s1I_m hS fun _ _ hS => s1L_m hS fun _ _ hS => hK _ _ _ _ rfl z w hS
  | lshr => exact s1I_m hS fun _ _ hS => s1L_m hS fun _ _ hS => hK _ _ _ _ rfl z w hS
  | lushr => exact s1I_m hS fun _ _ hS => s1L_m hS fun _ _ hS => hK _ _ _ _ rfl z w hS
  | ineg => exact s1I_m hS fun _ _ hS => hK _ _ _ _ rfl z w hS
  | i2l => exact s1I_m hS fun _ _ hS => hK _ _ _ _ rfl z w hS
  | i2b => exact s1I_m hS fun _ _ hS => hK _ _ _ _ rfl z w hS
  | i2c => exact s1I_m hS fun _ _ hS => hK _ _ _ _ rfl z w hS
  | lneg => exact s1L_m hS fun _ _ hS => hK _ _ _ _ rfl z w hS
  | l2i => exact s1L_m hS fun _ _ hS => hK _ _ _ _ rfl z w hS
  | dup => exact s1V_m hS fun _ _ hS => hK _ _ _ _ rfl z w hS
  | pop => exact s1V_m hS fun _ _ hS => hK _ _ _ _ rfl z w hS
  | dup2 => exact s1V_m hS fun _ _ hS => s1V_m hS fun _ _ hS => hK _ _ _ _ rfl z w hS
  | ifCond c t => exact s1I_m hS fun _ _ hS => ⟨fun q => hK _ _ _ _ rfl z w (hS.1 q), fun q => hK _ _ _ _ rfl z w (hS.2 q)⟩
  | if_icmp c t => exact s1I_m hS fun _ _ hS => s1I_m hS fun _ _ hS => ⟨fun q => hK _ _ _ _ rfl z w (hS.1 q), fun q => hK _ _ _ _ rfl z w (hS.2 q)⟩
  | ifnull t => exact s1P_m hS fun _ _ hS => ⟨hS.1, fun q => hK _ _ _ _ rfl z w (hS.2.1 q), fun q => hK _ _ _ _ rfl z w (hS.2.2 q)⟩
  | ifnonnull t => exact s1P_m hS fun _ _ hS => ⟨hS.1, fun q => hK _ _ _ _ rfl z w (hS.2.1 q), fun q => hK _ _ _ _ rfl z w (hS.2.2 q)⟩
  | goto t => exact hK _ _ _ _ rfl z w hS
  | tableswitch d lo hi ts => exact s1I_m hS fun _ _ hS => ⟨fun q => hK _ _ _ _ rfl z w (hS.1 q), fun q => (hS.2 q).imp fun t ht => ⟨ht.1, hK _ _ _ _ rfl z w ht.2⟩⟩
  | lookupswitch d ps => exact s1I_m hS fun _ _ hS => hK _ _ _ _ rfl z w hS
  | getfield f => exact s1P_m hS fun _ _ hS => ⟨hS.1, hK _ _ _ _ rfl z w hS.2⟩
  | putfield f => exact jpf_m (ty := kTy (f / 100) (f % 100)) (stk := stk) (h := h) (k := f % 100) (K := fun a r h' => jt h a = tg (f / 100) ∧ f / 100 < 12 ∧ K (pc + len) loc r h') (K2 := fun a r h' => jt h a = tg (f / 100) ∧ f / 100 < 12 ∧ K2 (pc + len) loc r h') hS fun a r h' e1 e2 hS => ⟨hS.1, hS.2.1, hK _ _ _ _ rfl (Nat.le_of_eq e1.symm) (Nat.le_of_eq e2.symm) hS.2.2⟩
  | new ci => exact ⟨hS.1, hK _ _ _ _ rfl (Nat.le_succ _) (Nat.le_add_right _ _) hS.2⟩
  | newarray t => exact s1I_m hS fun _ _ hS => ⟨hS.1, hS.2.1, hS.2.2.1, hK _ _ _ _ rfl (Nat.le_succ _) (Nat.le_add_right _ _) hS.2.2.2⟩
  | anewarray f => exact s1I_m hS fun _ _ hS => ⟨hS.1, hS.2.1, hS.2.2.1, hK _ _ _ _ rfl (Nat.le_succ _) (Nat.le_add_right _ _) hS.2.2.2⟩
  | multianewarray f g => exact s1I_m hS fun _ _ hS => s1I_m hS fun _ _ hS => ⟨hS.1, hS.2.1, hS.2.2.1, hS.2.2.2.1, hK _ _ _ _ rfl (by show jx h ≤ jx h + 1 + _; omega) (by show ju h ≤ ju h + _ + _; omega) hS.2.2.2.2⟩
  | arraylength => exact s1P_m hS fun _ _ hS => ⟨hS.1, hS.2.1, hK _ _ _ _ rfl z w hS.2.2⟩
  | iaload => exact s1I_m hS fun _ _ hS => s1P_m hS fun _ _ hS => ⟨hS.1, hK _ _ _ _ rfl z w hS.2⟩
  | laload => exact s1I_m hS fun _ _ hS => s1P_m hS fun _ _ hS => ⟨hS.1, hK _ _ _ _ rfl z w hS.2⟩
  | baload => exact s1I_m hS fun _ _ hS => s1P_m hS fun _ _ hS => ⟨hS.1, hK _ _ _ _ rfl z w hS.2⟩
  | aaload => exact s1I_m hS fun _ _ hS => s1P_m hS fun _ _ hS => ⟨hS.1, hK _ _ _ _ rfl z w hS.2⟩
  | iastore => exact s1I_m hS fun _ _ hS => s1I_m hS fun _ _ hS => s1P_m hS fun _ _ hS => ⟨hS.1, hK _ _ _ _ rfl z w hS.2⟩
  | lastore => exact s1L_m hS fun _ _ hS => s1I_m hS fun _ _ hS => s1P_m hS fun _ _ hS => ⟨hS.1, hK _ _ _ _ rfl z w hS.2⟩
  | bastore => exact s1I_m hS fun _ _ hS => s1I_m hS fun _ _ hS => s1P_m hS fun _ _ hS => ⟨hS.1, hK _ _ _ _ rfl z w hS.2⟩
  | aastore => exact s1P_m hS fun _ _ hS => s1I_m hS fun _ _ hS => s1P_m hS fun _ _ hS => ⟨hS.1, hS.2.1, hK _ _ _ _ rfl z w hS.2.2⟩
  | invokevirtual f => exact ⟨hS.1, jcl_m hS.2 hcl fun _ _ q1 q2 hS => hK _ _ _ _ rfl q1 q2 hS⟩
  | invokestatic f => exact jcl_m hS hcl fun _ _ q1 q2 hS => hK _ _ _ _ rfl q1 q2 hS
  | invokespecial f => exact ⟨hS.1, jcl_m hS.2 hcl fun _ _ q1 q2 hS => hK _ _ _ _ rfl q1 q2 hS⟩
  | saload => exact s1I_m hS fun _ _ hS => s1I_m hS fun _ _ hS => ⟨hS.1, hK _ _ _ _ rfl z w hS.2⟩
  | sastore => exact s1I_m hS fun _ _ hS => s1I_m hS fun _ _ hS => ⟨hS.1, hK _ _ _ _ rfl z w hS.2⟩
  | caload => exact s1L_m hS fun _ _ hS => s1L_m hS fun _ _ hS => ⟨hS.1, hK _ _ _ _ rfl z w hS.2⟩
  | monitorenter => exact s1P_m hS fun _ _ hS => ⟨hS.1, hS.2.1, hK _ _ _ _ rfl z w hS.2.2⟩
  | ireturn => exact s1I_m hS fun _ _ hS => ⟨hS.1, hR _ _ z w hS.2⟩
  | lreturn => exact s1L_m hS fun _ _ hS => ⟨hS.1, hR _ _ z w hS.2⟩
  | areturn => exact s1P_m hS fun _ _ hS => ⟨hS.1, hR _ _ z w hS.2⟩
  | return_ => exact ⟨hS.1, hR _ _ z w hS.2⟩
  | _ => exact hS.elim
theorem s1I_c {st : List AV} {B : Prop} {k : Int → List AV → Prop} (h : s1I st k) (f : ∀ x r, k x r → B) : B := by
  obtain ⟨x, r, rfl, h⟩ := s1I_e h
  exact f x r h
theorem s1L_c {st : List AV} {B : Prop} {k : Int → List AV → Prop} (h : s1L st k) (f : ∀ x r, k x r → B) : B := by
  obtain ⟨x, r, rfl, h⟩ := s1L_e h
  exact f x r h
theorem s1P_c {st : List AV} {B : Prop} {k : Nat → List AV → Prop} (h : s1P st k) (f : ∀ x r, k x r → B) : B := by
  obtain ⟨x, r, rfl, h⟩ := s1P_e h
  exact f x r h
theorem s1V_c {st : List AV} {B : Prop} {k : AV → List AV → Prop} (h : s1V st k) (f : ∀ x r, k x r → B) : B := by
  obtain ⟨x, r, rfl, e, h⟩ := s1V_e h
  exact f x r h
theorem jcl_c {cl : Nat → List AV → AH → Option AV → AH → Prop} {y : Nat} {stk : List AV} {h : AH} {B : Prop} (hS : jcl cl y stk h (fun _ _ => B)) : B := by
  obtain ⟨a, b, v, h', c, d⟩ := hS
  exact d
set_option maxHeartbeats 4000000 in
theorem jS_const {cl : Nat → List AV → AH → Option AV → AH → Prop} {ins : Instr} {pc len : Nat} {loc stk : List AV} {h : AH} {B : Prop} (hS : jS cl ins pc len loc stk h (fun _ _ _ _ => B) (fun _ _ => B)) : B := by
  cases ins with
  | sipush c => exact hS.2
  | jsr_w c => exact hS.2
  | jsr c => exact hS
  | iload i => exact s1I_c hS fun _ _ hS => hS
  | lload i => exact s1L_c hS fun _ _ hS => hS
  | aload i => exact s1P_c hS fun _ _ hS => hS
  | istore i => exact s1I_c hS fun _ _ hS => hS.2
  | astore i => exact s1P_c hS fun _ _ hS => hS.2
  | lstore i => exact s1L_c hS fun _ _ hS => hS.2
  | iinc i c => exact s1I_c hS fun _ _ hS => hS.2
  | iadd => exact s1I_c hS fun _ _ hS => s1I_c hS fun _ _ hS => hS
  | isub => exact s1I_c hS fun _ _ hS => s1I_c hS fun _ _ hS => hS
  | imul => exact s1I_c hS fun _ _ hS => s1I_c hS fun _ _ hS => hS
  | iand => exact s1I_c hS fun _ _ hS => s1I_c hS fun _ _ hS => hS
  | ior => exact s1I_c hS fun _ _ hS => s1I_c hS fun _ _ hS => hS
  | ixor => exact s1I_c hS fun _ _ hS => s1I_c hS fun _ _ hS => hS
  | ishl => exact s1I_c hS fun _ _ hS => s1I_c hS fun _ _ hS => hS
  | ishr => exact s1I_c hS fun _ _ hS => s1I_c hS fun _ _ hS => hS
  | iushr => exact s1I_c hS fun _ _ hS => s1I_c hS fun _ _ hS => hS
  | idiv => exact s1I_c hS fun _ _ hS => s1I_c hS fun _ _ hS => hS.2
  | irem => exact s1I_c hS fun _ _ hS => s1I_c hS fun _ _ hS => hS.2
  | ladd => exact s1L_c hS fun _ _ hS => s1L_c hS fun _ _ hS => hS
  | lsub => exact s1L_c hS fun _ _ hS => s1L_c hS fun _ _ hS => hS
  | lmul => exact s1L_c hS fun _ _ hS => s1L_c hS fun _ _ hS => hS
  | land => exact s1L_c hS fun _ _ hS => s1L_c hS fun _ _ hS => hS
  | lor => exact s1L_c hS fun _ _ hS => s1L_c hS fun _ _ hS => hS
  | lcmp => exact s1L_c hS fun _ _ hS => s1L_c hS fun _ _ hS => hS
  | ldiv => exact s1L_c hS fun _ _ hS => s1L_c hS fun _ _ hS => hS.2
  | lrem => exact s1L_c hS fun _ _ hS => s1L_c hS fun _ _ hS => hS.2
  | lshl => exact s1I_c hS fun _ _ hS => s1L_c hS fun _ _ hS => hS
  | lshr => exact s1I_c hS fun _ _ hS => s1L_c hS fun _ _ hS => hS
  | lushr => exact s1I_c hS fun _ _ hS => s1L_c hS fun _ _ hS => hS
  | ineg => exact s1I_c hS fun _ _ hS => hS
  | i2l => exact s1I_c hS fun _ _ hS => hS
  | i2b => exact s1I_c hS fun _ _ hS => hS
  | i2c => exact s1I_c hS fun _ _ hS => hS
  | lneg => exact s1L_c hS fun _ _ hS => hS
  | l2i => exact s1L_c hS fun _ _ hS => hS
  | dup => exact s1V_c hS fun _ _ hS => hS
  | pop => exact s1V_c hS fun _ _ hS => hS
  | dup2 => exact s1V_c hS fun _ _ hS => s1V_c hS fun _ _ hS => hS
  | ifCond c t => exact s1I_c hS fun _ _ hS => Classical.byCases hS.1 hS.2
  | if_icmp c t => exact s1I_c hS fun _ _ hS => s1I_c hS fun _ _ hS => Classical.byCases hS.1 hS.2
  | ifnull t => exact s1P_c hS fun _ _ hS => Classical.byCases hS.2.1 hS.2.2
  | ifnonnull t => exact s1P_c hS fun _ _ hS => Classical.byCases hS.2.2 hS.2.1
  | goto t => exact hS
  | tableswitch d lo hi ts => exact s1I_c hS fun _ _ hS => Classical.byCases hS.1 fun q => (hS.2 q).elim fun _ ht => ht.2
  | lookupswitch d ps => exact s1I_c hS fun _ _ hS => hS
  | getfield f => exact s1P_c hS fun _ _ hS => hS.2
  | putfield f => exact jpf_c (ty := kTy (f / 100) (f % 100)) (stk := stk) (h := h) (k := f % 100) (jpf_m (K := fun a r h' => jt h a = tg (f / 100) ∧ f / 100 < 12 ∧ B) (K2 := fun _ _ _ => B) hS fun a r h' _ _ hS => hS.2.2)
  | new ci => exact hS.2
  | newarray t => exact s1I_c hS fun _ _ hS => hS.2.2.2
  | anewarray f => exact s1I_c hS fun _ _ hS => hS.2.2.2
  | multianewarray f g => exact s1I_c hS fun _ _ hS => s1I_c hS fun _ _ hS => hS.2.2.2.2
  | arraylength => exact s1P_c hS fun _ _ hS => hS.2.2
  | iaload => exact s1I_c hS fun _ _ hS => s1P_c hS fun _ _ hS => hS.2
  | laload => exact s1I_c hS fun _ _ hS => s1P_c hS fun _ _ hS => hS.2
  | baload => exact s1I_c hS fun _ _ hS => s1P_c hS fun _ _ hS => hS.2
  | aaload => exact s1I_c hS fun _ _ hS => s1P_c hS fun _ _ hS => hS.2
  | iastore => exact s1I_c hS fun _ _ hS => s1I_c hS fun _ _ hS => s1P_c hS fun _ _ hS => hS.2
  | lastore => exact s1L_c hS fun _ _ hS => s1I_c hS fun _ _ hS => s1P_c hS fun _ _ hS => hS.2
  | bastore => exact s1I_c hS fun _ _ hS => s1I_c hS fun _ _ hS => s1P_c hS fun _ _ hS => hS.2
  | aastore => exact s1P_c hS fun _ _ hS => s1I_c hS fun _ _ hS => s1P_c hS fun _ _ hS => hS.2.2
  | invokevirtual f => exact jcl_c hS.2
  | invokestatic f => exact jcl_c hS
  | invokespecial f => exact jcl_c hS.2
  | saload => exact s1I_c hS fun _ _ hS => s1I_c hS fun _ _ hS => hS.2
  | sastore => exact s1I_c hS fun _ _ hS => s1I_c hS fun _ _ hS => hS.2
  | caload => exact s1L_c hS fun _ _ hS => s1L_c hS fun _ _ hS => hS.2
  | monitorenter => exact s1P_c hS fun _ _ hS => hS.2.2
  | ireturn => exact s1I_c hS fun _ _ hS => hS.2
  | lreturn => exact s1L_c hS fun _ _ hS => hS.2
  | areturn => exact s1P_c hS fun _ _ hS => hS.2
  | return_ => exact hS.2
  | _ => exact hS.elim
end
section
/-! the link tables -/
def tbs (j : Nat) : List Cond := match j with
  | 0 => k2_sels lw_privs
  | 1 => tables_1_1
  | 2 => tables_1_2
  | 3 => tables_1_3
  | 4 => tables_1_4
  | 5 => tables_1_5
  | 6 => tables_1_6
  | _ => tables_1_7
theorem tbs_in (j : Nat) {w : Cond} (h : w ∈ tbs j) : w ∈ lw_tbl := by
  unfold lw_tbl tables_1
  simp only [List.mem_append]
  unfold tbs at h
  split at h
  · exact Or.inl h
  · exact Or.inr (Or.inl h)
  · exact Or.inr (Or.inr (Or.inl h))
  · exact Or.inr (Or.inr (Or.inr (Or.inl h)))
  · exact Or.inr (Or.inr (Or.inr (Or.inr (Or.inl h))))
  · exact Or.inr (Or.inr (Or.inr (Or.inr (Or.inr (Or.inl h)))))
  · exact Or.inr (Or.inr (Or.inr (Or.inr (Or.inr (Or.inr (Or.inl h))))))
  · exact Or.inr (Or.inr (Or.inr (Or.inr (Or.inr (Or.inr (Or.inr h))))))
def at_ (i : Nat) (w : Cond) : Bool := decide ((tbs (i / 1000))[i % 1000]? = some w)
theorem at_in {i : Nat} {w : Cond} (h : at_ i w = true) : w ∈ lw_tbl := tbs_in _ (List.mem_of_getElem? (of_decide_eq_true h))
def ckF (o : Nat) (q : Nat × Nat × Nat) : Bool :=
  bif Nat.beq q.2.1 1200 then at_ q.2.2 (.fieldLink (oR o) q.1 "java/lang/String" "value" "[B")
  else bif Nat.beq q.2.1 1201 then at_ q.2.2 (.fieldLink (oR o) q.1 "java/lang/String" "coder" "B")
  else Nat.ble (q.2.1 / 100 + 1) 12 && (Nat.ble (q.2.1 % 100 + 1) (kC (q.2.1 / 100)).2.2 && at_ q.2.2 (.fieldLink (oR o) q.1 ((kC (q.2.1 / 100)).2.1 (q.2.1 % 100)).1 ((kC (q.2.1 / 100)).2.1 (q.2.1 % 100)).2.1 ((kC (q.2.1 / 100)).2.1 (q.2.1 % 100)).2.2.1))
def ckM (o : Nat) (q : Nat × Nat × Nat) : Bool := bif Nat.beq q.2.1 900 then at_ q.2.2 (.methodLink (oR o) q.1 Lib.objectInit) else bif Nat.beq q.2.1 901 then at_ q.2.2 (.methodLink (oR o) q.1 Lib.Math.max.name) else bif Nat.beq q.2.1 902 then at_ q.2.2 (.methodLink (oR o) q.1 Lib.Math.min.name) else bif Nat.beq q.2.1 903 then at_ q.2.2 (.methodLink (oR o) q.1 Lib.MathLoose.min_long.x) else at_ q.2.2 (.methodLink (oR o) q.1 (mT q.2.1).1)
def ckN (o : Nat) (q : Nat × Nat × Nat) : Bool := Nat.beq o 1 && ((Nat.beq q.1 11 && decide ((mT q.2.1).1 = ⟨RX4, "<init>", "()V"⟩)) || (Nat.beq q.1 20 && decide ((mT q.2.1).1 = ⟨RX7, "<init>", "()V"⟩)))
def ckC (o : Nat) (q : Nat × Nat × Nat) : Bool := Nat.beq q.2.1 77 || at_ q.2.2 (.classLink (oR o) q.1 (kC q.2.1).1)
def ckI (o : Nat) (q : Nat × Int × Nat) : Bool := at_ q.2.2 (.constant (oR o) q.1 (Int32.ofInt q.2.1))
def ckL (o : Nat) (q : Nat × Int × Nat) : Bool := at_ q.2.2 (.constantLong (oR o) q.1 (Int64.ofInt q.2.1))
def ckS (o : Nat) (q : Nat × Nat × Nat) : Bool := Nat.ble 2 q.2.1 && strL.any (fun r => decide (r.1 = oR o) && (Nat.beq r.2.1 q.1 && Nat.beq r.2.2.2 q.2.1))
def ckG (o : Nat) (q : Nat × Nat × Nat) : Bool :=
  bif Nat.beq q.2.1 0 then at_ q.2.2 (.fieldLink (oR o) q.1 "java/lang/String" "COMPACT_STRINGS" "Z")
  else bif Nat.beq q.2.1 1 then at_ q.2.2 (.fieldLink (oR o) q.1 "jdk/internal/util/Preconditions" "SIOOBE_FORMATTER" "Ljava/util/function/BiFunction;")
  else Nat.beq o 9 && Nat.beq q.1 66
def ckAll {α : Type} (L : List (List α)) (f : Nat → α → Bool) : Bool := (List.range L.length).all (fun o => (L.getD o []).all (f o))
theorem ckAll_e {α : Type} {L : List (List α)} {f : Nat → α → Bool} (h : ckAll L f = true) {o : Nat} {q : α} (hq : q ∈ L.getD o []) : f o q = true := by
  by_cases ho : o < L.length
  · exact List.all_eq_true.mp (List.all_eq_true.mp h o (List.mem_range.mpr ho)) q hq
  · rw [List.getD_eq_getElem?_getD, List.getElem?_eq_none (by omega)] at hq
    cases hq
end
section
/-! EVERY METHOD'S CODE IS IN THE TABLES -/
def cwP (y : Nat) : Prop := Cond.code (mT y).1 (mT y).2.1 (mT y).2.2.1 (mT y).2.2.2.1 ∈ lw_tbl
theorem cw_0 : cwP 0 := tbs_in 1 (List.mem_of_getElem? (i := 33) (show (tbs 1)[33]? = some (Cond.code ym_0 prog_2_method_1_code 2 none) from rfl))
theorem cw_1 : cwP 1 := tbs_in 2 (List.mem_of_getElem? (i := 115) (show (tbs 2)[115]? = some (Cond.code ym_1 prog_2_method_2_code 2 (some .int)) from rfl))
theorem cw_2 : cwP 2 := tbs_in 2 (List.mem_of_getElem? (i := 99) (show (tbs 2)[99]? = some (Cond.code ym_2 prog_2_method_3_code 2 none) from rfl))
theorem cw_3 : cwP 3 := tbs_in 4 (List.mem_of_getElem? (i := 155) (show (tbs 4)[155]? = some (Cond.code ym_3 prog_2_method_4_code 3 none) from rfl))
theorem cw_4 : cwP 4 := tbs_in 4 (List.mem_of_getElem? (i := 149) (show (tbs 4)[149]? = some (Cond.code ym_4 prog_2_method_5_code 4 none) from rfl))
theorem cw_5 : cwP 5 := tbs_in 4 (List.mem_of_getElem? (i := 189) (show (tbs 4)[189]? = some (Cond.code ym_5 prog_2_method_6_code 8 none) from rfl))
theorem cw_6 : cwP 6 := tbs_in 1 (List.mem_of_getElem? (i := 79) (show (tbs 1)[79]? = some (Cond.code ym_6 prog_3_method_1_code 1 none) from rfl))
theorem cw_7 : cwP 7 := tbs_in 2 (List.mem_of_getElem? (i := 233) (show (tbs 2)[233]? = some (Cond.code ym_7 prog_3_method_2_code 1 none) from rfl))
theorem cw_8 : cwP 8 := tbs_in 3 (List.mem_of_getElem? (i := 69) (show (tbs 3)[69]? = some (Cond.code ym_8 prog_3_method_3_code 2 none) from rfl))
theorem cw_9 : cwP 9 := tbs_in 4 (List.mem_of_getElem? (i := 31) (show (tbs 4)[31]? = some (Cond.code ym_9 prog_3_method_4_code 2 (some .int)) from rfl))
theorem cw_10 : cwP 10 := tbs_in 3 (List.mem_of_getElem? (i := 217) (show (tbs 3)[217]? = some (Cond.code ym_10 prog_3_method_5_code 1 (some .boolean)) from rfl))
theorem cw_11 : cwP 11 := tbs_in 3 (List.mem_of_getElem? (i := 137) (show (tbs 3)[137]? = some (Cond.code ym_11 prog_4_method_1_code 5 none) from rfl))
theorem cw_12 : cwP 12 := tbs_in 2 (List.mem_of_getElem? (i := 30) (show (tbs 2)[30]? = some (Cond.code ym_12 prog_5_method_1_code 2 none) from rfl))
theorem cw_13 : cwP 13 := tbs_in 3 (List.mem_of_getElem? (i := 222) (show (tbs 3)[222]? = some (Cond.code ym_13 prog_5_method_2_code 4 none) from rfl))
theorem cw_14 : cwP 14 := tbs_in 3 (List.mem_of_getElem? (i := 230) (show (tbs 3)[230]? = some (Cond.code ym_14 prog_5_method_3_code 3 none) from rfl))
theorem cw_15 : cwP 15 := tbs_in 4 (List.mem_of_getElem? (i := 7) (show (tbs 4)[7]? = some (Cond.code ym_15 prog_5_method_4_code 2 none) from rfl))
theorem cw_16 : cwP 16 := tbs_in 4 (List.mem_of_getElem? (i := 14) (show (tbs 4)[14]? = some (Cond.code ym_16 prog_5_method_5_code 9 none) from rfl))
theorem cw_17 : cwP 17 := tbs_in 4 (List.mem_of_getElem? (i := 45) (show (tbs 4)[45]? = some (Cond.code ym_17 prog_5_method_6_code 6 none) from rfl))
theorem cw_18 : cwP 18 := tbs_in 4 (List.mem_of_getElem? (i := 35) (show (tbs 4)[35]? = some (Cond.code ym_18 prog_5_method_7_code 9 none) from rfl))
theorem cw_19 : cwP 19 := tbs_in 4 (List.mem_of_getElem? (i := 40) (show (tbs 4)[40]? = some (Cond.code ym_19 prog_5_method_8_code 4 none) from rfl))
theorem cw_20 : cwP 20 := tbs_in 4 (List.mem_of_getElem? (i := 18) (show (tbs 4)[18]? = some (Cond.code ym_20 prog_5_method_9_code 7 (some .long)) from rfl))
theorem cw_21 : cwP 21 := tbs_in 4 (List.mem_of_getElem? (i := 22) (show (tbs 4)[22]? = some (Cond.code ym_21 prog_5_method_10_code 2 (some .int)) from rfl))
theorem cw_22 : cwP 22 := tbs_in 4 (List.mem_of_getElem? (i := 122) (show (tbs 4)[122]? = some (Cond.code ym_22 prog_5_method_11_code 5 (some .long)) from rfl))
theorem cw_23 : cwP 23 := tbs_in 1 (List.mem_of_getElem? (i := 85) (show (tbs 1)[85]? = some (Cond.code ym_23 prog_6_method_1_code 1 none) from rfl))
theorem cw_24 : cwP 24 := tbs_in 3 (List.mem_of_getElem? (i := 29) (show (tbs 3)[29]? = some (Cond.code ym_24 prog_6_method_2_code 4 none) from rfl))
theorem cw_25 : cwP 25 := tbs_in 3 (List.mem_of_getElem? (i := 21) (show (tbs 3)[21]? = some (Cond.code ym_25 prog_6_method_3_code 3 (some .int)) from rfl))
theorem cw_26 : cwP 26 := tbs_in 3 (List.mem_of_getElem? (i := 57) (show (tbs 3)[57]? = some (Cond.code ym_26 prog_6_method_4_code 4 (some .int)) from rfl))
theorem cw_27 : cwP 27 := tbs_in 4 (List.mem_of_getElem? (i := 55) (show (tbs 4)[55]? = some (Cond.code ym_27 prog_6_method_5_code 4 (some .int)) from rfl))
theorem cw_28 : cwP 28 := tbs_in 4 (List.mem_of_getElem? (i := 59) (show (tbs 4)[59]? = some (Cond.code ym_28 prog_6_method_6_code 4 (some .int)) from rfl))
theorem cw_29 : cwP 29 := tbs_in 3 (List.mem_of_getElem? (i := 108) (show (tbs 3)[108]? = some (Cond.code ym_29 prog_7_method_1_code 2 none) from rfl))
theorem cw_30 : cwP 30 := tbs_in 3 (List.mem_of_getElem? (i := 203) (show (tbs 3)[203]? = some (Cond.code ym_30 prog_7_method_2_code 2 none) from rfl))
theorem cw_31 : cwP 31 := tbs_in 1 (List.mem_of_getElem? (i := 239) (show (tbs 1)[239]? = some (Cond.code ym_31 prog_8_method_1_code 3 none) from rfl))
theorem cw_32 : cwP 32 := tbs_in 2 (List.mem_of_getElem? (i := 229) (show (tbs 2)[229]? = some (Cond.code ym_32 prog_8_method_2_code 4 (some .boolean)) from rfl))
theorem cw_33 : cwP 33 := tbs_in 3 (List.mem_of_getElem? (i := 9) (show (tbs 3)[9]? = some (Cond.code ym_33 prog_8_method_3_code 4 (some .boolean)) from rfl))
theorem cw_34 : cwP 34 := tbs_in 3 (List.mem_of_getElem? (i := 5) (show (tbs 3)[5]? = some (Cond.code ym_34 prog_8_method_4_code 3 (some .boolean)) from rfl))
theorem cw_35 : cwP 35 := tbs_in 3 (List.mem_of_getElem? (i := 45) (show (tbs 3)[45]? = some (Cond.code ym_35 prog_8_method_5_code 3 (some .boolean)) from rfl))
theorem cw_36 : cwP 36 := tbs_in 3 (List.mem_of_getElem? (i := 78) (show (tbs 3)[78]? = some (Cond.code ym_36 prog_8_method_6_code 4 (some .boolean)) from rfl))
theorem cw_37 : cwP 37 := tbs_in 3 (List.mem_of_getElem? (i := 90) (show (tbs 3)[90]? = some (Cond.code ym_37 prog_8_method_7_code 2 (some .boolean)) from rfl))
theorem cw_38 : cwP 38 := tbs_in 3 (List.mem_of_getElem? (i := 207) (show (tbs 3)[207]? = some (Cond.code ym_38 prog_8_method_8_code 2 (some .boolean)) from rfl))
theorem cw_39 : cwP 39 := tbs_in 3 (List.mem_of_getElem? (i := 211) (show (tbs 3)[211]? = some (Cond.code ym_39 prog_8_method_9_code 1 (some .boolean)) from rfl))
theorem cw_40 : cwP 40 := tbs_in 3 (List.mem_of_getElem? (i := 49) (show (tbs 3)[49]? = some (Cond.code ym_40 prog_8_method_10_code 1 (some .boolean)) from rfl))
theorem cw_41 : cwP 41 := tbs_in 3 (List.mem_of_getElem? (i := 53) (show (tbs 3)[53]? = some (Cond.code ym_41 prog_8_method_11_code 2 (some .int)) from rfl))
theorem cw_42 : cwP 42 := tbs_in 3 (List.mem_of_getElem? (i := 65) (show (tbs 3)[65]? = some (Cond.code ym_42 prog_8_method_12_code 2 (some .boolean)) from rfl))
theorem cw_43 : cwP 43 := tbs_in 3 (List.mem_of_getElem? (i := 95) (show (tbs 3)[95]? = some (Cond.code ym_43 prog_8_method_13_code 4 (some .boolean)) from rfl))
theorem cw_44 : cwP 44 := tbs_in 3 (List.mem_of_getElem? (i := 99) (show (tbs 3)[99]? = some (Cond.code ym_44 prog_8_method_14_code 2 (some .int)) from rfl))
theorem cw_45 : cwP 45 := tbs_in 3 (List.mem_of_getElem? (i := 199) (show (tbs 3)[199]? = some (Cond.code ym_45 prog_8_method_15_code 2 none) from rfl))
theorem cw_46 : cwP 46 := tbs_in 3 (List.mem_of_getElem? (i := 103) (show (tbs 3)[103]? = some (Cond.code ym_46 prog_8_method_16_code 8 (some (.object "ProblemTexts$Part"))) from rfl))
theorem cw_47 : cwP 47 := tbs_in 3 (List.mem_of_getElem? (i := 132) (show (tbs 3)[132]? = some (Cond.code ym_47 prog_8_method_17_code 3 (some (.object "ProblemTexts$Factor"))) from rfl))
theorem cw_48 : cwP 48 := tbs_in 3 (List.mem_of_getElem? (i := 174) (show (tbs 3)[174]? = some (Cond.code ym_48 prog_8_method_18_code 6 (some (.object "ProblemTexts$Factor"))) from rfl))
theorem cw_49 : cwP 49 := tbs_in 3 (List.mem_of_getElem? (i := 178) (show (tbs 3)[178]? = some (Cond.code ym_49 prog_8_method_19_code 5 (some .int)) from rfl))
theorem cw_50 : cwP 50 := tbs_in 3 (List.mem_of_getElem? (i := 190) (show (tbs 3)[190]? = some (Cond.code ym_50 prog_8_method_20_code 8 (some (.object "ProblemTexts$Factor"))) from rfl))
theorem cw_51 : cwP 51 := tbs_in 1 (List.mem_of_getElem? (i := 106) (show (tbs 1)[106]? = some (Cond.code ym_51 prog_9_method_1_code 1 none) from rfl))
theorem cw_52 : cwP 52 := tbs_in 3 (List.mem_of_getElem? (i := 41) (show (tbs 3)[41]? = some (Cond.code ym_52 prog_9_method_2_code 3 none) from rfl))
theorem cw_53 : cwP 53 := tbs_in 3 (List.mem_of_getElem? (i := 61) (show (tbs 3)[61]? = some (Cond.code ym_53 prog_9_method_3_code 2 (some .int)) from rfl))
theorem cw_54 : cwP 54 := tbs_in 3 (List.mem_of_getElem? (i := 239) (show (tbs 3)[239]? = some (Cond.code ym_54 prog_9_method_4_code 3 (some .int)) from rfl))
theorem cw_55 : cwP 55 := tbs_in 3 (List.mem_of_getElem? (i := 186) (show (tbs 3)[186]? = some (Cond.code ym_55 prog_9_method_5_code 3 (some .int)) from rfl))
theorem cw_56 : cwP 56 := tbs_in 3 (List.mem_of_getElem? (i := 182) (show (tbs 3)[182]? = some (Cond.code ym_56 prog_9_method_6_code 3 (some .boolean)) from rfl))
theorem cw_57 : cwP 57 := tbs_in 1 (List.mem_of_getElem? (i := 129) (show (tbs 1)[129]? = some (Cond.code ym_57 prog_10_method_1_code 3 none) from rfl))
theorem cw_58 : cwP 58 := tbs_in 2 (List.mem_of_getElem? (i := 237) (show (tbs 2)[237]? = some (Cond.code ym_58 prog_10_method_2_code 1 none) from rfl))
theorem cw_59 : cwP 59 := tbs_in 3 (List.mem_of_getElem? (i := 73) (show (tbs 3)[73]? = some (Cond.code ym_59 prog_10_method_3_code 3 none) from rfl))
theorem cw_60 : cwP 60 := tbs_in 4 (List.mem_of_getElem? (i := 26) (show (tbs 4)[26]? = some (Cond.code ym_60 prog_10_method_4_code 6 (some .int)) from rfl))
theorem cw_61 : cwP 61 := tbs_in 3 (List.mem_of_getElem? (i := 226) (show (tbs 3)[226]? = some (Cond.code ym_61 prog_10_method_5_code 3 (some .int)) from rfl))
theorem cw_62 : cwP 62 := tbs_in 3 (List.mem_of_getElem? (i := 234) (show (tbs 3)[234]? = some (Cond.code ym_62 prog_10_method_6_code 4 (some .int)) from rfl))
theorem cw_63 : cwP 63 := tbs_in 4 (List.mem_of_getElem? (i := 3) (show (tbs 4)[3]? = some (Cond.code ym_63 prog_10_method_7_code 4 (some .int)) from rfl))
theorem cw_64 : cwP 64 := tbs_in 1 (List.mem_of_getElem? (i := 52) (show (tbs 1)[52]? = some (Cond.code ym_64 prog_11_method_1_code 1 none) from rfl))
theorem cw_65 : cwP 65 := tbs_in 2 (List.mem_of_getElem? (i := 111) (show (tbs 2)[111]? = some (Cond.code ym_65 prog_11_method_2_code 5 none) from rfl))
theorem cw_66 : cwP 66 := tbs_in 2 (List.mem_of_getElem? (i := 122) (show (tbs 2)[122]? = some (Cond.code ym_66 prog_11_method_3_code 7 (some .int)) from rfl))
theorem cw_67 : cwP 67 := tbs_in 2 (List.mem_of_getElem? (i := 135) (show (tbs 2)[135]? = some (Cond.code ym_67 prog_11_method_4_code 5 (some .int)) from rfl))
theorem cw_68 : cwP 68 := tbs_in 2 (List.mem_of_getElem? (i := 139) (show (tbs 2)[139]? = some (Cond.code ym_68 prog_11_method_5_code 5 (some .int)) from rfl))
theorem cw_69 : cwP 69 := tbs_in 2 (List.mem_of_getElem? (i := 128) (show (tbs 2)[128]? = some (Cond.code ym_69 prog_11_method_6_code 4 none) from rfl))
theorem cw_70 : cwP 70 := tbs_in 3 (List.mem_of_getElem? (i := 1) (show (tbs 3)[1]? = some (Cond.code ym_70 prog_11_method_7_code 1 (some .int)) from rfl))
theorem cw_71 : cwP 71 := tbs_in 3 (List.mem_of_getElem? (i := 82) (show (tbs 3)[82]? = some (Cond.code ym_71 prog_11_method_8_code 1 (some .int)) from rfl))
theorem cw_72 : cwP 72 := tbs_in 3 (List.mem_of_getElem? (i := 37) (show (tbs 3)[37]? = some (Cond.code ym_72 prog_11_method_9_code 1 (some .int)) from rfl))
theorem cw_73 : cwP 73 := tbs_in 3 (List.mem_of_getElem? (i := 17) (show (tbs 3)[17]? = some (Cond.code ym_73 prog_11_method_10_code 1 (some .int)) from rfl))
theorem cw_74 : cwP 74 := tbs_in 3 (List.mem_of_getElem? (i := 13) (show (tbs 3)[13]? = some (Cond.code ym_74 prog_11_method_11_code 1 none) from rfl))
theorem cw_75 : cwP 75 := tbs_in 3 (List.mem_of_getElem? (i := 33) (show (tbs 3)[33]? = some (Cond.code ym_75 prog_11_method_12_code 2 (some .boolean)) from rfl))
theorem cw_76 : cwP 76 := tbs_in 3 (List.mem_of_getElem? (i := 25) (show (tbs 3)[25]? = some (Cond.code ym_76 prog_11_method_13_code 1 (some .boolean)) from rfl))
theorem cw_77 : cwP 77 := tbs_in 3 (List.mem_of_getElem? (i := 86) (show (tbs 3)[86]? = some (Cond.code ym_77 prog_11_method_14_code 2 none) from rfl))
theorem cw_78 : cwP 78 := tbs_in 2 (List.mem_of_getElem? (i := 118) (show (tbs 2)[118]? = some (Cond.code ym_78 prog_11_method_15_code 1 (some .boolean)) from rfl))
theorem cw_79 : cwP 79 := tbs_in 2 (List.mem_of_getElem? (i := 131) (show (tbs 2)[131]? = some (Cond.code ym_79 prog_11_method_16_code 1 (some .boolean)) from rfl))
theorem cw_80 : cwP 80 := tbs_in 1 (List.mem_of_getElem? (i := 25) (show (tbs 1)[25]? = some (Cond.code ym_80 prog_1_method_1_code 1 none) from rfl))
theorem cw_81 : cwP 81 := tbs_in 2 (List.mem_of_getElem? (i := 93) (show (tbs 2)[93]? = some (Cond.code ym_81 prog_1_method_2_code 5 (some .int)) from rfl))
theorem cw_82 : cwP 82 := tbs_in 2 (List.mem_of_getElem? (i := 103) (show (tbs 2)[103]? = some (Cond.code ym_82 prog_1_method_3_code 3 (some .int)) from rfl))
theorem cw_83 : cwP 83 := tbs_in 2 (List.mem_of_getElem? (i := 107) (show (tbs 2)[107]? = some (Cond.code ym_83 prog_1_method_4_code 2 (some .int)) from rfl))
theorem cw_84 : cwP 84 := tbs_in 4 (List.mem_of_getElem? (i := 50) (show (tbs 4)[50]? = some (Cond.code ym_84 prog_1_method_5_code 5 (some .int)) from rfl))
theorem cw_85 : cwP 85 := tbs_in 4 (List.mem_of_getElem? (i := 63) (show (tbs 4)[63]? = some (Cond.code ym_85 prog_1_method_6_code 3 (some .int)) from rfl))
theorem cw_86 : cwP 86 := tbs_in 4 (List.mem_of_getElem? (i := 67) (show (tbs 4)[67]? = some (Cond.code ym_86 prog_1_method_7_code 5 (some .int)) from rfl))
theorem cw_87 : cwP 87 := tbs_in 4 (List.mem_of_getElem? (i := 73) (show (tbs 4)[73]? = some (Cond.code ym_87 prog_1_method_8_code 5 (some .int)) from rfl))
theorem cw_88 : cwP 88 := tbs_in 4 (List.mem_of_getElem? (i := 77) (show (tbs 4)[77]? = some (Cond.code ym_88 prog_1_method_9_code 4 (some .int)) from rfl))
theorem cw_89 : cwP 89 := tbs_in 4 (List.mem_of_getElem? (i := 84) (show (tbs 4)[84]? = some (Cond.code ym_89 prog_1_method_10_code 4 (some .int)) from rfl))
theorem cw_90 : cwP 90 := tbs_in 4 (List.mem_of_getElem? (i := 88) (show (tbs 4)[88]? = some (Cond.code ym_90 prog_1_method_11_code 3 (some .long)) from rfl))
theorem cw_91 : cwP 91 := tbs_in 4 (List.mem_of_getElem? (i := 101) (show (tbs 4)[101]? = some (Cond.code ym_91 prog_1_method_12_code 2 (some .long)) from rfl))
theorem cw_92 : cwP 92 := tbs_in 4 (List.mem_of_getElem? (i := 105) (show (tbs 4)[105]? = some (Cond.code ym_92 prog_1_method_13_code 2 (some .long)) from rfl))
theorem cw_93 : cwP 93 := tbs_in 4 (List.mem_of_getElem? (i := 110) (show (tbs 4)[110]? = some (Cond.code ym_93 prog_1_method_14_code 2 (some .int)) from rfl))
theorem cw_94 : cwP 94 := tbs_in 4 (List.mem_of_getElem? (i := 114) (show (tbs 4)[114]? = some (Cond.code ym_94 prog_1_method_15_code 5 (some .int)) from rfl))
theorem cw_95 : cwP 95 := tbs_in 4 (List.mem_of_getElem? (i := 118) (show (tbs 4)[118]? = some (Cond.code ym_95 prog_1_method_16_code 2 (some .long)) from rfl))
theorem cw_96 : cwP 96 := tbs_in 4 (List.mem_of_getElem? (i := 126) (show (tbs 4)[126]? = some (Cond.code ym_96 prog_1_method_17_code 2 (some .int)) from rfl))
theorem cw_97 : cwP 97 := tbs_in 4 (List.mem_of_getElem? (i := 137) (show (tbs 4)[137]? = some (Cond.code ym_97 prog_1_method_18_code 4 (some .int)) from rfl))
theorem cw_98 : cwP 98 := tbs_in 4 (List.mem_of_getElem? (i := 141) (show (tbs 4)[141]? = some (Cond.code ym_98 prog_1_method_19_code 1 (some .long)) from rfl))
theorem cw_99 : cwP 99 := tbs_in 4 (List.mem_of_getElem? (i := 145) (show (tbs 4)[145]? = some (Cond.code ym_99 prog_1_method_20_code 5 (some .int)) from rfl))
theorem cw_100 : cwP 100 := tbs_in 4 (List.mem_of_getElem? (i := 202) (show (tbs 4)[202]? = some (Cond.code ym_100 prog_1_method_21_code 2 (some .int)) from rfl))
theorem cw_101 : cwP 101 := tbs_in 4 (List.mem_of_getElem? (i := 96) (show (tbs 4)[96]? = some (Cond.code ym_101 prog_1_method_22_code 2 (some .boolean)) from rfl))
theorem cw_102 : cwP 102 := tbs_in 4 (List.mem_of_getElem? (i := 92) (show (tbs 4)[92]? = some (Cond.code ym_102 prog_1_method_23_code 2 (some .boolean)) from rfl))
theorem cw_103 : cwP 103 := tbs_in 4 (List.mem_of_getElem? (i := 130) (show (tbs 4)[130]? = some (Cond.code ym_103 prog_1_method_24_code 5 (some .boolean)) from rfl))
theorem cw_104 : cwP 104 := tbs_in 4 (List.mem_of_getElem? (i := 180) (show (tbs 4)[180]? = some (Cond.code ym_104 prog_1_method_25_code 7 none) from rfl))
theorem cw_105 : cwP 105 := tbs_in 4 (List.mem_of_getElem? (i := 198) (show (tbs 4)[198]? = some (Cond.code ym_105 prog_1_method_26_code 3 none) from rfl))
theorem cw_106 : cwP 106 := tbs_in 4 (List.mem_of_getElem? (i := 208) (show (tbs 4)[208]? = some (Cond.code ym_106 prog_13_method_1_code 1 none) from rfl))
theorem cw_107 : cwP 107 := tbs_in 5 (List.mem_of_getElem? (i := 231) (show (tbs 5)[231]? = some (Cond.code ym_107 prog_13_method_2_code 6 (some .boolean)) from rfl))
theorem cw_108 : cwP 108 := tbs_in 5 (List.mem_of_getElem? (i := 227) (show (tbs 5)[227]? = some (Cond.code ym_108 prog_13_method_3_code 5 (some .int)) from rfl))
theorem cw_109 : cwP 109 := tbs_in 5 (List.mem_of_getElem? (i := 238) (show (tbs 5)[238]? = some (Cond.code ym_109 prog_13_method_4_code 3 (some .int)) from rfl))
theorem cw_110 : cwP 110 := tbs_in 6 (List.mem_of_getElem? (i := 14) (show (tbs 6)[14]? = some (Cond.code ym_110 prog_13_method_5_code 2 (some .int)) from rfl))
theorem cw_111 : cwP 111 := tbs_in 6 (List.mem_of_getElem? (i := 17) (show (tbs 6)[17]? = some (Cond.code ym_111 prog_13_method_6_code 1 (some .boolean)) from rfl))
theorem cw_112 : cwP 112 := tbs_in 6 (List.mem_of_getElem? (i := 33) (show (tbs 6)[33]? = some (Cond.code ym_112 prog_13_method_7_code 1 (some .boolean)) from rfl))
theorem cw_113 : cwP 113 := tbs_in 6 (List.mem_of_getElem? (i := 23) (show (tbs 6)[23]? = some (Cond.code ym_113 prog_13_method_8_code 1 none) from rfl))
theorem cw_114 : cwP 114 := tbs_in 6 (List.mem_of_getElem? (i := 30) (show (tbs 6)[30]? = some (Cond.code ym_114 prog_13_method_9_code 5 (some .int)) from rfl))
theorem cw_115 : cwP 115 := tbs_in 6 (List.mem_of_getElem? (i := 27) (show (tbs 6)[27]? = some (Cond.code ym_115 prog_13_method_10_code 1 (some .int)) from rfl))
theorem cw_116 : cwP 116 := tbs_in 6 (List.mem_of_getElem? (i := 39) (show (tbs 6)[39]? = some (Cond.code ym_116 prog_13_method_11_code 1 none) from rfl))
theorem cw_117 : cwP 117 := tbs_in 6 (List.mem_of_getElem? (i := 43) (show (tbs 6)[43]? = some (Cond.code ym_117 prog_13_method_12_code 3 none) from rfl))
theorem cw_118 : cwP 118 := tbs_in 6 (List.mem_of_getElem? (i := 10) (show (tbs 6)[10]? = some (Cond.code ym_118 prog_13_method_13_code 2 none) from rfl))
theorem cw_119 : cwP 119 := tbs_in 6 (List.mem_of_getElem? (i := 55) (show (tbs 6)[55]? = some (Cond.code ym_119 prog_13_method_14_code 2 none) from rfl))
theorem cw_120 : cwP 120 := tbs_in 6 (List.mem_of_getElem? (i := 66) (show (tbs 6)[66]? = some (Cond.code ym_120 prog_13_method_15_code 2 (some .boolean)) from rfl))
theorem cw_121 : cwP 121 := tbs_in 6 (List.mem_of_getElem? (i := 70) (show (tbs 6)[70]? = some (Cond.code ym_121 prog_13_method_16_code 2 (some .boolean)) from rfl))
theorem cw_122 : cwP 122 := tbs_in 6 (List.mem_of_getElem? (i := 47) (show (tbs 6)[47]? = some (Cond.code ym_122 prog_13_method_17_code 1 (some .boolean)) from rfl))
theorem cw_123 : cwP 123 := tbs_in 6 (List.mem_of_getElem? (i := 62) (show (tbs 6)[62]? = some (Cond.code ym_123 prog_13_method_18_code 4 (some .int)) from rfl))
theorem cw_124 : cwP 124 := tbs_in 6 (List.mem_of_getElem? (i := 59) (show (tbs 6)[59]? = some (Cond.code ym_124 prog_13_method_19_code 2 (some .int)) from rfl))
theorem cw_125 : cwP 125 := tbs_in 6 (List.mem_of_getElem? (i := 82) (show (tbs 6)[82]? = some (Cond.code ym_125 prog_13_method_20_code 2 (some .int)) from rfl))
theorem cw_126 : cwP 126 := tbs_in 6 (List.mem_of_getElem? (i := 78) (show (tbs 6)[78]? = some (Cond.code ym_126 prog_13_method_21_code 3 none) from rfl))
theorem cw_127 : cwP 127 := tbs_in 6 (List.mem_of_getElem? (i := 86) (show (tbs 6)[86]? = some (Cond.code ym_127 prog_13_method_22_code 2 (some .int)) from rfl))
theorem cw_128 : cwP 128 := tbs_in 6 (List.mem_of_getElem? (i := 90) (show (tbs 6)[90]? = some (Cond.code ym_128 prog_13_method_23_code 3 (some .int)) from rfl))
theorem cw_129 : cwP 129 := tbs_in 6 (List.mem_of_getElem? (i := 51) (show (tbs 6)[51]? = some (Cond.code ym_129 prog_13_method_24_code 4 none) from rfl))
theorem cw_130 : cwP 130 := tbs_in 6 (List.mem_of_getElem? (i := 74) (show (tbs 6)[74]? = some (Cond.code ym_130 prog_13_method_25_code 4 none) from rfl))
theorem cw_131 : cwP 131 := tbs_in 6 (List.mem_of_getElem? (i := 94) (show (tbs 6)[94]? = some (Cond.code ym_131 prog_13_method_26_code 5 none) from rfl))
theorem cw_132 : cwP 132 := tbs_in 6 (List.mem_of_getElem? (i := 102) (show (tbs 6)[102]? = some (Cond.code ym_132 prog_13_method_27_code 5 (some .int)) from rfl))
theorem cw_133 : cwP 133 := tbs_in 6 (List.mem_of_getElem? (i := 98) (show (tbs 6)[98]? = some (Cond.code ym_133 prog_13_method_28_code 5 none) from rfl))
theorem cw_134 : cwP 134 := tbs_in 6 (List.mem_of_getElem? (i := 146) (show (tbs 6)[146]? = some (Cond.code ym_134 prog_13_method_29_code 1 none) from rfl))
theorem cw_135 : cwP 135 := tbs_in 6 (List.mem_of_getElem? (i := 6) (show (tbs 6)[6]? = some (Cond.code ym_135 prog_13_method_30_code 1 none) from rfl))
theorem cw_136 : cwP 136 := tbs_in 6 (List.mem_of_getElem? (i := 114) (show (tbs 6)[114]? = some (Cond.code ym_136 prog_13_method_31_code 5 none) from rfl))
theorem cw_137 : cwP 137 := tbs_in 6 (List.mem_of_getElem? (i := 110) (show (tbs 6)[110]? = some (Cond.code ym_137 prog_13_method_32_code 1 none) from rfl))
theorem cw_138 : cwP 138 := tbs_in 6 (List.mem_of_getElem? (i := 118) (show (tbs 6)[118]? = some (Cond.code ym_138 prog_13_method_33_code 1 none) from rfl))
theorem cw_139 : cwP 139 := tbs_in 6 (List.mem_of_getElem? (i := 106) (show (tbs 6)[106]? = some (Cond.code ym_139 prog_13_method_34_code 2 (some .long)) from rfl))
theorem cw_140 : cwP 140 := tbs_in 6 (List.mem_of_getElem? (i := 122) (show (tbs 6)[122]? = some (Cond.code ym_140 prog_13_method_35_code 5 (some .int)) from rfl))
theorem cw_141 : cwP 141 := tbs_in 6 (List.mem_of_getElem? (i := 130) (show (tbs 6)[130]? = some (Cond.code ym_141 prog_13_method_36_code 4 (some .int)) from rfl))
theorem cw_142 : cwP 142 := tbs_in 6 (List.mem_of_getElem? (i := 134) (show (tbs 6)[134]? = some (Cond.code ym_142 prog_13_method_37_code 3 (some .boolean)) from rfl))
theorem cw_143 : cwP 143 := tbs_in 6 (List.mem_of_getElem? (i := 126) (show (tbs 6)[126]? = some (Cond.code ym_143 prog_13_method_38_code 8 none) from rfl))
theorem cw_144 : cwP 144 := tbs_in 6 (List.mem_of_getElem? (i := 138) (show (tbs 6)[138]? = some (Cond.code ym_144 prog_13_method_39_code 1 (some .int)) from rfl))
theorem cw_145 : cwP 145 := tbs_in 6 (List.mem_of_getElem? (i := 142) (show (tbs 6)[142]? = some (Cond.code ym_145 prog_13_method_40_code 5 none) from rfl))
theorem cw_146 : cwP 146 := tbs_in 6 (List.mem_of_getElem? (i := 171) (show (tbs 6)[171]? = some (Cond.code ym_146 prog_13_method_41_code 4 none) from rfl))
theorem cw_147 : cwP 147 := tbs_in 6 (List.mem_of_getElem? (i := 179) (show (tbs 6)[179]? = some (Cond.code ym_147 prog_13_method_42_code 2 (some .int)) from rfl))
theorem cw_148 : cwP 148 := tbs_in 6 (List.mem_of_getElem? (i := 175) (show (tbs 6)[175]? = some (Cond.code ym_148 prog_13_method_43_code 6 (some .int)) from rfl))
theorem cw_149 : cwP 149 := tbs_in 6 (List.mem_of_getElem? (i := 183) (show (tbs 6)[183]? = some (Cond.code ym_149 prog_13_method_44_code 4 none) from rfl))
theorem cw_150 : cwP 150 := tbs_in 6 (List.mem_of_getElem? (i := 187) (show (tbs 6)[187]? = some (Cond.code ym_150 prog_13_method_45_code 6 none) from rfl))
theorem cw_151 : cwP 151 := tbs_in 6 (List.mem_of_getElem? (i := 167) (show (tbs 6)[167]? = some (Cond.code ym_151 prog_13_method_46_code 5 none) from rfl))
theorem cw_152 : cwP 152 := tbs_in 6 (List.mem_of_getElem? (i := 192) (show (tbs 6)[192]? = some (Cond.code ym_152 prog_13_method_47_code 4 (some .int)) from rfl))
theorem cw_153 : cwP 153 := tbs_in 6 (List.mem_of_getElem? (i := 196) (show (tbs 6)[196]? = some (Cond.code ym_153 prog_13_method_48_code 3 (some .int)) from rfl))
theorem cw_154 : cwP 154 := tbs_in 6 (List.mem_of_getElem? (i := 200) (show (tbs 6)[200]? = some (Cond.code ym_154 prog_13_method_49_code 6 (some .int)) from rfl))
theorem cw_155 : cwP 155 := tbs_in 6 (List.mem_of_getElem? (i := 150) (show (tbs 6)[150]? = some (Cond.code ym_155 prog_13_method_50_code 2 (some .int)) from rfl))
theorem cw_156 : cwP 156 := tbs_in 6 (List.mem_of_getElem? (i := 2) (show (tbs 6)[2]? = some (Cond.code ym_156 prog_13_method_51_code 6 (some .int)) from rfl))
theorem cw_157 : cwP 157 := tbs_in 6 (List.mem_of_getElem? (i := 155) (show (tbs 6)[155]? = some (Cond.code ym_157 prog_13_method_52_code 2 none) from rfl))
theorem cw_158 : cwP 158 := tbs_in 6 (List.mem_of_getElem? (i := 159) (show (tbs 6)[159]? = some (Cond.code ym_158 prog_13_method_53_code 7 none) from rfl))
theorem cw_159 : cwP 159 := tbs_in 6 (List.mem_of_getElem? (i := 163) (show (tbs 6)[163]? = some (Cond.code ym_159 prog_13_method_54_code 6 none) from rfl))
theorem cw_160 : cwP 160 := tbs_in 6 (List.mem_of_getElem? (i := 208) (show (tbs 6)[208]? = some (Cond.code ym_160 prog_13_method_55_code 5 (some .int)) from rfl))
theorem cw_161 : cwP 161 := tbs_in 6 (List.mem_of_getElem? (i := 204) (show (tbs 6)[204]? = some (Cond.code ym_161 prog_13_method_56_code 4 (some .int)) from rfl))
theorem cw_162 : cwP 162 := tbs_in 6 (List.mem_of_getElem? (i := 213) (show (tbs 6)[213]? = some (Cond.code ym_162 prog_13_method_57_code 3 (some .int)) from rfl))
theorem cw_163 : cwP 163 := tbs_in 6 (List.mem_of_getElem? (i := 221) (show (tbs 6)[221]? = some (Cond.code ym_163 prog_13_method_58_code 3 (some .boolean)) from rfl))
theorem cw_164 : cwP 164 := tbs_in 6 (List.mem_of_getElem? (i := 225) (show (tbs 6)[225]? = some (Cond.code ym_164 prog_13_method_59_code 6 (some .int)) from rfl))
theorem cw_165 : cwP 165 := tbs_in 6 (List.mem_of_getElem? (i := 217) (show (tbs 6)[217]? = some (Cond.code ym_165 prog_13_method_60_code 4 (some .int)) from rfl))
theorem cw_166 : cwP 166 := tbs_in 6 (List.mem_of_getElem? (i := 229) (show (tbs 6)[229]? = some (Cond.code ym_166 prog_13_method_61_code 4 (some .int)) from rfl))
theorem cw_167 : cwP 167 := tbs_in 6 (List.mem_of_getElem? (i := 237) (show (tbs 6)[237]? = some (Cond.code ym_167 prog_13_method_62_code 2 (some .boolean)) from rfl))
theorem cw_168 : cwP 168 := tbs_in 7 (List.mem_of_getElem? (i := 5) (show (tbs 7)[5]? = some (Cond.code ym_168 prog_13_method_63_code 2 (some .boolean)) from rfl))
theorem cw_169 : cwP 169 := tbs_in 6 (List.mem_of_getElem? (i := 233) (show (tbs 6)[233]? = some (Cond.code ym_169 prog_13_method_64_code 3 (some .int)) from rfl))
theorem cw_170 : cwP 170 := tbs_in 7 (List.mem_of_getElem? (i := 1) (show (tbs 7)[1]? = some (Cond.code ym_170 prog_13_method_65_code 3 (some .int)) from rfl))
theorem cw_171 : cwP 171 := tbs_in 7 (List.mem_of_getElem? (i := 9) (show (tbs 7)[9]? = some (Cond.code ym_171 prog_13_method_66_code 3 (some .long)) from rfl))
theorem cw_172 : cwP 172 := tbs_in 7 (List.mem_of_getElem? (i := 14) (show (tbs 7)[14]? = some (Cond.code ym_172 prog_13_method_67_code 2 (some .long)) from rfl))
theorem cw_173 : cwP 173 := tbs_in 7 (List.mem_of_getElem? (i := 18) (show (tbs 7)[18]? = some (Cond.code ym_173 prog_13_method_68_code 2 (some .long)) from rfl))
theorem cw_174 : cwP 174 := tbs_in 7 (List.mem_of_getElem? (i := 23) (show (tbs 7)[23]? = some (Cond.code ym_174 prog_13_method_69_code 2 (some .int)) from rfl))
theorem cw_175 : cwP 175 := tbs_in 7 (List.mem_of_getElem? (i := 27) (show (tbs 7)[27]? = some (Cond.code ym_175 prog_13_method_70_code 4 (some .int)) from rfl))
theorem cw_176 : cwP 176 := tbs_in 7 (List.mem_of_getElem? (i := 35) (show (tbs 7)[35]? = some (Cond.code ym_176 prog_13_method_71_code 5 (some .long)) from rfl))
theorem cw_177 : cwP 177 := tbs_in 7 (List.mem_of_getElem? (i := 31) (show (tbs 7)[31]? = some (Cond.code ym_177 prog_13_method_72_code 2 (some .long)) from rfl))
theorem cw_178 : cwP 178 := tbs_in 7 (List.mem_of_getElem? (i := 43) (show (tbs 7)[43]? = some (Cond.code ym_178 prog_13_method_73_code 6 (some .boolean)) from rfl))
theorem cw_179 : cwP 179 := tbs_in 7 (List.mem_of_getElem? (i := 39) (show (tbs 7)[39]? = some (Cond.code ym_179 prog_13_method_74_code 2 (some .int)) from rfl))
theorem cw_180 : cwP 180 := tbs_in 7 (List.mem_of_getElem? (i := 47) (show (tbs 7)[47]? = some (Cond.code ym_180 prog_13_method_75_code 4 (some .int)) from rfl))
theorem cw_181 : cwP 181 := tbs_in 7 (List.mem_of_getElem? (i := 51) (show (tbs 7)[51]? = some (Cond.code ym_181 prog_13_method_76_code 4 (some .long)) from rfl))
theorem cw_182 : cwP 182 := tbs_in 7 (List.mem_of_getElem? (i := 63) (show (tbs 7)[63]? = some (Cond.code ym_182 prog_13_method_77_code 2 none) from rfl))
theorem cw_183 : cwP 183 := tbs_in 7 (List.mem_of_getElem? (i := 59) (show (tbs 7)[59]? = some (Cond.code ym_183 prog_13_method_78_code 3 none) from rfl))
theorem cw_184 : cwP 184 := tbs_in 7 (List.mem_of_getElem? (i := 71) (show (tbs 7)[71]? = some (Cond.code ym_184 prog_13_method_79_code 7 none) from rfl))
theorem cw_185 : cwP 185 := tbs_in 7 (List.mem_of_getElem? (i := 67) (show (tbs 7)[67]? = some (Cond.code ym_185 prog_13_method_80_code 5 none) from rfl))
theorem cw_186 : cwP 186 := tbs_in 7 (List.mem_of_getElem? (i := 55) (show (tbs 7)[55]? = some (Cond.code ym_186 prog_13_method_81_code 4 (some .int)) from rfl))
theorem cw_187 : cwP 187 := tbs_in 7 (List.mem_of_getElem? (i := 76) (show (tbs 7)[76]? = some (Cond.code ym_187 prog_13_method_82_code 2 (some .int)) from rfl))
theorem cw_188 : cwP 188 := tbs_in 4 (List.mem_of_getElem? (i := 133) (show (tbs 4)[133]? = some (Cond.code ym_188 prog_15_method_42_code 4 (some .int)) from rfl))
theorem cw_189 : cwP 189 := tbs_in 2 (List.mem_of_getElem? (i := 158) (show (tbs 2)[158]? = some (Cond.code ym_189 prog_17_method_54_code 1 (some .int)) from rfl))
theorem cw_190 : cwP 190 := tbs_in 4 (List.mem_of_getElem? (i := 160) (show (tbs 4)[160]? = some (Cond.code ym_190 prog_17_method_56_code 2 (some .char)) from rfl))
theorem cw_191 : cwP 191 := tbs_in 2 (List.mem_of_getElem? (i := 144) (show (tbs 2)[144]? = some (Cond.code ym_191 prog_17_method_79_code 2 (some .int)) from rfl))
theorem cw_192 : cwP 192 := tbs_in 2 (List.mem_of_getElem? (i := 148) (show (tbs 2)[148]? = some (Cond.code ym_192 prog_17_method_80_code 3 (some .int)) from rfl))
theorem cw_193 : cwP 193 := tbs_in 2 (List.mem_of_getElem? (i := 162) (show (tbs 2)[162]? = some (Cond.code ym_193 prog_17_method_152_code 1 (some .byte)) from rfl))
theorem cw_194 : cwP 194 := tbs_in 2 (List.mem_of_getElem? (i := 152) (show (tbs 2)[152]? = some (Cond.code ym_194 prog_17_method_154_code 1 (some .boolean)) from rfl))
theorem cw_195 : cwP 195 := tbs_in 4 (List.mem_of_getElem? (i := 166) (show (tbs 4)[166]? = some (Cond.code ym_195 prog_17_method_155_code 2 none) from rfl))
theorem cw_196 : cwP 196 := tbs_in 4 (List.mem_of_getElem? (i := 163) (show (tbs 4)[163]? = some (Cond.code ym_196 prog_18_method_2_code 2 (some .char)) from rfl))
theorem cw_197 : cwP 197 := tbs_in 2 (List.mem_of_getElem? (i := 168) (show (tbs 2)[168]? = some (Cond.code ym_197 prog_18_method_4_code 1 (some .boolean)) from rfl))
theorem cw_198 : cwP 198 := tbs_in 2 (List.mem_of_getElem? (i := 165) (show (tbs 2)[165]? = some (Cond.code ym_198 prog_18_method_22_code 4 (some .int)) from rfl))
theorem cw_199 : cwP 199 := tbs_in 2 (List.mem_of_getElem? (i := 175) (show (tbs 2)[175]? = some (Cond.code ym_199 prog_18_method_23_code 6 (some .int)) from rfl))
theorem cw_200 : cwP 200 := tbs_in 4 (List.mem_of_getElem? (i := 10) (show (tbs 4)[10]? = some (Cond.code ym_200 prog_20_method_101_code 5 none) from rfl))
theorem cw_201 : cwP 201 := tbs_in 4 (List.mem_of_getElem? (i := 169) (show (tbs 4)[169]? = some (Cond.code ym_201 prog_21_method_11_code 3 (some .int)) from rfl))
theorem cwA_0 : alP cwP 0 25 := ⟨cw_0, cw_1, cw_2, cw_3, cw_4, cw_5, cw_6, cw_7, cw_8, cw_9, cw_10, cw_11, cw_12, cw_13, cw_14, cw_15, cw_16, cw_17, cw_18, cw_19, cw_20, cw_21, cw_22, cw_23, cw_24, trivial⟩
theorem cwA_25 : alP cwP 25 25 := ⟨cw_25, cw_26, cw_27, cw_28, cw_29, cw_30, cw_31, cw_32, cw_33, cw_34, cw_35, cw_36, cw_37, cw_38, cw_39, cw_40, cw_41, cw_42, cw_43, cw_44, cw_45, cw_46, cw_47, cw_48, cw_49, trivial⟩
theorem cwA_50 : alP cwP 50 25 := ⟨cw_50, cw_51, cw_52, cw_53, cw_54, cw_55, cw_56, cw_57, cw_58, cw_59, cw_60, cw_61, cw_62, cw_63, cw_64, cw_65, cw_66, cw_67, cw_68, cw_69, cw_70, cw_71, cw_72, cw_73, cw_74, trivial⟩
theorem cwA_75 : alP cwP 75 25 := ⟨cw_75, cw_76, cw_77, cw_78, cw_79, cw_80, cw_81, cw_82, cw_83, cw_84, cw_85, cw_86, cw_87, cw_88, cw_89, cw_90, cw_91, cw_92, cw_93, cw_94, cw_95, cw_96, cw_97, cw_98, cw_99, trivial⟩
theorem cwA_100 : alP cwP 100 25 := ⟨cw_100, cw_101, cw_102, cw_103, cw_104, cw_105, cw_106, cw_107, cw_108, cw_109, cw_110, cw_111, cw_112, cw_113, cw_114, cw_115, cw_116, cw_117, cw_118, cw_119, cw_120, cw_121, cw_122, cw_123, cw_124, trivial⟩
theorem cwA_125 : alP cwP 125 25 := ⟨cw_125, cw_126, cw_127, cw_128, cw_129, cw_130, cw_131, cw_132, cw_133, cw_134, cw_135, cw_136, cw_137, cw_138, cw_139, cw_140, cw_141, cw_142, cw_143, cw_144, cw_145, cw_146, cw_147, cw_148, cw_149, trivial⟩
theorem cwA_150 : alP cwP 150 25 := ⟨cw_150, cw_151, cw_152, cw_153, cw_154, cw_155, cw_156, cw_157, cw_158, cw_159, cw_160, cw_161, cw_162, cw_163, cw_164, cw_165, cw_166, cw_167, cw_168, cw_169, cw_170, cw_171, cw_172, cw_173, cw_174, trivial⟩
theorem cwA_175 : alP cwP 175 25 := ⟨cw_175, cw_176, cw_177, cw_178, cw_179, cw_180, cw_181, cw_182, cw_183, cw_184, cw_185, cw_186, cw_187, cw_188, cw_189, cw_190, cw_191, cw_192, cw_193, cw_194, cw_195, cw_196, cw_197, cw_198, cw_199, trivial⟩
theorem cwA_200 : alP cwP 200 2 := ⟨cw_200, cw_201, trivial⟩
theorem cw_all {y : Nat} (h : y < 202) : cwP y := by
  by_cases h0 : y < 25
  · exact alP_e cwA_0 y (by omega) (by omega)
  by_cases h25 : y < 50
  · exact alP_e cwA_25 y (by omega) (by omega)
  by_cases h50 : y < 75
  · exact alP_e cwA_50 y (by omega) (by omega)
  by_cases h75 : y < 100
  · exact alP_e cwA_75 y (by omega) (by omega)
  by_cases h100 : y < 125
  · exact alP_e cwA_100 y (by omega) (by omega)
  by_cases h125 : y < 150
  · exact alP_e cwA_125 y (by omega) (by omega)
  by_cases h150 : y < 175
  · exact alP_e cwA_150 y (by omega) (by omega)
  by_cases h175 : y < 200
  · exact alP_e cwA_175 y (by omega) (by omega)
  by_cases h200 : y < 202
  · exact alP_e cwA_200 y (by omega) (by omega)
  · omega
end
section
set_option maxRecDepth 100000 in
theorem lkF_ck : ckAll lkF ckF = true := by decide +kernel
set_option maxRecDepth 100000 in
theorem lkM_ck : ckAll lkM ckM = true := by decide +kernel
set_option maxRecDepth 100000 in
theorem lkN_ck : ckAll lkN ckN = true := by decide +kernel
set_option maxRecDepth 100000 in
theorem lkC_ck : ckAll lkC ckC = true := by decide +kernel
set_option maxRecDepth 100000 in
theorem lkI_ck : ckAll lkI ckI = true := by decide +kernel
set_option maxRecDepth 100000 in
theorem lkL_ck : ckAll lkL ckL = true := by decide +kernel
set_option maxRecDepth 100000 in
theorem lkS_ck : ckAll lkS ckS = true := by decide +kernel
set_option maxRecDepth 100000 in
theorem lkG_ck : ckAll lkG ckG = true := by decide +kernel
/-! the methods' words -/
def ckY (y : Nat) : Bool :=
  (at_ (mpL.getD y (0, 0, 0, 0)).2.2.1 (.initialized (mT y).1.cls) && (decide ((mT y).1.cls ≠ "java/lang/invoke/MethodHandle" ∧ (mT y).1.cls ≠ "java/lang/invoke/VarHandle") &&
  (Nat.ble (mT y).2.2.1 90 && (decide ((mT y).1.cls = oR (mT y).2.2.2.2.1) && plainName (mT y).1.cls))))
def ckK (y : Nat) : Bool :=
  bif Nat.beq (mT y).2.2.2.2.2.2 1 then at_ (mpL.getD y (0, 0, 0, 0)).2.1 (.static (mT y).1) && decide ((parseMethodDescriptor (mT y).1.desc).map (fun d => d.parameters.length) = some (mT y).2.2.2.2.2.1)
  else bif Nat.beq (mT y).2.2.2.2.2.2 0 then at_ (mpL.getD y (0, 0, 0, 0)).2.1 (.instanceMethod (mT y).1) && (at_ (mpL.getD y (0, 0, 0, 0)).2.2.2 (.selects (mT y).1.cls (mT y).1 (mT y).1) && (decide ((parseMethodDescriptor (mT y).1.desc).map (fun d => d.parameters.length + 1) = some (mT y).2.2.2.2.2.1) && Nat.ble (mT y).2.2.2.2.1 12))
  else at_ (mpL.getD y (0, 0, 0, 0)).2.1 (.instanceMethod (mT y).1) && (decide ((mT y).1.name = "<init>") && (decide ((mT y).2.2.2.1 = none) && decide ((parseMethodDescriptor (mT y).1.desc).map (fun d => d.parameters.length + 1) = some (mT y).2.2.2.2.2.1)))
set_option maxRecDepth 100000 in
theorem ckY_all : (List.range 202).all ckY = true := by decide +kernel
set_option maxRecDepth 100000 in
theorem ckK_all : (List.range 202).all ckK = true := by decide +kernel
theorem mOK_of {y : Nat} (h : y < 202) : mOK y := by
  have q := List.all_eq_true.mp ckY_all y (List.mem_range.mpr h)
  unfold ckY at q
  simp only [Bool.and_eq_true, decide_eq_true_eq] at q
  exact ⟨gw_of (cw_all h) rfl, gw_of (at_in q.1) rfl, q.2.1, Nat.le_of_ble_eq_true q.2.2.1, q.2.2.2.1, q.2.2.2.2⟩
theorem mSt_of {y : Nat} (h : y < 202) (hk : (mT y).2.2.2.2.2.2 = 1) : mSt y := by
  have q := List.all_eq_true.mp ckK_all y (List.mem_range.mpr h)
  unfold ckK at q
  rw [hk] at q
  simp only [Nat.beq, cond_true, Bool.and_eq_true, decide_eq_true_eq] at q
  exact ⟨mOK_of h, gw_of (at_in q.1) rfl, q.2⟩
theorem mVi_of {y : Nat} (h : y < 202) (hk : (mT y).2.2.2.2.2.2 = 0) : mVi y := by
  have q := List.all_eq_true.mp ckK_all y (List.mem_range.mpr h)
  unfold ckK at q
  rw [hk] at q
  simp only [Nat.beq, cond_true, cond_false, Bool.and_eq_true, decide_eq_true_eq] at q
  exact ⟨mOK_of h, gw_of (at_in q.1) rfl, gw_of (at_in q.2.1) rfl, q.2.2.1, Nat.le_of_ble_eq_true q.2.2.2⟩
theorem mSp_of {y : Nat} (h : y < 202) (hk : (mT y).2.2.2.2.2.2 = 2) : mSp y := by
  have q := List.all_eq_true.mp ckK_all y (List.mem_range.mpr h)
  unfold ckK at q
  rw [hk] at q
  simp only [Nat.beq, cond_true, cond_false, Bool.and_eq_true, decide_eq_true_eq] at q
  exact ⟨mOK_of h, gw_of (at_in q.1) rfl, q.2.1, q.2.2.1, q.2.2.2⟩
end
section
/-! new long[n][k] -/
/-- the row of references when i rows are made -/
def mulR (h0 i : Nat) : Nat → Value := fun j => if j < i then .ref (h0 + 1 + j) else .null
/-- the state when i rows are made -/
def mfl (T : State) (cA comp : ClassId) (N M : Nat) : Nat → State
  | 0 => T.pushCell (arrV cA N (mulR T.heap.size 0))
  | i + 1 => ((mfl T cA comp N M i).pushCell (arrV comp M (fun _ => .long 0))).setCell T.heap.size (arrV cA N (mulR T.heap.size (i + 1)))
def mulAt (cA comp : ClassId) (N M h0 : Nat) (H : Heap) (i : Nat) (G : Heap) : Prop :=
  G.size = h0 + 1 + i ∧ G[h0]? = some (arrV cA N (mulR h0 i)) ∧ (∀ j, j < i → G[h0 + 1 + j]? = some (arrV comp M (fun _ => .long 0))) ∧ ∀ x, x < h0 → G[x]? = H[x]?
theorem mulR_up (h0 i : Nat) : updV (mulR h0 i) i (.ref (h0 + 1 + i)) = mulR h0 (i + 1) := by
  funext j
  unfold updV mulR
  by_cases e : j = i
  · rw [if_pos e, if_pos (by omega), e]
  · rw [if_neg e]
    by_cases q : j < i
    · rw [if_pos q, if_pos (by omega)]
    · rw [if_neg q, if_neg (by omega)]
theorem mfl_at (T : State) (cA comp : ClassId) (N M : Nat) : ∀ i, mulAt cA comp N M T.heap.size T.heap i (mfl T cA comp N M i).heap ∧ (mfl T cA comp N M i).vm = T.vm ∧ (mfl T cA comp N M i).slotsUsed = T.slotsUsed + N + i * M
  | 0 => ⟨⟨size_pushCell _ _, State.heap_pushCell_size _ _, fun j hj => absurd hj (Nat.not_lt_zero j), fun x hx => State.heap_pushCell_of_lt _ _ hx⟩, rfl, by simp [mfl, arrV_size]⟩
  | i + 1 => by
    obtain ⟨⟨a1, a2, a3, a4⟩, b, u⟩ := mfl_at T cA comp N M i
    have lt0 : T.heap.size < ((mfl T cA comp N M i).pushCell (arrV comp M (fun _ => .long 0))).heap.size := by rw [size_pushCell, a1]; omega
    refine ⟨⟨?_, heapAt_setCell_self _ lt0, fun j hj => ?_, fun x hx => ?_⟩, b, ?_⟩
    · show (((mfl T cA comp N M i).pushCell _).setCell _ _).heap.size = _
      rw [size_setCell, size_pushCell, a1]; omega
    · show (((mfl T cA comp N M i).pushCell _).setCell _ _).heap[T.heap.size + 1 + j]? = _
      rw [heapAt_setCell_ne _ (show T.heap.size ≠ T.heap.size + 1 + j by omega)]
      by_cases e : j = i
      · rw [e, ← a1]; exact State.heap_pushCell_size _ _
      · have q : T.heap.size + 1 + j < (mfl T cA comp N M i).heap.size := by rw [a1]; omega
        rw [State.heap_pushCell_of_lt (h := q)]
        exact a3 j (by omega)
    · show (((mfl T cA comp N M i).pushCell _).setCell _ _).heap[x]? = _
      have q : x < (mfl T cA comp N M i).heap.size := by rw [a1]; omega
      rw [heapAt_setCell_ne _ (show T.heap.size ≠ x by omega), State.heap_pushCell_of_lt (h := q)]
      exact a4 x hx
    · simp [mfl, u, arrV_size, Nat.succ_mul]; omega
theorem mfl_top (T : State) (f : JFrame) (cA comp : ClassId) (N M : Nat) : ∀ i, mfl (T.setTop f) cA comp N M i = (mfl T cA comp N M i).setTop f
  | 0 => rfl
  | i + 1 => by simp only [mfl, mfl_top T f cA comp N M i, State.heap_setTop, State.pushCell_setTop, State.setCell_setTop]
section MUL
variable {D : jD} {p : Program} {l : Launch} {e : Env} {R : Room} {s : State} {m : MethodId} {args : Array Value} {below : List Frame} {meth : Method} {c : Code} {Q : State → Prop} {x0 u0 y : Nat}
variable {cl : Nat → List AV → AH → Option AV → AH → Prop} {K : Nat → List AV → List AV → AH → Prop} {Rt : Option AV → AH → Prop} {pc len : Nat} {loc stk : List AV} {h : AH}
theorem mul_word : Cond.classLink RX3 9 ("[" ++ (FieldType.array .long).toString) ∈ gw := gw_of (by decide +kernel) rfl
theorem mfl_stand {T : State} {locs : List Loc} {cells slots : Nat} (X : Stand p l e R s m args below meth c T locs cells slots) (cA comp : ClassId) (N M : Nat) : ∀ i, ∃ L, (∀ q ∈ L, q.base = T.heap.size) ∧ Stand p l e R s m args below meth c (mfl T cA comp N M i) (locs ++ L) (cells + 1 + i) (slots + N + i * M)
  | 0 => by
    have h := X.pushed (arrV cA N (mulR T.heap.size 0))
    rw [arrV_size] at h
    exact ⟨[], (fun q hq => by cases hq), by simpa [mfl] using h⟩
  | i + 1 => by
    obtain ⟨L, hL, Xi⟩ := mfl_stand X cA comp N M i
    obtain ⟨⟨a1, a2, a3, a4⟩, b, u⟩ := mfl_at T cA comp N M i
    have hc : ((mfl T cA comp N M i).pushCell (arrV comp M (fun _ => .long 0))).heap[T.heap.size]? = some (arrV cA N (mulR T.heap.size i)) := by
      have q : T.heap.size < (mfl T cA comp N M i).heap.size := by rw [a1]; omega
      rw [State.heap_pushCell_of_lt (h := q)]; exact a2
    have h := (Xi.pushed (arrV comp M (fun _ => .long 0))).stored hc i (.ref (T.heap.size + 1 + i))
    rw [arrV_size, arrV_store, mulR_up, List.append_assoc] at h
    refine ⟨L ++ [⟨T.heap.size, i⟩], fun q hq => ?_, ?_⟩
    · rcases List.mem_append.mp hq with q1 | q1
      · exact hL q q1
      · rw [List.mem_singleton] at q1
        rw [q1]
    · rw [show slots + N + (i + 1) * M = slots + N + i * M + M by rw [Nat.succ_mul]; omega]
      exact h
theorem mul_wp {E : CtlPost} {d : Bool} {acts : List Action} {T : State} {cA comp cc : ClassId} {kA kC : Class} {n k : Int32} (hkA : T.vm.classes[cA]? = some kA) (hkindA : kA.kind = .array comp (.array .long)) (hkC : T.vm.classes[comp]? = some kC) (hkindC : kC.kind = .array cc .long) (hn : ¬ n < 0) (hk : ¬ k < 0)
    (hl1 : ¬ n.toNatClampNeg > e.platform.arrayLengthLimit) (hh1 : ¬ n.toNatClampNeg * componentBytes (.array .long) > e.platform.maxHeapBytes) (hl2 : ¬ k.toNatClampNeg > e.platform.arrayLengthLimit) (hh2 : ¬ k.toNatClampNeg * componentBytes .long > e.platform.maxHeapBytes)
    (hc : T.heap.size + 1 + n.toNatClampNeg ≤ e.platform.maxCells) (hs : T.slotsUsed + n.toNatClampNeg + n.toNatClampNeg * k.toNatClampNeg ≤ e.platform.maxSlots) {Z : Addr → Pre} (hq : ∀ d' acts', Z T.heap.size d' acts' (mfl T cA comp n.toNatClampNeg k.toNatClampNeg n.toNatClampNeg)) :
    wp (multianewarray.make cA [n, k]) Z E e d acts T := by
  have hf : ([k].find? (· < 0)) = none := by simp [hk]
  rw [multianewarray.make]
  simp only [wp_bind', W.ite, hn, if_false, wp_pure', W.theClass, hkA, hkindA, Option.some.injEq, exists_eq_left']
  refine W.newArray_of hkA hkindA hl1 hh1 (by omega) (by have := Nat.zero_le (n.toNatClampNeg * k.toNatClampNeg); omega) rfl (fun acts1 => ?_)
  have e0 : ({ cls := cA, slots := Array.replicate n.toNatClampNeg Value.null } : Cell) = arrV cA n.toNatClampNeg (mulR T.heap.size 0) := by
    rw [show ({ cls := cA, slots := Array.replicate n.toNatClampNeg Value.null } : Cell) = { cls := cA, slots := Array.replicate n.toNatClampNeg Value.null, vm := .none } from rfl, arrV_new]
    rfl
  rw [e0]
  simp only [hf]
  rw [ite_self, wp_bind', Std.Legacy.Range.forIn_eq_forIn_range']
  rw [show ([:n.toNatClampNeg] : Std.Legacy.Range).size = n.toNatClampNeg by simp [Std.Legacy.Range.size]]
  show wp (forIn (List.range' 0 n.toNatClampNeg 1) PUnit.unit _) _ E e d acts1 _
  refine wp_forIn_inv (fun rest S => ∃ i, i ≤ n.toNatClampNeg ∧ rest = List.range' i (n.toNatClampNeg - i) ∧ S = mfl T cA comp n.toNatClampNeg k.toNatClampNeg i) _ _ ⟨0, Nat.zero_le _, rfl, rfl⟩ ?_ ?_
  · rintro x rest S d2 acts2 Z2 ⟨i, hi, hl, rfl⟩ hnext
    by_cases hlt : i < n.toNatClampNeg
    · rw [show n.toNatClampNeg - i = (n.toNatClampNeg - (i + 1)) + 1 by omega, List.range'_succ] at hl
      obtain ⟨rfl, hrest⟩ := List.cons.inj hl
      obtain ⟨⟨a1, a2, a3, a4⟩, b, u⟩ := mfl_at T cA comp n.toNatClampNeg k.toNatClampNeg x
      have hmul : x * k.toNatClampNeg + k.toNatClampNeg ≤ n.toNatClampNeg * k.toNatClampNeg := by
        have := Nat.mul_le_mul_right k.toNatClampNeg (show x + 1 ≤ n.toNatClampNeg from hlt)
        rw [Nat.succ_mul] at this; exact this
      simp only [wp_bind']
      rw [multianewarray.make]
      simp only [wp_bind', W.ite, hk, if_false, wp_pure', W.theClass, b, hkC, hkindC, Option.some.injEq, exists_eq_left']
      refine W.newArray_of (by rw [b]; exact hkC) hkindC hl2 hh2 (by rw [a1]; omega) (by rw [u]; omega) rfl (fun acts3 => ?_)
      have e1 : ({ cls := comp, slots := Array.replicate k.toNatClampNeg (defaultValue .long) } : Cell) = arrV comp k.toNatClampNeg (fun _ => .long 0) := by
        rw [show ({ cls := comp, slots := Array.replicate k.toNatClampNeg (defaultValue .long) } : Cell) = { cls := comp, slots := Array.replicate k.toNatClampNeg (.long 0), vm := .none } from rfl, arrV_new]
      rw [e1]
      simp only [wp_bind', W.writeLoc, wp_pure']
      refine ⟨arrV cA n.toNatClampNeg (mulR T.heap.size x), by
        have q : T.heap.size < (mfl T cA comp n.toNatClampNeg k.toNatClampNeg x).heap.size := by rw [a1]; omega
        rw [State.heap_pushCell_of_lt (h := q)]; exact a2, (by intro q; cases q), by rw [arrV_size]; exact hlt, ?_, hnext _ _ _ ⟨x + 1, hlt, hrest, ?_⟩⟩
      · show State.fitsSlot _ cA .none x _ = true
        simp [State.fitsSlot, State.slotType?, b, hkA, hkindA, fits]
      · rw [a1, arrV_store, mulR_up]; rfl
    · rw [show n.toNatClampNeg - i = 0 by omega] at hl
      cases hl
  · rintro S d2 acts2 ⟨i, hi, hl, rfl⟩
    have hiN : i = n.toNatClampNeg := by
      rcases Nat.lt_or_ge i n.toNatClampNeg with q | q
      · rw [show n.toNatClampNeg - i = (n.toNatClampNeg - (i + 1)) + 1 by omega, List.range'_succ] at hl
        cases hl
      · omega
    subst hiN
    simp only [wp_pure']
    exact hq _ _
theorem nm2_eq {h : AH} {n k b : Nat} (hb : ¬ (jx h ≤ b ∧ b ≤ jx h + n)) : eqat h (nm2 h n k) b := by
  have e1 : ¬ b = jx h := by omega
  have e2 : ¬ (jx h < b ∧ b ≤ jx h + n) := by omega
  refine ⟨?_, ?_, fun j => ⟨?_, ?_, ?_⟩⟩
  · show (if b = jx h then 26 else if jx h < b ∧ b ≤ jx h + n then 21 else h.1 b) = _
    rw [if_neg e1, if_neg e2]; rfl
  · show (if b = jx h then n else if jx h < b ∧ b ≤ jx h + n then k else h.2.1 b) = _
    rw [if_neg e1, if_neg e2]; rfl
  · show (if jx h ≤ b ∧ b ≤ jx h + n then 0 else h.2.2.1 b j) = _
    rw [if_neg hb]; rfl
  · show (if jx h ≤ b ∧ b ≤ jx h + n then 0 else h.2.2.2.1 b j) = _
    rw [if_neg hb]; rfl
  · show (if b = jx h then (if j < n then jx h + 1 + j else 0) else if jx h < b ∧ b ≤ jx h + n then 0 else h.2.2.2.2.1 b j) = _
    rw [if_neg e1, if_neg e2]; rfl
theorem nm2_t0 (h : AH) (n k : Nat) : jt (nm2 h n k) (jx h) = 26 ∧ jn (nm2 h n k) (jx h) = n := ⟨if_pos rfl, if_pos rfl⟩
theorem nm2_t1 (h : AH) (n k : Nat) {b : Nat} (h1 : jx h < b) (h2 : b ≤ jx h + n) : jt (nm2 h n k) b = 21 ∧ jn (nm2 h n k) b = k := by
  constructor
  · show (if b = jx h then 26 else if jx h < b ∧ b ≤ jx h + n then 21 else h.1 b) = 21
    rw [if_neg (by omega), if_pos ⟨h1, h2⟩]
  · show (if b = jx h then n else if jx h < b ∧ b ≤ jx h + n then k else h.2.1 b) = k
    rw [if_neg (by omega), if_pos ⟨h1, h2⟩]
theorem nm2_z (h : AH) (n k j : Nat) {b : Nat} (hb : jx h ≤ b ∧ b ≤ jx h + n) : ji (nm2 h n k) b j = 0 ∧ jl (nm2 h n k) b j = 0 := ⟨if_pos hb, if_pos hb⟩
theorem nm2_r (h : AH) (n k j : Nat) (hj : j < n) : jr (nm2 h n k) (jx h) j = jx h + 1 + j := by
  show (if jx h = jx h then (if j < n then jx h + 1 + j else 0) else _) = _
  rw [if_pos rfl, if_pos hj]
/-- the heap behind the instruction -/
theorem mul_M {H G : Heap} {N M : Nat} {cA comp cc : ClassId} {kA kC : Class} (hM : jM D s H h) (hN : N ≤ 1000) (hMk : M ≤ 1000) (hkA : s.vm.classes[cA]? = some kA) (hkindA : kA.kind = .array comp (.array .long)) (hkC : s.vm.classes[comp]? = some kC) (hkindC : kC.kind = .array cc .long) (hG : mulAt cA comp N M H.size H N G) : jM D s G (nm2 h N M) := by
  obtain ⟨g1, g2, g3, g4⟩ := hG
  have hx := hM.2.1.2
  have hsz := hM.2.1.1
  have r0 : r32 0 ∧ r64 0 := ⟨r32_0, by unfold r64; omega⟩
  refine hM.upd (fun b => jx h ≤ b ∧ b ≤ jx h + N) (fun b hb => nm2_eq hb) (fun b hb => ?_) (by rw [g1, hsz]; show _ = _ + (jx h + 1 + N - 32); omega) (by show jx h ≤ jx h + 1 + N; omega) (fun q hq _ => g4 q hq)
  refine ⟨by omega, ?_, ?_, by show b < jx h + 1 + N; omega, fun j => by rw [(nm2_z h N M j hb).1, (nm2_z h N M j hb).2]; exact r0⟩
  · by_cases e0 : b = jx h
    · subst e0
      obtain ⟨t1, t2⟩ := nm2_t0 h N M
      unfold jC
      rw [t1, t2, hM.next]
      refine ⟨fun t => by omega, fun _ _ => ⟨_, g2, ⟨fun k q => (by cases q), kA, hkA, comp, hkindA⟩, (fun q => by cases q), ⟨Nat.le_of_eq (arrV_size _ _ _).symm, by rw [arrV_size]⟩, by omega, fun k hk => ?_, fun t => by omega⟩, fun t => by omega⟩
      rw [arrV_read _ _ hk]
      show some (mulR H.size N k) = some (jVp D (jr (nm2 h N M) (jx h) k))
      rw [nm2_r h N M k hk, jVp_2 (by omega), jA_new (by omega)]
      unfold mulR
      rw [if_pos hk, hsz, show D.2.2.2.2 + (jx h - 32) + 1 + k = D.2.2.2.2 + (jx h + 1 + k - 32) by omega]
    · obtain ⟨t1, t2⟩ := nm2_t1 h N M (b := b) (by omega) (by omega)
      have ea : jA D b = H.size + 1 + (b - (jx h + 1)) := by rw [jA_new (by omega), hsz]; omega
      unfold jC
      rw [t1, t2, ea]
      refine ⟨fun t => by omega, fun _ _ => ⟨_, g3 _ (by omega), ⟨fun k q => (by cases q), kC, hkC, cc, hkindC⟩, (fun q => by cases q), ⟨Nat.le_of_eq (arrV_size _ _ _).symm, by rw [arrV_size]⟩, by omega, fun k hk => ?_, fun t => by omega⟩, fun t => by omega⟩
      rw [arrV_read _ _ hk]
      show some (Value.long 0) = some (Value.long (Int64.ofInt (jl (nm2 h N M) b k)))
      rw [(nm2_z h N M k hb).2]
      rfl
  · by_cases e0 : b = jx h
    · rw [e0, (nm2_t0 h N M).1]; omega
    · rw [(nm2_t1 h N M (b := b) (by omega) (by omega)).1]; omega
set_option maxHeartbeats 4000000 in
theorem st_multi (hX : jX D p s m args meth c y) (ho : (mT y).2.2.2.2.1 = 3) (hKm : ∀ pc loc stk h, K pc loc stk h → jx h - x0 ≤ R.cells ∧ ju h - u0 ≤ R.slots) (hd : decode (mT y).2.1 pc = .ok (.multianewarray 9 2, 4)) (hS : jS cl (.multianewarray 6 2) pc 4 loc stk h K Rt) (hK : ∀ pc loc stk h, K pc loc stk h → jG D p l e R s m args below meth c Q x0 u0 pc loc stk h) : jG D p l e R s m args below meth c Q x0 u0 pc loc stk h := by
  intro H ls locs hM hL hs hl hq hx0 hu0
  obtain ⟨k, r, rfl, hS⟩ := s1I_e hS
  obtain ⟨n, r, rfl, n0, n1, k0, k1, hS⟩ := s1I_e hS
  obtain ⟨hk, hs⟩ := List.forall_mem_cons.mp hs
  obtain ⟨hn, hs⟩ := List.forall_mem_cons.mp hs
  have hk : r32 k := hk
  have hn : r32 n := hn
  obtain ⟨rc, rs⟩ := hKm _ _ _ _ hS
  have rc : jx h + 1 + n.toNat - x0 ≤ R.cells := rc
  have rs : ju h + n.toNat + n.toNat * k.toNat - u0 ≤ R.slots := rs
  have en := I_clamp hn n0
  have ek := I_clamp hk k0
  have hn' : ¬ Int32.ofInt n < 0 := by rw [← I_0, I_lt hn r32_0]; omega
  have hk' : ¬ Int32.ofInt k < 0 := by rw [← I_0, I_lt hk r32_0]; omega
  intro T hT X
  subst hT
  have hown : s.vm.findClass RX3 = some m.cls := by
    have := hX.2.2.2.1
    rw [ho] at this
    exact this
  have hpl : e.platform.magicAccessors = ({} : Platform).magicAccessors := by rw [X.admits.platform]
  obtain ⟨comp, cA, kA, hcomp, hkA, hkindA, hnameA⟩ := hX.2.2.2.2.2.2.2.2.2.2.2.2.2.2
  obtain ⟨comp2, kC, cc, hcomp2, hkC, hkindC⟩ := Cond.arrayClass_spec (hX.2.2.2.2.1 _ (arr_word (t := .long) (by decide)))
  have ecomp : comp2 = comp := Option.some.inj (hcomp2.symm.trans hcomp)
  subst ecomp
  obtain ⟨c0, hfc0, hcl⟩ := Cond.classLink_spec hown (hX.2.2.2.2.1 _ mul_word) e.platform hpl
  cases hnameA.symm.trans hfc0
  obtain ⟨hg1, hwarm1, hready1⟩ := State.classEntry (e := e) X.warmed hcl
  generalize T.vm.noted m.cls 9 (.cls cA) = vm1 at hg1 hwarm1 hready1
  have hal : s.vm.Alike vm1 := hwarm1.alike
  obtain ⟨kA1, hkA1, heA⟩ := hal.2.2 _ _ hkA
  obtain ⟨kC1, hkC1, heC⟩ := hal.2.2 _ _ hkC
  have X1 := X.noted hwarm1
  have hcells : (jx h - x0) + (1 + n.toNat) ≤ R.cells := by omega
  have hslots : (ju h - u0) + (n.toNat + n.toNat * k.toNat) ≤ R.slots := by omega
  obtain ⟨hr1, hr2⟩ := X.roomAbove hcells hslots
  obtain ⟨L, hLb, X2⟩ := mfl_stand X1 cA comp2 n.toNat k.toNat n.toNat
  obtain ⟨hat, -, -⟩ := mfl_at (T.setVm vm1) cA comp2 n.toNat k.toNat n.toNat
  have hM2 : jM D s (mfl (T.setVm vm1) cA comp2 n.toNat k.toNat n.toNat).heap (nm2 h n.toNat k.toNat) := mul_M hM (by omega) (by omega) hkA hkindA hkC hkindC hat
  have e1 : jx (nm2 h n.toNat k.toNat) - x0 = (jx h - x0) + 1 + n.toNat := by show jx h + 1 + n.toNat - x0 = _; omega
  have e2 : ju (nm2 h n.toNat k.toNat) - u0 = (ju h - u0) + n.toNat + n.toNat * k.toNat := by show ju h + n.toNat + n.toNat * k.toNat - u0 = _; omega
  have gg := hK _ _ _ _ hS _ ls (locs ++ L) hM2 hL (List.forall_mem_cons.mpr ⟨trivial, hs⟩) hl (fun q hq2 => by
    rcases List.mem_append.mp hq2 with q1 | q1
    · exact hq q q1
    · rw [hLb q q1]
      show D.2.2.2.2 ≤ T.heap.size
      rw [hM.2.1.1]; omega) (by show x0 ≤ jx h + 1 + n.toNat; omega) (by show u0 ≤ ju h + n.toNat + n.toNat * k.toNat; omega)
  rw [e1, e2, List.map_cons, show jV D (jP (jx h)) = .ref T.heap.size by rw [← hM.next]; exact jVp_2 (by have := hM.2.1.2; omega)] at gg
  obtain ⟨t, a1, b1⟩ := gg _ rfl X2
  refine ⟨t, ?_, b1⟩
  have hl1 : ¬ (Int32.ofInt n).toNatClampNeg > e.platform.arrayLengthLimit := by rw [Launch.admits_arrayLengthLimit X.admits, en]; omega
  have hh1 : ¬ (Int32.ofInt n).toNatClampNeg * componentBytes (.array .long) > e.platform.maxHeapBytes := by rw [Launch.admits_maxHeapBytes X.admits, en]; show ¬ n.toNat * 4 > 536870912; omega
  have hl2 : ¬ (Int32.ofInt k).toNatClampNeg > e.platform.arrayLengthLimit := by rw [Launch.admits_arrayLengthLimit X.admits, ek]; omega
  have hh2 : ¬ (Int32.ofInt k).toNatClampNeg * componentBytes .long > e.platform.maxHeapBytes := by rw [Launch.admits_maxHeapBytes X.admits, ek]; show ¬ k.toNat * 8 > 536870912; omega
  have hdc : decode c.code pc = .ok (.multianewarray 9 2, 4) := by rw [hX.2.1]; exact hd
  jvm_step X.here [hX.1, hdc]
  simp only [multianewarray.sem, wp_bind', W.resolveClassAt_links (State.method?_setTop (F0 m pc ls (jV D (jI k) :: jV D (jI n) :: List.map (jV D) r)) X.here.top) hg1]
  rw [W.popN, if_neg (by decide)]
  refine ⟨_, State.topJava?_setTop' (s := T.setVm vm1) _ X.here.top, [.int (Int32.ofInt n), .int (Int32.ofInt k)], r.map (jV D), rfl, rfl, ?_⟩
  simp only [List.mapM_cons, List.mapM_nil, wp_bind', wp_pure']
  refine mul_wp (kA := kA1) (kC := kC1) (comp := comp2) (cc := cc) hkA1 (by rw [heA]; exact hkindA) hkC1 (by rw [heC]; exact hkindC) hn' hk' hl1 hh1 hl2 hh2 (by rw [en]; show T.heap.size + 1 + _ ≤ _; omega) (by rw [en, ek]; show T.slotsUsed + _ + _ ≤ _; omega) (fun d' acts' => ?_)
  rw [en, ek]
  have eS : ((T.setTop (F0 m pc ls (jV D (jI k) :: jV D (jI n) :: List.map (jV D) r))).setVm vm1).setTop { method := m, pc := pc, locals := ls, stack := List.map (jV D) r, locked := none } = (T.setVm vm1).setTop { method := m, pc := pc, locals := ls, stack := List.map (jV D) r, locked := none } := by
    show ((T.setVm vm1).setTop _).setTop _ = _
    rw [State.setTop_setTop]
  rw [eS, mfl_top]
  simp only [wp_bind', W.mark, W.pushRef, State.topJava?_setTop' _ X2.here.top, Option.some.injEq, exists_eq_left', State.setTop_setTop, State.heap_setTop]
  intro acts
  simp [jvm, X2.here.top]
  exact a1
end MUL
end
