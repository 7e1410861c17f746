section
-- ===== PART A: goes FIRST, ahead of the names: the tables' words, and 'selects' of the private methods out of them =====
/-- a private method of a class that the tables say can be made, by its rows of tables_1 -/
def lw_okq (q : MethodName × Nat) : Prop := (q.1.cls ≠ "java/lang/invoke/MethodHandle" ∧ q.1.cls ≠ "java/lang/invoke/VarHandle") ∧ Cond.instantiable q.1.cls q.2 ∈ tables_1 ∧ Cond.privateMethod q.1 ∈ tables_1 ∧ Cond.instanceMethod q.1 ∈ tables_1
theorem lw_p0 : lw_okq (⟨"TerrainTiler$Rules", "place", "(II)V"⟩, 6) := ⟨⟨by decide +kernel, by decide +kernel⟩, List.mem_of_getElem? (i := 61) (by decide +kernel), List.mem_of_getElem? (i := 81) (by decide +kernel), List.mem_of_getElem? (i := 82) (by decide +kernel)⟩
theorem lw_p1 : lw_okq (⟨"TerrainTiler$State", "touchBlock", "(IIII)V"⟩, 3) := ⟨⟨by decide +kernel, by decide +kernel⟩, List.mem_of_getElem? (i := 26) (by decide +kernel), List.mem_of_getElem? (i := 300) (by decide +kernel), List.mem_of_getElem? (i := 301) (by decide +kernel)⟩
theorem lw_p2 : lw_okq (⟨"TerrainTiler$Region", "meet", "(LTerrainTiler$Land;III)V"⟩, 3) := ⟨⟨by decide +kernel, by decide +kernel⟩, List.mem_of_getElem? (i := 170) (by decide +kernel), List.mem_of_getElem? (i := 442) (by decide +kernel), List.mem_of_getElem? (i := 443) (by decide +kernel)⟩
theorem lw_p3 : lw_okq (⟨"TerrainTiler$Land", "leadsTo", "(IIZ)Z"⟩, 4) := ⟨⟨by decide +kernel, by decide +kernel⟩, List.mem_of_getElem? (i := 32) (by decide +kernel), List.mem_of_getElem? (i := 509) (by decide +kernel), List.mem_of_getElem? (i := 510) (by decide +kernel)⟩
theorem lw_p4 : lw_okq (⟨"TerrainTiler", "touchAllIf", "(Z)V"⟩, 8) := ⟨⟨by decide +kernel, by decide +kernel⟩, List.mem_of_getElem? (i := 18) (by decide +kernel), List.mem_of_getElem? (i := 533) (by decide +kernel), List.mem_of_getElem? (i := 534) (by decide +kernel)⟩
theorem lw_p5 : lw_okq (⟨"TerrainTiler$Sketch", "drawLayers", "(LTerrainTiler$State;II)V"⟩, 7) := ⟨⟨by decide +kernel, by decide +kernel⟩, List.mem_of_getElem? (i := 187) (by decide +kernel), List.mem_of_getElem? (i := 611) (by decide +kernel), List.mem_of_getElem? (i := 612) (by decide +kernel)⟩
theorem lw_p6 : lw_okq (⟨"TerrainTiler$Sketch", "isRankOfCorner", "(I)Z"⟩, 7) := ⟨⟨by decide +kernel, by decide +kernel⟩, List.mem_of_getElem? (i := 187) (by decide +kernel), List.mem_of_getElem? (i := 617) (by decide +kernel), List.mem_of_getElem? (i := 618) (by decide +kernel)⟩
theorem lw_p7 : lw_okq (⟨"TerrainTiler$Sketch", "maskFrom", "(I)I"⟩, 7) := ⟨⟨by decide +kernel, by decide +kernel⟩, List.mem_of_getElem? (i := 187) (by decide +kernel), List.mem_of_getElem? (i := 622) (by decide +kernel), List.mem_of_getElem? (i := 623) (by decide +kernel)⟩
theorem lw_p8 : lw_okq (⟨"TerrainTiler$Sketch", "drawPieces", "(LTerrainTiler$Rules;IIII)V"⟩, 7) := ⟨⟨by decide +kernel, by decide +kernel⟩, List.mem_of_getElem? (i := 187) (by decide +kernel), List.mem_of_getElem? (i := 626) (by decide +kernel), List.mem_of_getElem? (i := 627) (by decide +kernel)⟩
theorem lw_p9 : lw_okq (⟨"TerrainTiler", "staleAt", "(II)I"⟩, 8) := ⟨⟨by decide +kernel, by decide +kernel⟩, List.mem_of_getElem? (i := 18) (by decide +kernel), List.mem_of_getElem? (i := 667) (by decide +kernel), List.mem_of_getElem? (i := 668) (by decide +kernel)⟩
theorem lw_p10 : lw_okq (⟨"TerrainTiler", "renew", "(II)I"⟩, 8) := ⟨⟨by decide +kernel, by decide +kernel⟩, List.mem_of_getElem? (i := 18) (by decide +kernel), List.mem_of_getElem? (i := 691) (by decide +kernel), List.mem_of_getElem? (i := 692) (by decide +kernel)⟩
theorem lw_p11 : lw_okq (⟨"TerrainTiler$Tally", "addCell", "(LTerrainTiler$Canvas;I)V"⟩, 4) := ⟨⟨by decide +kernel, by decide +kernel⟩, List.mem_of_getElem? (i := 224) (by decide +kernel), List.mem_of_getElem? (i := 712) (by decide +kernel), List.mem_of_getElem? (i := 713) (by decide +kernel)⟩
theorem lw_p12 : lw_okq (⟨"TerrainTiler$Tally", "add", "(I)V"⟩, 4) := ⟨⟨by decide +kernel, by decide +kernel⟩, List.mem_of_getElem? (i := 224) (by decide +kernel), List.mem_of_getElem? (i := 717) (by decide +kernel), List.mem_of_getElem? (i := 718) (by decide +kernel)⟩
theorem lw_p13 : lw_okq (⟨"TerrainTiler$MapReader", "accept", "(LTerrainTiler$Bytes;I)I"⟩, 5) := ⟨⟨by decide +kernel, by decide +kernel⟩, List.mem_of_getElem? (i := 263) (by decide +kernel), List.mem_of_getElem? (i := 753) (by decide +kernel), List.mem_of_getElem? (i := 754) (by decide +kernel)⟩
theorem lw_p14 : lw_okq (⟨"TerrainTiler$MapReader", "acceptNumber", "(LTerrainTiler$Bytes;I)I"⟩, 5) := ⟨⟨by decide +kernel, by decide +kernel⟩, List.mem_of_getElem? (i := 263) (by decide +kernel), List.mem_of_getElem? (i := 761) (by decide +kernel), List.mem_of_getElem? (i := 762) (by decide +kernel)⟩
theorem lw_p15 : lw_okq (⟨"TerrainTiler$MapReader", "acceptRowEnd", "()I"⟩, 5) := ⟨⟨by decide +kernel, by decide +kernel⟩, List.mem_of_getElem? (i := 263) (by decide +kernel), List.mem_of_getElem? (i := 765) (by decide +kernel), List.mem_of_getElem? (i := 766) (by decide +kernel)⟩
def lw_privs_1 : List (MethodName × Nat) := [(⟨"TerrainTiler$Rules", "place", "(II)V"⟩, 6), (⟨"TerrainTiler$State", "touchBlock", "(IIII)V"⟩, 3), (⟨"TerrainTiler$Region", "meet", "(LTerrainTiler$Land;III)V"⟩, 3), (⟨"TerrainTiler$Land", "leadsTo", "(IIZ)Z"⟩, 4), (⟨"TerrainTiler", "touchAllIf", "(Z)V"⟩, 8), (⟨"TerrainTiler$Sketch", "drawLayers", "(LTerrainTiler$State;II)V"⟩, 7), (⟨"TerrainTiler$Sketch", "isRankOfCorner", "(I)Z"⟩, 7), (⟨"TerrainTiler$Sketch", "maskFrom", "(I)I"⟩, 7), (⟨"TerrainTiler$Sketch", "drawPieces", "(LTerrainTiler$Rules;IIII)V"⟩, 7), (⟨"TerrainTiler", "staleAt", "(II)I"⟩, 8), (⟨"TerrainTiler", "renew", "(II)I"⟩, 8), (⟨"TerrainTiler$Tally", "addCell", "(LTerrainTiler$Canvas;I)V"⟩, 4), (⟨"TerrainTiler$Tally", "add", "(I)V"⟩, 4), (⟨"TerrainTiler$MapReader", "accept", "(LTerrainTiler$Bytes;I)I"⟩, 5), (⟨"TerrainTiler$MapReader", "acceptNumber", "(LTerrainTiler$Bytes;I)I"⟩, 5), (⟨"TerrainTiler$MapReader", "acceptRowEnd", "()I"⟩, 5)]
theorem lw_r1 : ∀ q ∈ lw_privs_1, lw_okq q := List.forall_mem_cons.mpr ⟨lw_p0, List.forall_mem_cons.mpr ⟨lw_p1, List.forall_mem_cons.mpr ⟨lw_p2, List.forall_mem_cons.mpr ⟨lw_p3, List.forall_mem_cons.mpr ⟨lw_p4, List.forall_mem_cons.mpr ⟨lw_p5, List.forall_mem_cons.mpr ⟨lw_p6, List.forall_mem_cons.mpr ⟨lw_p7, List.forall_mem_cons.mpr ⟨lw_p8, List.forall_mem_cons.mpr ⟨lw_p9, List.forall_mem_cons.mpr ⟨lw_p10, List.forall_mem_cons.mpr ⟨lw_p11, List.forall_mem_cons.mpr ⟨lw_p12, List.forall_mem_cons.mpr ⟨lw_p13, List.forall_mem_cons.mpr ⟨lw_p14, List.forall_mem_cons.mpr ⟨lw_p15, fun _ h => absurd h List.not_mem_nil⟩⟩⟩⟩⟩⟩⟩⟩⟩⟩⟩⟩⟩⟩⟩⟩
theorem lw_p16 : lw_okq (⟨"TerrainTiler$MapReader", "isRowWhole", "()Z"⟩, 5) := ⟨⟨by decide +kernel, by decide +kernel⟩, List.mem_of_getElem? (i := 263) (by decide +kernel), List.mem_of_getElem? (i := 769) (by decide +kernel), List.mem_of_getElem? (i := 770) (by decide +kernel)⟩
theorem lw_p17 : lw_okq (⟨"TerrainTiler$MapReader", "acceptLetter", "(I)I"⟩, 5) := ⟨⟨by decide +kernel, by decide +kernel⟩, List.mem_of_getElem? (i := 263) (by decide +kernel), List.mem_of_getElem? (i := 774) (by decide +kernel), List.mem_of_getElem? (i := 775) (by decide +kernel)⟩
theorem lw_p18 : lw_okq (⟨"TerrainTiler", "writeRow", "(I)V"⟩, 8) := ⟨⟨by decide +kernel, by decide +kernel⟩, List.mem_of_getElem? (i := 18) (by decide +kernel), List.mem_of_getElem? (i := 789) (by decide +kernel), List.mem_of_getElem? (i := 790) (by decide +kernel)⟩
theorem lw_p19 : lw_okq (⟨"TerrainTiler", "writeItem", "(II)V"⟩, 8) := ⟨⟨by decide +kernel, by decide +kernel⟩, List.mem_of_getElem? (i := 18) (by decide +kernel), List.mem_of_getElem? (i := 793) (by decide +kernel), List.mem_of_getElem? (i := 794) (by decide +kernel)⟩
theorem lw_p20 : lw_okq (⟨"TerrainTiler", "mixCell", "(JII)J"⟩, 8) := ⟨⟨by decide +kernel, by decide +kernel⟩, List.mem_of_getElem? (i := 18) (by decide +kernel), List.mem_of_getElem? (i := 810) (by decide +kernel), List.mem_of_getElem? (i := 811) (by decide +kernel)⟩
theorem lw_p21 : lw_okq (⟨"TerrainTilerModel", "begins", "(II)V"⟩, 26) := ⟨⟨by decide +kernel, by decide +kernel⟩, List.mem_of_getElem? (i := 816) (by decide +kernel), List.mem_of_getElem? (i := 823) (by decide +kernel), List.mem_of_getElem? (i := 824) (by decide +kernel)⟩
theorem lw_p22 : lw_okq (⟨"TerrainTilerModel", "touchesAll", "()V"⟩, 26) := ⟨⟨by decide +kernel, by decide +kernel⟩, List.mem_of_getElem? (i := 816) (by decide +kernel), List.mem_of_getElem? (i := 827) (by decide +kernel), List.mem_of_getElem? (i := 828) (by decide +kernel)⟩
theorem lw_p23 : lw_okq (⟨"TerrainTilerModel", "touches", "(II)V"⟩, 26) := ⟨⟨by decide +kernel, by decide +kernel⟩, List.mem_of_getElem? (i := 816) (by decide +kernel), List.mem_of_getElem? (i := 831) (by decide +kernel), List.mem_of_getElem? (i := 832) (by decide +kernel)⟩
theorem lw_p24 : lw_okq (⟨"TerrainTilerModel", "isCell", "(II)Z"⟩, 26) := ⟨⟨by decide +kernel, by decide +kernel⟩, List.mem_of_getElem? (i := 816) (by decide +kernel), List.mem_of_getElem? (i := 835) (by decide +kernel), List.mem_of_getElem? (i := 836) (by decide +kernel)⟩
theorem lw_p25 : lw_okq (⟨"TerrainTilerModel", "saves", "()V"⟩, 26) := ⟨⟨by decide +kernel, by decide +kernel⟩, List.mem_of_getElem? (i := 816) (by decide +kernel), List.mem_of_getElem? (i := 929) (by decide +kernel), List.mem_of_getElem? (i := 930) (by decide +kernel)⟩
theorem lw_p26 : lw_okq (⟨"TerrainTilerModel", "copies", "(II)V"⟩, 26) := ⟨⟨by decide +kernel, by decide +kernel⟩, List.mem_of_getElem? (i := 816) (by decide +kernel), List.mem_of_getElem? (i := 933) (by decide +kernel), List.mem_of_getElem? (i := 934) (by decide +kernel)⟩
theorem lw_p27 : lw_okq (⟨"TerrainTilerModel", "isCorner", "(II)Z"⟩, 26) := ⟨⟨by decide +kernel, by decide +kernel⟩, List.mem_of_getElem? (i := 816) (by decide +kernel), List.mem_of_getElem? (i := 945) (by decide +kernel), List.mem_of_getElem? (i := 946) (by decide +kernel)⟩
theorem lw_p28 : lw_okq (⟨"TerrainTilerModel", "cornerOf", "(II)I"⟩, 26) := ⟨⟨by decide +kernel, by decide +kernel⟩, List.mem_of_getElem? (i := 816) (by decide +kernel), List.mem_of_getElem? (i := 949) (by decide +kernel), List.mem_of_getElem? (i := 950) (by decide +kernel)⟩
theorem lw_p29 : lw_okq (⟨"TerrainTilerModel", "lays", "(III)I"⟩, 26) := ⟨⟨by decide +kernel, by decide +kernel⟩, List.mem_of_getElem? (i := 816) (by decide +kernel), List.mem_of_getElem? (i := 953) (by decide +kernel), List.mem_of_getElem? (i := 954) (by decide +kernel)⟩
theorem lw_p30 : lw_okq (⟨"TerrainTilerModel", "forgets", "()V"⟩, 26) := ⟨⟨by decide +kernel, by decide +kernel⟩, List.mem_of_getElem? (i := 816) (by decide +kernel), List.mem_of_getElem? (i := 969) (by decide +kernel), List.mem_of_getElem? (i := 970) (by decide +kernel)⟩
theorem lw_p31 : lw_okq (⟨"TerrainTilerModel", "reaches", "(II)V"⟩, 26) := ⟨⟨by decide +kernel, by decide +kernel⟩, List.mem_of_getElem? (i := 816) (by decide +kernel), List.mem_of_getElem? (i := 973) (by decide +kernel), List.mem_of_getElem? (i := 974) (by decide +kernel)⟩
def lw_privs_2 : List (MethodName × Nat) := [(⟨"TerrainTiler$MapReader", "isRowWhole", "()Z"⟩, 5), (⟨"TerrainTiler$MapReader", "acceptLetter", "(I)I"⟩, 5), (⟨"TerrainTiler", "writeRow", "(I)V"⟩, 8), (⟨"TerrainTiler", "writeItem", "(II)V"⟩, 8), (⟨"TerrainTiler", "mixCell", "(JII)J"⟩, 8), (⟨"TerrainTilerModel", "begins", "(II)V"⟩, 26), (⟨"TerrainTilerModel", "touchesAll", "()V"⟩, 26), (⟨"TerrainTilerModel", "touches", "(II)V"⟩, 26), (⟨"TerrainTilerModel", "isCell", "(II)Z"⟩, 26), (⟨"TerrainTilerModel", "saves", "()V"⟩, 26), (⟨"TerrainTilerModel", "copies", "(II)V"⟩, 26), (⟨"TerrainTilerModel", "isCorner", "(II)Z"⟩, 26), (⟨"TerrainTilerModel", "cornerOf", "(II)I"⟩, 26), (⟨"TerrainTilerModel", "lays", "(III)I"⟩, 26), (⟨"TerrainTilerModel", "forgets", "()V"⟩, 26), (⟨"TerrainTilerModel", "reaches", "(II)V"⟩, 26)]
theorem lw_r2 : ∀ q ∈ lw_privs_2, lw_okq q := List.forall_mem_cons.mpr ⟨lw_p16, List.forall_mem_cons.mpr ⟨lw_p17, List.forall_mem_cons.mpr ⟨lw_p18, List.forall_mem_cons.mpr ⟨lw_p19, List.forall_mem_cons.mpr ⟨lw_p20, List.forall_mem_cons.mpr ⟨lw_p21, List.forall_mem_cons.mpr ⟨lw_p22, List.forall_mem_cons.mpr ⟨lw_p23, List.forall_mem_cons.mpr ⟨lw_p24, List.forall_mem_cons.mpr ⟨lw_p25, List.forall_mem_cons.mpr ⟨lw_p26, List.forall_mem_cons.mpr ⟨lw_p27, List.forall_mem_cons.mpr ⟨lw_p28, List.forall_mem_cons.mpr ⟨lw_p29, List.forall_mem_cons.mpr ⟨lw_p30, List.forall_mem_cons.mpr ⟨lw_p31, fun _ h => absurd h List.not_mem_nil⟩⟩⟩⟩⟩⟩⟩⟩⟩⟩⟩⟩⟩⟩⟩⟩
theorem lw_p32 : lw_okq (⟨"TerrainTilerModel", "isMet", "(II)Z"⟩, 26) := ⟨⟨by decide +kernel, by decide +kernel⟩, List.mem_of_getElem? (i := 816) (by decide +kernel), List.mem_of_getElem? (i := 977) (by decide +kernel), List.mem_of_getElem? (i := 978) (by decide +kernel)⟩
theorem lw_p33 : lw_okq (⟨"TerrainTilerModel", "rankOf", "(I)I"⟩, 26) := ⟨⟨by decide +kernel, by decide +kernel⟩, List.mem_of_getElem? (i := 816) (by decide +kernel), List.mem_of_getElem? (i := 985) (by decide +kernel), List.mem_of_getElem? (i := 986) (by decide +kernel)⟩
theorem lw_p34 : lw_okq (⟨"TerrainTilerModel", "pathOf", "(II)I"⟩, 26) := ⟨⟨by decide +kernel, by decide +kernel⟩, List.mem_of_getElem? (i := 816) (by decide +kernel), List.mem_of_getElem? (i := 1000) (by decide +kernel), List.mem_of_getElem? (i := 1001) (by decide +kernel)⟩
theorem lw_p35 : lw_okq (⟨"TerrainTilerModel", "maskOf", "(II)I"⟩, 26) := ⟨⟨by decide +kernel, by decide +kernel⟩, List.mem_of_getElem? (i := 816) (by decide +kernel), List.mem_of_getElem? (i := 1012) (by decide +kernel), List.mem_of_getElem? (i := 1013) (by decide +kernel)⟩
theorem lw_p36 : lw_okq (⟨"TerrainTilerModel", "pathTileOf", "(II)I"⟩, 26) := ⟨⟨by decide +kernel, by decide +kernel⟩, List.mem_of_getElem? (i := 816) (by decide +kernel), List.mem_of_getElem? (i := 1020) (by decide +kernel), List.mem_of_getElem? (i := 1021) (by decide +kernel)⟩
theorem lw_p37 : lw_okq (⟨"TerrainTilerModel", "becomes", "(II)I"⟩, 26) := ⟨⟨by decide +kernel, by decide +kernel⟩, List.mem_of_getElem? (i := 816) (by decide +kernel), List.mem_of_getElem? (i := 1041) (by decide +kernel), List.mem_of_getElem? (i := 1042) (by decide +kernel)⟩
theorem lw_p38 : lw_okq (⟨"TerrainTilerModel", "wayOf", "(II)I"⟩, 26) := ⟨⟨by decide +kernel, by decide +kernel⟩, List.mem_of_getElem? (i := 816) (by decide +kernel), List.mem_of_getElem? (i := 1061) (by decide +kernel), List.mem_of_getElem? (i := 1062) (by decide +kernel)⟩
theorem lw_p39 : lw_okq (⟨"TerrainTilerModel", "finds", "(II)V"⟩, 26) := ⟨⟨by decide +kernel, by decide +kernel⟩, List.mem_of_getElem? (i := 816) (by decide +kernel), List.mem_of_getElem? (i := 1072) (by decide +kernel), List.mem_of_getElem? (i := 1073) (by decide +kernel)⟩
theorem lw_p40 : lw_okq (⟨"TerrainTilerModel", "makesUp", "(III)Z"⟩, 26) := ⟨⟨by decide +kernel, by decide +kernel⟩, List.mem_of_getElem? (i := 816) (by decide +kernel), List.mem_of_getElem? (i := 1076) (by decide +kernel), List.mem_of_getElem? (i := 1077) (by decide +kernel)⟩
theorem lw_p41 : lw_okq (⟨"TerrainTilerModel", "findsLayers", "(II)V"⟩, 26) := ⟨⟨by decide +kernel, by decide +kernel⟩, List.mem_of_getElem? (i := 816) (by decide +kernel), List.mem_of_getElem? (i := 1084) (by decide +kernel), List.mem_of_getElem? (i := 1085) (by decide +kernel)⟩
theorem lw_p42 : lw_okq (⟨"TerrainTilerModel", "cornerAt", "(III)I"⟩, 26) := ⟨⟨by decide +kernel, by decide +kernel⟩, List.mem_of_getElem? (i := 816) (by decide +kernel), List.mem_of_getElem? (i := 1088) (by decide +kernel), List.mem_of_getElem? (i := 1089) (by decide +kernel)⟩
theorem lw_p43 : lw_okq (⟨"TerrainTilerModel", "findsPieces", "(II)V"⟩, 26) := ⟨⟨by decide +kernel, by decide +kernel⟩, List.mem_of_getElem? (i := 816) (by decide +kernel), List.mem_of_getElem? (i := 1100) (by decide +kernel), List.mem_of_getElem? (i := 1101) (by decide +kernel)⟩
theorem lw_p44 : lw_okq (⟨"TerrainTilerModel", "variantOf", "(III)I"⟩, 26) := ⟨⟨by decide +kernel, by decide +kernel⟩, List.mem_of_getElem? (i := 816) (by decide +kernel), List.mem_of_getElem? (i := 1104) (by decide +kernel), List.mem_of_getElem? (i := 1105) (by decide +kernel)⟩
theorem lw_p45 : lw_okq (⟨"TerrainTilerModel", "at", "(II)I"⟩, 26) := ⟨⟨by decide +kernel, by decide +kernel⟩, List.mem_of_getElem? (i := 816) (by decide +kernel), List.mem_of_getElem? (i := 1120) (by decide +kernel), List.mem_of_getElem? (i := 1121) (by decide +kernel)⟩
theorem lw_p46 : lw_okq (⟨"TerrainTilerModel", "isStaleAt", "(II)Z"⟩, 26) := ⟨⟨by decide +kernel, by decide +kernel⟩, List.mem_of_getElem? (i := 816) (by decide +kernel), List.mem_of_getElem? (i := 1128) (by decide +kernel), List.mem_of_getElem? (i := 1129) (by decide +kernel)⟩
theorem lw_p47 : lw_okq (⟨"TerrainTilerModel", "paints", "(II)I"⟩, 26) := ⟨⟨by decide +kernel, by decide +kernel⟩, List.mem_of_getElem? (i := 816) (by decide +kernel), List.mem_of_getElem? (i := 1144) (by decide +kernel), List.mem_of_getElem? (i := 1145) (by decide +kernel)⟩
def lw_privs_3 : List (MethodName × Nat) := [(⟨"TerrainTilerModel", "isMet", "(II)Z"⟩, 26), (⟨"TerrainTilerModel", "rankOf", "(I)I"⟩, 26), (⟨"TerrainTilerModel", "pathOf", "(II)I"⟩, 26), (⟨"TerrainTilerModel", "maskOf", "(II)I"⟩, 26), (⟨"TerrainTilerModel", "pathTileOf", "(II)I"⟩, 26), (⟨"TerrainTilerModel", "becomes", "(II)I"⟩, 26), (⟨"TerrainTilerModel", "wayOf", "(II)I"⟩, 26), (⟨"TerrainTilerModel", "finds", "(II)V"⟩, 26), (⟨"TerrainTilerModel", "makesUp", "(III)Z"⟩, 26), (⟨"TerrainTilerModel", "findsLayers", "(II)V"⟩, 26), (⟨"TerrainTilerModel", "cornerAt", "(III)I"⟩, 26), (⟨"TerrainTilerModel", "findsPieces", "(II)V"⟩, 26), (⟨"TerrainTilerModel", "variantOf", "(III)I"⟩, 26), (⟨"TerrainTilerModel", "at", "(II)I"⟩, 26), (⟨"TerrainTilerModel", "isStaleAt", "(II)Z"⟩, 26), (⟨"TerrainTilerModel", "paints", "(II)I"⟩, 26)]
theorem lw_r3 : ∀ q ∈ lw_privs_3, lw_okq q := List.forall_mem_cons.mpr ⟨lw_p32, List.forall_mem_cons.mpr ⟨lw_p33, List.forall_mem_cons.mpr ⟨lw_p34, List.forall_mem_cons.mpr ⟨lw_p35, List.forall_mem_cons.mpr ⟨lw_p36, List.forall_mem_cons.mpr ⟨lw_p37, List.forall_mem_cons.mpr ⟨lw_p38, List.forall_mem_cons.mpr ⟨lw_p39, List.forall_mem_cons.mpr ⟨lw_p40, List.forall_mem_cons.mpr ⟨lw_p41, List.forall_mem_cons.mpr ⟨lw_p42, List.forall_mem_cons.mpr ⟨lw_p43, List.forall_mem_cons.mpr ⟨lw_p44, List.forall_mem_cons.mpr ⟨lw_p45, List.forall_mem_cons.mpr ⟨lw_p46, List.forall_mem_cons.mpr ⟨lw_p47, fun _ h => absurd h List.not_mem_nil⟩⟩⟩⟩⟩⟩⟩⟩⟩⟩⟩⟩⟩⟩⟩⟩
theorem lw_p48 : lw_okq (⟨"TerrainTilerModel", "findsKinds", "()V"⟩, 26) := ⟨⟨by decide +kernel, by decide +kernel⟩, List.mem_of_getElem? (i := 816) (by decide +kernel), List.mem_of_getElem? (i := 1156) (by decide +kernel), List.mem_of_getElem? (i := 1157) (by decide +kernel)⟩
theorem lw_p49 : lw_okq (⟨"TerrainTilerModel", "readsAll", "()Z"⟩, 26) := ⟨⟨by decide +kernel, by decide +kernel⟩, List.mem_of_getElem? (i := 816) (by decide +kernel), List.mem_of_getElem? (i := 1180) (by decide +kernel), List.mem_of_getElem? (i := 1181) (by decide +kernel)⟩
theorem lw_p50 : lw_okq (⟨"TerrainTilerModel", "readsRow", "()Z"⟩, 26) := ⟨⟨by decide +kernel, by decide +kernel⟩, List.mem_of_getElem? (i := 816) (by decide +kernel), List.mem_of_getElem? (i := 1184) (by decide +kernel), List.mem_of_getElem? (i := 1185) (by decide +kernel)⟩
theorem lw_p51 : lw_okq (⟨"TerrainTilerModel", "readsItem", "()Z"⟩, 26) := ⟨⟨by decide +kernel, by decide +kernel⟩, List.mem_of_getElem? (i := 816) (by decide +kernel), List.mem_of_getElem? (i := 1188) (by decide +kernel), List.mem_of_getElem? (i := 1189) (by decide +kernel)⟩
theorem lw_p52 : lw_okq (⟨"TerrainTilerModel", "number", "()I"⟩, 26) := ⟨⟨by decide +kernel, by decide +kernel⟩, List.mem_of_getElem? (i := 816) (by decide +kernel), List.mem_of_getElem? (i := 1192) (by decide +kernel), List.mem_of_getElem? (i := 1193) (by decide +kernel)⟩
theorem lw_p53 : lw_okq (⟨"TerrainTilerModel", "here", "()I"⟩, 26) := ⟨⟨by decide +kernel, by decide +kernel⟩, List.mem_of_getElem? (i := 816) (by decide +kernel), List.mem_of_getElem? (i := 1196) (by decide +kernel), List.mem_of_getElem? (i := 1197) (by decide +kernel)⟩
theorem lw_p54 : lw_okq (⟨"TerrainTilerModel", "puts", "(I)V"⟩, 26) := ⟨⟨by decide +kernel, by decide +kernel⟩, List.mem_of_getElem? (i := 816) (by decide +kernel), List.mem_of_getElem? (i := 1208) (by decide +kernel), List.mem_of_getElem? (i := 1209) (by decide +kernel)⟩
theorem lw_p55 : lw_okq (⟨"TerrainTilerModel", "writesItem", "(II)V"⟩, 26) := ⟨⟨by decide +kernel, by decide +kernel⟩, List.mem_of_getElem? (i := 816) (by decide +kernel), List.mem_of_getElem? (i := 1212) (by decide +kernel), List.mem_of_getElem? (i := 1213) (by decide +kernel)⟩
theorem lw_p56 : lw_okq (⟨"TerrainTilerModel", "note", "(I)V"⟩, 26) := ⟨⟨by decide +kernel, by decide +kernel⟩, List.mem_of_getElem? (i := 816) (by decide +kernel), List.mem_of_getElem? (i := 1225) (by decide +kernel), List.mem_of_getElem? (i := 1226) (by decide +kernel)⟩
theorem lw_p57 : lw_okq (⟨"TerrainTilerModel", "noteCell", "(II)V"⟩, 26) := ⟨⟨by decide +kernel, by decide +kernel⟩, List.mem_of_getElem? (i := 816) (by decide +kernel), List.mem_of_getElem? (i := 1230) (by decide +kernel), List.mem_of_getElem? (i := 1231) (by decide +kernel)⟩
def lw_privs_4 : List (MethodName × Nat) := [(⟨"TerrainTilerModel", "findsKinds", "()V"⟩, 26), (⟨"TerrainTilerModel", "readsAll", "()Z"⟩, 26), (⟨"TerrainTilerModel", "readsRow", "()Z"⟩, 26), (⟨"TerrainTilerModel", "readsItem", "()Z"⟩, 26), (⟨"TerrainTilerModel", "number", "()I"⟩, 26), (⟨"TerrainTilerModel", "here", "()I"⟩, 26), (⟨"TerrainTilerModel", "puts", "(I)V"⟩, 26), (⟨"TerrainTilerModel", "writesItem", "(II)V"⟩, 26), (⟨"TerrainTilerModel", "note", "(I)V"⟩, 26), (⟨"TerrainTilerModel", "noteCell", "(II)V"⟩, 26)]
theorem lw_r4 : ∀ q ∈ lw_privs_4, lw_okq q := List.forall_mem_cons.mpr ⟨lw_p48, List.forall_mem_cons.mpr ⟨lw_p49, List.forall_mem_cons.mpr ⟨lw_p50, List.forall_mem_cons.mpr ⟨lw_p51, List.forall_mem_cons.mpr ⟨lw_p52, List.forall_mem_cons.mpr ⟨lw_p53, List.forall_mem_cons.mpr ⟨lw_p54, List.forall_mem_cons.mpr ⟨lw_p55, List.forall_mem_cons.mpr ⟨lw_p56, List.forall_mem_cons.mpr ⟨lw_p57, fun _ h => absurd h List.not_mem_nil⟩⟩⟩⟩⟩⟩⟩⟩⟩⟩
def lw_privs : List (MethodName × Nat) := lw_privs_1 ++ (lw_privs_2 ++ (lw_privs_3 ++ (lw_privs_4)))
def lw_tbl : List Cond := k2_sels lw_privs ++ tables_1
theorem lw_privs_ok : ∀ q ∈ lw_privs, lw_okq q := by
  show ∀ q ∈ lw_privs_1 ++ (lw_privs_2 ++ (lw_privs_3 ++ (lw_privs_4))), lw_okq q
  exact List.forall_mem_append.mpr ⟨lw_r1, List.forall_mem_append.mpr ⟨lw_r2, List.forall_mem_append.mpr ⟨lw_r3, lw_r4⟩⟩⟩
end
section
def RX0 : String := "TerrainTiler$Bytes"
def TX0 : u_T := fun k => match k with
  | 0 => ("TerrainTiler$Bytes", "codes", "[I", true)
  | _ => ("TerrainTiler$Bytes", "length", "I", false)
def tyX0 : Nat → FieldType := fun k => match k with
  | 0 => .array .int
  | _ => .int
abbrev wsX00 : List Cond := u_ws RX0 TX0 2
theorem nmX0 : ∀ a, a < 2 → ∀ b, b < 2 → a ≠ b → (TX0 a).2.1 ≠ (TX0 b).2.1 := by decide +kernel
theorem tyX0_ok : ∀ k, k < 2 → parseFieldDescriptor (TX0 k).2.2.1 = some (tyX0 k) := by decide +kernel
abbrev cX0_init : ByteArray := prog_2_method_1_code
def yX0_init : MethodName := ⟨RX0, "<init>", "()V"⟩
abbrev cX0_append : ByteArray := prog_2_method_2_code
def yX0_append : MethodName := ⟨RX0, "append", "(I)V"⟩
def RX1 : String := "TerrainTiler$Canvas"
def TX1 : u_T := fun k => match k with
  | 0 => ("TerrainTiler$Canvas", "pieceCounts", "[I", true)
  | 1 => ("TerrainTiler$Canvas", "pieceCodes", "[I", true)
  | 2 => ("TerrainTiler$Canvas", "pathTiles", "[I", true)
  | _ => ("TerrainTiler$Canvas", "touches", "[I", true)
def tyX1 : Nat → FieldType := fun k => match k with
  | 0 => .array .int
  | 1 => .array .int
  | 2 => .array .int
  | _ => .array .int
abbrev wsX10 : List Cond := u_ws RX1 TX1 4
theorem nmX1 : ∀ a, a < 4 → ∀ b, b < 4 → a ≠ b → (TX1 a).2.1 ≠ (TX1 b).2.1 := by decide +kernel
theorem tyX1_ok : ∀ k, k < 4 → parseFieldDescriptor (TX1 k).2.2.1 = some (tyX1 k) := by decide +kernel
abbrev cX1_init : ByteArray := prog_3_method_1_code
def yX1_init : MethodName := ⟨RX1, "<init>", "()V"⟩
abbrev cX1_copyFrom : ByteArray := prog_3_method_2_code
def yX1_copyFrom : MethodName := ⟨RX1, "copyFrom", "(LTerrainTiler$Canvas;)V"⟩
abbrev cX1_wipe : ByteArray := prog_3_method_3_code
def yX1_wipe : MethodName := ⟨RX1, "wipe", "()V"⟩
abbrev cX1_codeAt : ByteArray := prog_3_method_4_code
def yX1_codeAt : MethodName := ⟨RX1, "codeAt", "(II)I"⟩
abbrev cX1_shows : ByteArray := prog_3_method_5_code
def yX1_shows : MethodName := ⟨RX1, "shows", "(ILTerrainTiler$Sketch;)Z"⟩
abbrev cX1_take : ByteArray := prog_3_method_6_code
def yX1_take : MethodName := ⟨RX1, "take", "(ILTerrainTiler$Sketch;)V"⟩
def RX2 : String := "TerrainTiler$History"
def TX2 : u_T := fun k => match k with
  | 0 => ("TerrainTiler$History", "states", "[LTerrainTiler$State;", true)
  | 1 => ("TerrainTiler$History", "oldest", "I", false)
  | _ => ("TerrainTiler$History", "count", "I", false)
def tyX2 : Nat → FieldType := fun k => match k with
  | 0 => .array (.object "TerrainTiler$State")
  | 1 => .int
  | _ => .int
abbrev wsX20 : List Cond := u_ws RX2 TX2 3
theorem nmX2 : ∀ a, a < 3 → ∀ b, b < 3 → a ≠ b → (TX2 a).2.1 ≠ (TX2 b).2.1 := by decide +kernel
theorem tyX2_ok : ∀ k, k < 3 → parseFieldDescriptor (TX2 k).2.2.1 = some (tyX2 k) := by decide +kernel
abbrev cX2_init : ByteArray := prog_4_method_1_code
def yX2_init : MethodName := ⟨RX2, "<init>", "()V"⟩
abbrev cX2_record : ByteArray := prog_4_method_2_code
def yX2_record : MethodName := ⟨RX2, "record", "(LTerrainTiler$State;)V"⟩
abbrev cX2_restore : ByteArray := prog_4_method_3_code
def yX2_restore : MethodName := ⟨RX2, "restore", "(LTerrainTiler$State;)V"⟩
def RX3 : String := "TerrainTiler$Land"
def TX3 : u_T := fun k => match k with
  | 0 => ("TerrainTiler$Land", "w", "I", false)
  | 1 => ("TerrainTiler$Land", "h", "I", false)
  | 2 => ("TerrainTiler$Land", "terrains", "[I", true)
  | _ => ("TerrainTiler$Land", "paths", "[I", true)
def tyX3 : Nat → FieldType := fun k => match k with
  | 0 => .int
  | 1 => .int
  | 2 => .array .int
  | _ => .array .int
abbrev wsX30 : List Cond := u_ws RX3 TX3 4
theorem nmX3 : ∀ a, a < 4 → ∀ b, b < 4 → a ≠ b → (TX3 a).2.1 ≠ (TX3 b).2.1 := by decide +kernel
theorem tyX3_ok : ∀ k, k < 4 → parseFieldDescriptor (TX3 k).2.2.1 = some (tyX3 k) := by decide +kernel
abbrev cX3_init : ByteArray := prog_5_method_1_code
def yX3_init : MethodName := ⟨RX3, "<init>", "()V"⟩
abbrev cX3_copyFrom : ByteArray := prog_5_method_2_code
def yX3_copyFrom : MethodName := ⟨RX3, "copyFrom", "(LTerrainTiler$Land;)V"⟩
abbrev cX3_isCell : ByteArray := prog_5_method_3_code
def yX3_isCell : MethodName := ⟨RX3, "isCell", "(II)Z"⟩
abbrev cX3_isCorner : ByteArray := prog_5_method_4_code
def yX3_isCorner : MethodName := ⟨RX3, "isCorner", "(II)Z"⟩
abbrev cX3_terrainAt : ByteArray := prog_5_method_5_code
def yX3_terrainAt : MethodName := ⟨RX3, "terrainAt", "(II)I"⟩
abbrev cX3_pathAt : ByteArray := prog_5_method_6_code
def yX3_pathAt : MethodName := ⟨RX3, "pathAt", "(II)I"⟩
abbrev cX3_countPaths : ByteArray := prog_5_method_7_code
def yX3_countPaths : MethodName := ⟨RX3, "countPaths", "()I"⟩
abbrev cX3_pathMaskAt : ByteArray := prog_5_method_8_code
def yX3_pathMaskAt : MethodName := ⟨RX3, "pathMaskAt", "(IIZ)I"⟩
abbrev cX3_pathTileAt : ByteArray := prog_5_method_9_code
def yX3_pathTileAt : MethodName := ⟨RX3, "pathTileAt", "(IIZ)I"⟩
abbrev cX3_leadsTo : ByteArray := prog_5_method_10_code
def yX3_leadsTo : MethodName := ⟨RX3, "leadsTo", "(IIZ)Z"⟩
def RX4 : String := "TerrainTiler$MapReader"
def TX4 : u_T := fun k => match k with
  | 0 => ("TerrainTiler$MapReader", "terrains", "[I", true)
  | 1 => ("TerrainTiler$MapReader", "row", "I", false)
  | 2 => ("TerrainTiler$MapReader", "column", "I", false)
  | 3 => ("TerrainTiler$MapReader", "rowLength", "I", false)
  | _ => ("TerrainTiler$MapReader", "number", "I", false)
def tyX4 : Nat → FieldType := fun k => match k with
  | 0 => .array .int
  | 1 => .int
  | 2 => .int
  | 3 => .int
  | _ => .int
abbrev wsX40 : List Cond := u_ws RX4 TX4 5
theorem nmX4 : ∀ a, a < 5 → ∀ b, b < 5 → a ≠ b → (TX4 a).2.1 ≠ (TX4 b).2.1 := by decide +kernel
theorem tyX4_ok : ∀ k, k < 5 → parseFieldDescriptor (TX4 k).2.2.1 = some (tyX4 k) := by decide +kernel
abbrev cX4_init : ByteArray := prog_6_method_1_code
def yX4_init : MethodName := ⟨RX4, "<init>", "()V"⟩
abbrev cX4_faultOf : ByteArray := prog_6_method_2_code
def yX4_faultOf : MethodName := ⟨RX4, "faultOf", "(LTerrainTiler$Bytes;)I"⟩
abbrev cX4_accept : ByteArray := prog_6_method_3_code
def yX4_accept : MethodName := ⟨RX4, "accept", "(LTerrainTiler$Bytes;I)I"⟩
abbrev cX4_acceptNumber : ByteArray := prog_6_method_4_code
def yX4_acceptNumber : MethodName := ⟨RX4, "acceptNumber", "(LTerrainTiler$Bytes;I)I"⟩
abbrev cX4_acceptLetter : ByteArray := prog_6_method_5_code
def yX4_acceptLetter : MethodName := ⟨RX4, "acceptLetter", "(I)I"⟩
abbrev cX4_acceptRowEnd : ByteArray := prog_6_method_6_code
def yX4_acceptRowEnd : MethodName := ⟨RX4, "acceptRowEnd", "()I"⟩
abbrev cX4_isRowWhole : ByteArray := prog_6_method_7_code
def yX4_isRowWhole : MethodName := ⟨RX4, "isRowWhole", "()Z"⟩
abbrev cX4_isDigit : ByteArray := prog_6_method_8_code
def yX4_isDigit : MethodName := ⟨RX4, "isDigit", "(I)Z"⟩
def RX5 : String := "TerrainTiler$Region"
def TX5 : u_T := fun k => match k with
  | 0 => ("TerrainTiler$Region", "met", "[I", true)
  | 1 => ("TerrainTiler$Region", "found", "[I", true)
  | _ => ("TerrainTiler$Region", "count", "I", false)
def tyX5 : Nat → FieldType := fun k => match k with
  | 0 => .array .int
  | 1 => .array .int
  | _ => .int
abbrev wsX50 : List Cond := u_ws RX5 TX5 3
theorem nmX5 : ∀ a, a < 3 → ∀ b, b < 3 → a ≠ b → (TX5 a).2.1 ≠ (TX5 b).2.1 := by decide +kernel
theorem tyX5_ok : ∀ k, k < 3 → parseFieldDescriptor (TX5 k).2.2.1 = some (tyX5 k) := by decide +kernel
abbrev cX5_init : ByteArray := prog_7_method_1_code
def yX5_init : MethodName := ⟨RX5, "<init>", "()V"⟩
abbrev cX5_forget : ByteArray := prog_7_method_2_code
def yX5_forget : MethodName := ⟨RX5, "forget", "()V"⟩
abbrev cX5_knows : ByteArray := prog_7_method_3_code
def yX5_knows : MethodName := ⟨RX5, "knows", "(II)Z"⟩
abbrev cX5_columnOf : ByteArray := prog_7_method_4_code
def yX5_columnOf : MethodName := ⟨RX5, "columnOf", "(I)I"⟩
abbrev cX5_rowOf : ByteArray := prog_7_method_5_code
def yX5_rowOf : MethodName := ⟨RX5, "rowOf", "(I)I"⟩
abbrev cX5_gather : ByteArray := prog_7_method_6_code
def yX5_gather : MethodName := ⟨RX5, "gather", "(LTerrainTiler$Land;II)V"⟩
abbrev cX5_meet : ByteArray := prog_7_method_7_code
def yX5_meet : MethodName := ⟨RX5, "meet", "(LTerrainTiler$Land;III)V"⟩
def RX6 : String := "TerrainTiler$Rules"
def TX6 : u_T := fun k => match k with
  | 0 => ("TerrainTiler$Rules", "ranks", "[I", true)
  | 1 => ("TerrainTiler$Rules", "byRank", "[I", true)
  | 2 => ("TerrainTiler$Rules", "variants", "[I", true)
  | 3 => ("TerrainTiler$Rules", "tiles", "LTerrainTiler$Tiles;", true)
  | 4 => ("TerrainTiler$Rules", "seed", "I", false)
  | _ => ("TerrainTiler$Rules", "border", "Z", false)
def tyX6 : Nat → FieldType := fun k => match k with
  | 0 => .array .int
  | 1 => .array .int
  | 2 => .array .int
  | 3 => .object "TerrainTiler$Tiles"
  | 4 => .int
  | _ => .boolean
abbrev wsX60 : List Cond := u_ws RX6 TX6 6
theorem nmX6 : ∀ a, a < 6 → ∀ b, b < 6 → a ≠ b → (TX6 a).2.1 ≠ (TX6 b).2.1 := by decide +kernel
theorem tyX6_ok : ∀ k, k < 6 → parseFieldDescriptor (TX6 k).2.2.1 = some (tyX6 k) := by decide +kernel
abbrev cX6_init : ByteArray := prog_8_method_1_code
def yX6_init : MethodName := ⟨RX6, "<init>", "()V"⟩
abbrev cX6_copyFrom : ByteArray := prog_8_method_2_code
def yX6_copyFrom : MethodName := ⟨RX6, "copyFrom", "(LTerrainTiler$Rules;)V"⟩
abbrev cX6_rankOf : ByteArray := prog_8_method_3_code
def yX6_rankOf : MethodName := ⟨RX6, "rankOf", "(I)I"⟩
abbrev cX6_terrainWithRank : ByteArray := prog_8_method_4_code
def yX6_terrainWithRank : MethodName := ⟨RX6, "terrainWithRank", "(I)I"⟩
abbrev cX6_moveTo : ByteArray := prog_8_method_5_code
def yX6_moveTo : MethodName := ⟨RX6, "moveTo", "(II)V"⟩
abbrev cX6_variantOf : ByteArray := prog_8_method_6_code
def yX6_variantOf : MethodName := ⟨RX6, "variantOf", "(III)I"⟩
abbrev cX6_place : ByteArray := prog_8_method_7_code
def yX6_place : MethodName := ⟨RX6, "place", "(II)V"⟩
def RX7 : String := "TerrainTiler$Sketch"
def TX7 : u_T := fun k => match k with
  | 0 => ("TerrainTiler$Sketch", "cornerRanks", "[I", true)
  | 1 => ("TerrainTiler$Sketch", "layerTerrains", "[I", true)
  | 2 => ("TerrainTiler$Sketch", "layerMasks", "[I", true)
  | 3 => ("TerrainTiler$Sketch", "layerCount", "I", false)
  | 4 => ("TerrainTiler$Sketch", "pieceCodes", "[I", true)
  | 5 => ("TerrainTiler$Sketch", "pieceCount", "I", false)
  | _ => ("TerrainTiler$Sketch", "tileOfPath", "I", false)
def tyX7 : Nat → FieldType := fun k => match k with
  | 0 => .array .int
  | 1 => .array .int
  | 2 => .array .int
  | 3 => .int
  | 4 => .array .int
  | 5 => .int
  | _ => .int
abbrev wsX70 : List Cond := u_ws RX7 TX7 7
theorem nmX7 : ∀ a, a < 7 → ∀ b, b < 7 → a ≠ b → (TX7 a).2.1 ≠ (TX7 b).2.1 := by decide +kernel
theorem tyX7_ok : ∀ k, k < 7 → parseFieldDescriptor (TX7 k).2.2.1 = some (tyX7 k) := by decide +kernel
abbrev cX7_init : ByteArray := prog_9_method_1_code
def yX7_init : MethodName := ⟨RX7, "<init>", "()V"⟩
abbrev cX7_draw : ByteArray := prog_9_method_2_code
def yX7_draw : MethodName := ⟨RX7, "draw", "(LTerrainTiler$State;II)V"⟩
abbrev cX7_drawLayers : ByteArray := prog_9_method_3_code
def yX7_drawLayers : MethodName := ⟨RX7, "drawLayers", "(LTerrainTiler$State;II)V"⟩
abbrev cX7_isRankOfCorner : ByteArray := prog_9_method_4_code
def yX7_isRankOfCorner : MethodName := ⟨RX7, "isRankOfCorner", "(I)Z"⟩
abbrev cX7_maskFrom : ByteArray := prog_9_method_5_code
def yX7_maskFrom : MethodName := ⟨RX7, "maskFrom", "(I)I"⟩
abbrev cX7_drawPieces : ByteArray := prog_9_method_6_code
def yX7_drawPieces : MethodName := ⟨RX7, "drawPieces", "(LTerrainTiler$Rules;IIII)V"⟩
def RX8 : String := "TerrainTiler$State"
def TX8 : u_T := fun k => match k with
  | 0 => ("TerrainTiler$State", "land", "LTerrainTiler$Land;", true)
  | 1 => ("TerrainTiler$State", "rules", "LTerrainTiler$Rules;", true)
  | _ => ("TerrainTiler$State", "canvas", "LTerrainTiler$Canvas;", true)
def tyX8 : Nat → FieldType := fun k => match k with
  | 0 => .object "TerrainTiler$Land"
  | 1 => .object "TerrainTiler$Rules"
  | _ => .object "TerrainTiler$Canvas"
abbrev wsX80 : List Cond := u_ws RX8 TX8 3
theorem nmX8 : ∀ a, a < 3 → ∀ b, b < 3 → a ≠ b → (TX8 a).2.1 ≠ (TX8 b).2.1 := by decide +kernel
theorem tyX8_ok : ∀ k, k < 3 → parseFieldDescriptor (TX8 k).2.2.1 = some (tyX8 k) := by decide +kernel
abbrev cX8_init : ByteArray := prog_10_method_1_code
def yX8_init : MethodName := ⟨RX8, "<init>", "()V"⟩
abbrev cX8_copyFrom : ByteArray := prog_10_method_2_code
def yX8_copyFrom : MethodName := ⟨RX8, "copyFrom", "(LTerrainTiler$State;)V"⟩
abbrev cX8_startMap : ByteArray := prog_10_method_3_code
def yX8_startMap : MethodName := ⟨RX8, "startMap", "(III)V"⟩
abbrev cX8_changeCorner : ByteArray := prog_10_method_4_code
def yX8_changeCorner : MethodName := ⟨RX8, "changeCorner", "(III)I"⟩
abbrev cX8_changeBlock : ByteArray := prog_10_method_5_code
def yX8_changeBlock : MethodName := ⟨RX8, "changeBlock", "(IIIII)I"⟩
abbrev cX8_changePath : ByteArray := prog_10_method_6_code
def yX8_changePath : MethodName := ⟨RX8, "changePath", "(III)V"⟩
abbrev cX8_touchAll : ByteArray := prog_10_method_7_code
def yX8_touchAll : MethodName := ⟨RX8, "touchAll", "()V"⟩
abbrev cX8_touchBlock : ByteArray := prog_10_method_8_code
def yX8_touchBlock : MethodName := ⟨RX8, "touchBlock", "(IIII)V"⟩
def RX9 : String := "TerrainTiler$Tally"
def TX9 : u_T := fun k => match k with
  | 0 => ("TerrainTiler$Tally", "codes", "[I", true)
  | 1 => ("TerrainTiler$Tally", "sums", "[I", true)
  | 2 => ("TerrainTiler$Tally", "places", "[I", true)
  | _ => ("TerrainTiler$Tally", "count", "I", false)
def tyX9 : Nat → FieldType := fun k => match k with
  | 0 => .array .int
  | 1 => .array .int
  | 2 => .array .int
  | _ => .int
abbrev wsX90 : List Cond := u_ws RX9 TX9 4
theorem nmX9 : ∀ a, a < 4 → ∀ b, b < 4 → a ≠ b → (TX9 a).2.1 ≠ (TX9 b).2.1 := by decide +kernel
theorem tyX9_ok : ∀ k, k < 4 → parseFieldDescriptor (TX9 k).2.2.1 = some (tyX9 k) := by decide +kernel
abbrev cX9_init : ByteArray := prog_11_method_1_code
def yX9_init : MethodName := ⟨RX9, "<init>", "()V"⟩
abbrev cX9_take : ByteArray := prog_11_method_2_code
def yX9_take : MethodName := ⟨RX9, "take", "(LTerrainTiler$State;)V"⟩
abbrev cX9_addCell : ByteArray := prog_11_method_3_code
def yX9_addCell : MethodName := ⟨RX9, "addCell", "(LTerrainTiler$Canvas;I)V"⟩
abbrev cX9_add : ByteArray := prog_11_method_4_code
def yX9_add : MethodName := ⟨RX9, "add", "(I)V"⟩
def RX10 : String := "TerrainTiler$Tiles"
def TX10 : u_T := fun k => match k with
  | 0 => ("TerrainTiler$Tiles", "sets", "[I", true)
  | _ => ("TerrainTiler$Tiles", "partSets", "[I", true)
def tyX10 : Nat → FieldType := fun k => match k with
  | 0 => .array .int
  | _ => .array .int
abbrev wsX100 : List Cond := u_ws RX10 TX10 2
theorem nmX10 : ∀ a, a < 2 → ∀ b, b < 2 → a ≠ b → (TX10 a).2.1 ≠ (TX10 b).2.1 := by decide +kernel
theorem tyX10_ok : ∀ k, k < 2 → parseFieldDescriptor (TX10 k).2.2.1 = some (tyX10 k) := by decide +kernel
abbrev cX10_init : ByteArray := prog_12_method_1_code
def yX10_init : MethodName := ⟨RX10, "<init>", "()V"⟩
abbrev cX10_copyFrom : ByteArray := prog_12_method_2_code
def yX10_copyFrom : MethodName := ⟨RX10, "copyFrom", "(LTerrainTiler$Tiles;)V"⟩
abbrev cX10_setOf : ByteArray := prog_12_method_3_code
def yX10_setOf : MethodName := ⟨RX10, "setOf", "(I)I"⟩
abbrev cX10_partsOf : ByteArray := prog_12_method_4_code
def yX10_partsOf : MethodName := ⟨RX10, "partsOf", "(II)I"⟩
abbrev cX10_choose : ByteArray := prog_12_method_5_code
def yX10_choose : MethodName := ⟨RX10, "choose", "(II)V"⟩
abbrev cX10_wayOf : ByteArray := prog_12_method_6_code
def yX10_wayOf : MethodName := ⟨RX10, "wayOf", "(II)I"⟩
abbrev cX10_has : ByteArray := prog_12_method_7_code
def yX10_has : MethodName := ⟨RX10, "has", "(II)Z"⟩
abbrev cX10_flip : ByteArray := prog_12_method_8_code
def yX10_flip : MethodName := ⟨RX10, "flip", "(II)I"⟩
abbrev cX10_fewestParts : ByteArray := prog_12_method_9_code
def yX10_fewestParts : MethodName := ⟨RX10, "fewestParts", "(II)I"⟩
abbrev cX10_firstParts : ByteArray := prog_12_method_10_code
def yX10_firstParts : MethodName := ⟨RX10, "firstParts", "(IIIII)I"⟩
def RX11 : String := "TerrainTiler"
def TX11 : u_T := fun k => match k with
  | 0 => ("TerrainTiler", "now", "LTerrainTiler$State;", true)
  | 1 => ("TerrainTiler", "history", "LTerrainTiler$History;", true)
  | 2 => ("TerrainTiler", "region", "LTerrainTiler$Region;", true)
  | 3 => ("TerrainTiler", "sketch", "LTerrainTiler$Sketch;", true)
  | 4 => ("TerrainTiler", "tally", "LTerrainTiler$Tally;", true)
  | 5 => ("TerrainTiler", "text", "LTerrainTiler$Bytes;", true)
  | 6 => ("TerrainTiler", "output", "LTerrainTiler$Bytes;", true)
  | _ => ("TerrainTiler", "reader", "LTerrainTiler$MapReader;", true)
def tyX11 : Nat → FieldType := fun k => match k with
  | 0 => .object "TerrainTiler$State"
  | 1 => .object "TerrainTiler$History"
  | 2 => .object "TerrainTiler$Region"
  | 3 => .object "TerrainTiler$Sketch"
  | 4 => .object "TerrainTiler$Tally"
  | 5 => .object "TerrainTiler$Bytes"
  | 6 => .object "TerrainTiler$Bytes"
  | _ => .object "TerrainTiler$MapReader"
abbrev wsX110 : List Cond := u_ws RX11 TX11 8
theorem nmX11 : ∀ a, a < 8 → ∀ b, b < 8 → a ≠ b → (TX11 a).2.1 ≠ (TX11 b).2.1 := by decide +kernel
theorem tyX11_ok : ∀ k, k < 8 → parseFieldDescriptor (TX11 k).2.2.1 = some (tyX11 k) := by decide +kernel
abbrev cX11_init : ByteArray := prog_1_method_1_code
def yX11_init : MethodName := ⟨RX11, "<init>", "()V"⟩
abbrev cX11_begin : ByteArray := prog_1_method_2_code
def yX11_begin : MethodName := ⟨RX11, "begin", "(III)I"⟩
abbrev cX11_size : ByteArray := prog_1_method_3_code
def yX11_size : MethodName := ⟨RX11, "size", "(I)I"⟩
abbrev cX11_setCorner : ByteArray := prog_1_method_4_code
def yX11_setCorner : MethodName := ⟨RX11, "setCorner", "(III)I"⟩
abbrev cX11_corner : ByteArray := prog_1_method_5_code
def yX11_corner : MethodName := ⟨RX11, "corner", "(II)I"⟩
abbrev cX11_fill : ByteArray := prog_1_method_6_code
def yX11_fill : MethodName := ⟨RX11, "fill", "(IIIII)I"⟩
abbrev cX11_flood : ByteArray := prog_1_method_7_code
def yX11_flood : MethodName := ⟨RX11, "flood", "(III)I"⟩
abbrev cX11_raise : ByteArray := prog_1_method_8_code
def yX11_raise : MethodName := ⟨RX11, "raise", "(III)I"⟩
abbrev cX11_regions : ByteArray := prog_1_method_9_code
def yX11_regions : MethodName := ⟨RX11, "regions", "(I)I"⟩
abbrev cX11_setPath : ByteArray := prog_1_method_10_code
def yX11_setPath : MethodName := ⟨RX11, "setPath", "(IIZ)I"⟩
abbrev cX11_hasPath : ByteArray := prog_1_method_11_code
def yX11_hasPath : MethodName := ⟨RX11, "hasPath", "(II)I"⟩
abbrev cX11_pathMask : ByteArray := prog_1_method_12_code
def yX11_pathMask : MethodName := ⟨RX11, "pathMask", "(II)I"⟩
abbrev cX11_pathTile : ByteArray := prog_1_method_13_code
def yX11_pathTile : MethodName := ⟨RX11, "pathTile", "(II)I"⟩
abbrev cX11_setRank : ByteArray := prog_1_method_14_code
def yX11_setRank : MethodName := ⟨RX11, "setRank", "(II)I"⟩
abbrev cX11_rank : ByteArray := prog_1_method_15_code
def yX11_rank : MethodName := ⟨RX11, "rank", "(I)I"⟩
abbrev cX11_setTiles : ByteArray := prog_1_method_16_code
def yX11_setTiles : MethodName := ⟨RX11, "setTiles", "(II)I"⟩
abbrev cX11_setVariants : ByteArray := prog_1_method_17_code
def yX11_setVariants : MethodName := ⟨RX11, "setVariants", "(II)I"⟩
abbrev cX11_setSeed : ByteArray := prog_1_method_18_code
def yX11_setSeed : MethodName := ⟨RX11, "setSeed", "(I)I"⟩
abbrev cX11_setBorder : ByteArray := prog_1_method_19_code
def yX11_setBorder : MethodName := ⟨RX11, "setBorder", "(Z)I"⟩
abbrev cX11_way : ByteArray := prog_1_method_20_code
def yX11_way : MethodName := ⟨RX11, "way", "(II)I"⟩
abbrev cX11_parts : ByteArray := prog_1_method_21_code
def yX11_parts : MethodName := ⟨RX11, "parts", "(II)I"⟩
abbrev cX11_layers : ByteArray := prog_1_method_22_code
def yX11_layers : MethodName := ⟨RX11, "layers", "(II)I"⟩
abbrev cX11_layer : ByteArray := prog_1_method_23_code
def yX11_layer : MethodName := ⟨RX11, "layer", "(IIII)I"⟩
abbrev cX11_pieces : ByteArray := prog_1_method_24_code
def yX11_pieces : MethodName := ⟨RX11, "pieces", "(II)I"⟩
abbrev cX11_piece : ByteArray := prog_1_method_25_code
def yX11_piece : MethodName := ⟨RX11, "piece", "(IIII)I"⟩
abbrev cX11_painted : ByteArray := prog_1_method_26_code
def yX11_painted : MethodName := ⟨RX11, "painted", "(II)I"⟩
abbrev cX11_isStale : ByteArray := prog_1_method_27_code
def yX11_isStale : MethodName := ⟨RX11, "isStale", "(II)I"⟩
abbrev cX11_touched : ByteArray := prog_1_method_28_code
def yX11_touched : MethodName := ⟨RX11, "touched", "()I"⟩
abbrev cX11_stale : ByteArray := prog_1_method_29_code
def yX11_stale : MethodName := ⟨RX11, "stale", "()I"⟩
abbrev cX11_paint : ByteArray := prog_1_method_30_code
def yX11_paint : MethodName := ⟨RX11, "paint", "()I"⟩
abbrev cX11_paintCell : ByteArray := prog_1_method_31_code
def yX11_paintCell : MethodName := ⟨RX11, "paintCell", "(II)I"⟩
abbrev cX11_kinds : ByteArray := prog_1_method_32_code
def yX11_kinds : MethodName := ⟨RX11, "kinds", "()I"⟩
abbrev cX11_kind : ByteArray := prog_1_method_33_code
def yX11_kind : MethodName := ⟨RX11, "kind", "(II)I"⟩
abbrev cX11_undo : ByteArray := prog_1_method_34_code
def yX11_undo : MethodName := ⟨RX11, "undo", "()I"⟩
abbrev cX11_type : ByteArray := prog_1_method_35_code
def yX11_type : MethodName := ⟨RX11, "type", "(I)I"⟩
abbrev cX11_clearText : ByteArray := prog_1_method_36_code
def yX11_clearText : MethodName := ⟨RX11, "clearText", "()I"⟩
abbrev cX11_textFault : ByteArray := prog_1_method_37_code
def yX11_textFault : MethodName := ⟨RX11, "textFault", "()I"⟩
abbrev cX11_load : ByteArray := prog_1_method_38_code
def yX11_load : MethodName := ⟨RX11, "load", "()I"⟩
abbrev cX11_write : ByteArray := prog_1_method_39_code
def yX11_write : MethodName := ⟨RX11, "write", "()I"⟩
abbrev cX11_written : ByteArray := prog_1_method_40_code
def yX11_written : MethodName := ⟨RX11, "written", "(I)I"⟩
abbrev cX11_digest : ByteArray := prog_1_method_41_code
def yX11_digest : MethodName := ⟨RX11, "digest", "()J"⟩
abbrev cX11_isWithin : ByteArray := prog_1_method_42_code
def yX11_isWithin : MethodName := ⟨RX11, "isWithin", "(III)Z"⟩
abbrev cX11_isTerrain : ByteArray := prog_1_method_43_code
def yX11_isTerrain : MethodName := ⟨RX11, "isTerrain", "(I)Z"⟩
abbrev cX11_cellIndex : ByteArray := prog_1_method_44_code
def yX11_cellIndex : MethodName := ⟨RX11, "cellIndex", "(II)I"⟩
abbrev cX11_cornerIndex : ByteArray := prog_1_method_45_code
def yX11_cornerIndex : MethodName := ⟨RX11, "cornerIndex", "(II)I"⟩
abbrev cX11_mix : ByteArray := prog_1_method_46_code
def yX11_mix : MethodName := ⟨RX11, "mix", "(JI)J"⟩
abbrev cX11_codeOfPiece : ByteArray := prog_1_method_47_code
def yX11_codeOfPiece : MethodName := ⟨RX11, "codeOfPiece", "(IIII)I"⟩
abbrev cX11_propertyOfPiece : ByteArray := prog_1_method_48_code
def yX11_propertyOfPiece : MethodName := ⟨RX11, "propertyOfPiece", "(II)I"⟩
abbrev cX11_touchAllIf : ByteArray := prog_1_method_49_code
def yX11_touchAllIf : MethodName := ⟨RX11, "touchAllIf", "(Z)V"⟩
abbrev cX11_staleAt : ByteArray := prog_1_method_50_code
def yX11_staleAt : MethodName := ⟨RX11, "staleAt", "(II)I"⟩
abbrev cX11_renew : ByteArray := prog_1_method_51_code
def yX11_renew : MethodName := ⟨RX11, "renew", "(II)I"⟩
abbrev cX11_writeRow : ByteArray := prog_1_method_52_code
def yX11_writeRow : MethodName := ⟨RX11, "writeRow", "(I)V"⟩
abbrev cX11_writeItem : ByteArray := prog_1_method_53_code
def yX11_writeItem : MethodName := ⟨RX11, "writeItem", "(II)V"⟩
abbrev cX11_mixCell : ByteArray := prog_1_method_54_code
def yX11_mixCell : MethodName := ⟨RX11, "mixCell", "(JII)J"⟩
def RX12 : String := "TerrainTilerModel"
def TX12 : u_T := fun k => match k with
  | 0 => ("TerrainTilerModel", "row", "[I", true)
  | 1 => ("TerrainTilerModel", "saved", "I", false)
  | 2 => ("TerrainTilerModel", "text", "[I", true)
  | 3 => ("TerrainTilerModel", "length", "I", false)
  | 4 => ("TerrainTilerModel", "out", "[I", true)
  | 5 => ("TerrainTilerModel", "outMany", "I", false)
  | 6 => ("TerrainTilerModel", "met", "[Z", true)
  | 7 => ("TerrainTilerModel", "right", "[I", true)
  | 8 => ("TerrainTilerModel", "down", "[I", true)
  | 9 => ("TerrainTilerModel", "part", "[I", true)
  | 10 => ("TerrainTilerModel", "partMany", "I", false)
  | 11 => ("TerrainTilerModel", "layerTerrain", "[I", true)
  | 12 => ("TerrainTilerModel", "layerMask", "[I", true)
  | 13 => ("TerrainTilerModel", "layerMany", "I", false)
  | 14 => ("TerrainTilerModel", "piece", "[I", true)
  | 15 => ("TerrainTilerModel", "pieceMany", "I", false)
  | 16 => ("TerrainTilerModel", "kindOf", "[I", true)
  | 17 => ("TerrainTilerModel", "kindMany", "[I", true)
  | 18 => ("TerrainTilerModel", "kinds", "I", false)
  | 19 => ("TerrainTilerModel", "place", "I", false)
  | 20 => ("TerrainTilerModel", "read", "[I", true)
  | 21 => ("TerrainTilerModel", "readWide", "I", false)
  | 22 => ("TerrainTilerModel", "readRows", "I", false)
  | 23 => ("TerrainTilerModel", "readNow", "I", false)
  | 24 => ("TerrainTilerModel", "fine", "Z", false)
  | _ => ("TerrainTilerModel", "h", "J", false)
def tyX12 : Nat → FieldType := fun k => match k with
  | 0 => .array .int
  | 1 => .int
  | 2 => .array .int
  | 3 => .int
  | 4 => .array .int
  | 5 => .int
  | 6 => .array .boolean
  | 7 => .array .int
  | 8 => .array .int
  | 9 => .array .int
  | 10 => .int
  | 11 => .array .int
  | 12 => .array .int
  | 13 => .int
  | 14 => .array .int
  | 15 => .int
  | 16 => .array .int
  | 17 => .array .int
  | 18 => .int
  | 19 => .int
  | 20 => .array .int
  | 21 => .int
  | 22 => .int
  | 23 => .int
  | 24 => .boolean
  | _ => .long
abbrev wsX120 : List Cond := u_ws RX12 TX12 26
theorem nmX12 : ∀ a, a < 26 → ∀ b, b < 26 → a ≠ b → (TX12 a).2.1 ≠ (TX12 b).2.1 := by decide +kernel
theorem tyX12_ok : ∀ k, k < 26 → parseFieldDescriptor (TX12 k).2.2.1 = some (tyX12 k) := by decide +kernel
abbrev cX12_init : ByteArray := prog_14_method_1_code
def yX12_init : MethodName := ⟨RX12, "<init>", "()V"⟩
abbrev cX12_in : ByteArray := prog_14_method_2_code
def yX12_in : MethodName := ⟨RX12, "in", "(III)Z"⟩
abbrev cX12_copies : ByteArray := prog_14_method_3_code
def yX12_copies : MethodName := ⟨RX12, "copies", "(II)V"⟩
abbrev cX12_saves : ByteArray := prog_14_method_4_code
def yX12_saves : MethodName := ⟨RX12, "saves", "()V"⟩
abbrev cX12_isTerrain : ByteArray := prog_14_method_5_code
def yX12_isTerrain : MethodName := ⟨RX12, "isTerrain", "(I)Z"⟩
abbrev cX12_isCorner : ByteArray := prog_14_method_6_code
def yX12_isCorner : MethodName := ⟨RX12, "isCorner", "(II)Z"⟩
abbrev cX12_isCell : ByteArray := prog_14_method_7_code
def yX12_isCell : MethodName := ⟨RX12, "isCell", "(II)Z"⟩
abbrev cX12_cornerOf : ByteArray := prog_14_method_8_code
def yX12_cornerOf : MethodName := ⟨RX12, "cornerOf", "(II)I"⟩
abbrev cX12_rankOf : ByteArray := prog_14_method_9_code
def yX12_rankOf : MethodName := ⟨RX12, "rankOf", "(I)I"⟩
abbrev cX12_touches : ByteArray := prog_14_method_10_code
def yX12_touches : MethodName := ⟨RX12, "touches", "(II)V"⟩
abbrev cX12_touchesAll : ByteArray := prog_14_method_11_code
def yX12_touchesAll : MethodName := ⟨RX12, "touchesAll", "()V"⟩
abbrev cX12_begins : ByteArray := prog_14_method_12_code
def yX12_begins : MethodName := ⟨RX12, "begins", "(II)V"⟩
abbrev cX12_lays : ByteArray := prog_14_method_13_code
def yX12_lays : MethodName := ⟨RX12, "lays", "(III)I"⟩
abbrev cX12_begin : ByteArray := prog_14_method_14_code
def yX12_begin : MethodName := ⟨RX12, "begin", "(III)I"⟩
abbrev cX12_size : ByteArray := prog_14_method_15_code
def yX12_size : MethodName := ⟨RX12, "size", "(I)I"⟩
abbrev cX12_setCorner : ByteArray := prog_14_method_16_code
def yX12_setCorner : MethodName := ⟨RX12, "setCorner", "(III)I"⟩
abbrev cX12_corner : ByteArray := prog_14_method_17_code
def yX12_corner : MethodName := ⟨RX12, "corner", "(II)I"⟩
abbrev cX12_fill : ByteArray := prog_14_method_18_code
def yX12_fill : MethodName := ⟨RX12, "fill", "(IIIII)I"⟩
abbrev cX12_isMet : ByteArray := prog_14_method_19_code
def yX12_isMet : MethodName := ⟨RX12, "isMet", "(II)Z"⟩
abbrev cX12_reaches : ByteArray := prog_14_method_20_code
def yX12_reaches : MethodName := ⟨RX12, "reaches", "(II)V"⟩
abbrev cX12_forgets : ByteArray := prog_14_method_21_code
def yX12_forgets : MethodName := ⟨RX12, "forgets", "()V"⟩
abbrev cX12_flood : ByteArray := prog_14_method_22_code
def yX12_flood : MethodName := ⟨RX12, "flood", "(III)I"⟩
abbrev cX12_size_ : ByteArray := prog_14_method_23_code
def yX12_size_ : MethodName := ⟨RX12, "size", "(II)I"⟩
abbrev cX12_raise : ByteArray := prog_14_method_24_code
def yX12_raise : MethodName := ⟨RX12, "raise", "(III)I"⟩
abbrev cX12_regions : ByteArray := prog_14_method_25_code
def yX12_regions : MethodName := ⟨RX12, "regions", "(I)I"⟩
abbrev cX12_pathOf : ByteArray := prog_14_method_26_code
def yX12_pathOf : MethodName := ⟨RX12, "pathOf", "(II)I"⟩
abbrev cX12_setPath : ByteArray := prog_14_method_27_code
def yX12_setPath : MethodName := ⟨RX12, "setPath", "(IIZ)I"⟩
abbrev cX12_hasPath : ByteArray := prog_14_method_28_code
def yX12_hasPath : MethodName := ⟨RX12, "hasPath", "(II)I"⟩
abbrev cX12_isPathMask : ByteArray := prog_14_method_29_code
def yX12_isPathMask : MethodName := ⟨RX12, "isPathMask", "(I)Z"⟩
abbrev cX12_maskOf : ByteArray := prog_14_method_30_code
def yX12_maskOf : MethodName := ⟨RX12, "maskOf", "(II)I"⟩
abbrev cX12_pathTileOf : ByteArray := prog_14_method_31_code
def yX12_pathTileOf : MethodName := ⟨RX12, "pathTileOf", "(II)I"⟩
abbrev cX12_pathMask : ByteArray := prog_14_method_32_code
def yX12_pathMask : MethodName := ⟨RX12, "pathMask", "(II)I"⟩
abbrev cX12_pathTile : ByteArray := prog_14_method_33_code
def yX12_pathTile : MethodName := ⟨RX12, "pathTile", "(II)I"⟩
abbrev cX12_setRank : ByteArray := prog_14_method_34_code
def yX12_setRank : MethodName := ⟨RX12, "setRank", "(II)I"⟩
abbrev cX12_rank : ByteArray := prog_14_method_35_code
def yX12_rank : MethodName := ⟨RX12, "rank", "(I)I"⟩
abbrev cX12_becomes : ByteArray := prog_14_method_36_code
def yX12_becomes : MethodName := ⟨RX12, "becomes", "(II)I"⟩
abbrev cX12_setTiles : ByteArray := prog_14_method_37_code
def yX12_setTiles : MethodName := ⟨RX12, "setTiles", "(II)I"⟩
abbrev cX12_setVariants : ByteArray := prog_14_method_38_code
def yX12_setVariants : MethodName := ⟨RX12, "setVariants", "(II)I"⟩
abbrev cX12_setSeed : ByteArray := prog_14_method_39_code
def yX12_setSeed : MethodName := ⟨RX12, "setSeed", "(I)I"⟩
abbrev cX12_setBorder : ByteArray := prog_14_method_40_code
def yX12_setBorder : MethodName := ⟨RX12, "setBorder", "(Z)I"⟩
abbrev cX12_flipped : ByteArray := prog_14_method_41_code
def yX12_flipped : MethodName := ⟨RX12, "flipped", "(II)I"⟩
abbrev cX12_wayOf : ByteArray := prog_14_method_42_code
def yX12_wayOf : MethodName := ⟨RX12, "wayOf", "(II)I"⟩
abbrev cX12_makesUp : ByteArray := prog_14_method_43_code
def yX12_makesUp : MethodName := ⟨RX12, "makesUp", "(III)Z"⟩
abbrev cX12_finds : ByteArray := prog_14_method_44_code
def yX12_finds : MethodName := ⟨RX12, "finds", "(II)V"⟩
abbrev cX12_way : ByteArray := prog_14_method_45_code
def yX12_way : MethodName := ⟨RX12, "way", "(II)I"⟩
abbrev cX12_parts : ByteArray := prog_14_method_46_code
def yX12_parts : MethodName := ⟨RX12, "parts", "(II)I"⟩
abbrev cX12_cornerAt : ByteArray := prog_14_method_47_code
def yX12_cornerAt : MethodName := ⟨RX12, "cornerAt", "(III)I"⟩
abbrev cX12_findsLayers : ByteArray := prog_14_method_48_code
def yX12_findsLayers : MethodName := ⟨RX12, "findsLayers", "(II)V"⟩
abbrev cX12_variantOf : ByteArray := prog_14_method_49_code
def yX12_variantOf : MethodName := ⟨RX12, "variantOf", "(III)I"⟩
abbrev cX12_findsPieces : ByteArray := prog_14_method_50_code
def yX12_findsPieces : MethodName := ⟨RX12, "findsPieces", "(II)V"⟩
abbrev cX12_ofPiece : ByteArray := prog_14_method_51_code
def yX12_ofPiece : MethodName := ⟨RX12, "ofPiece", "(II)I"⟩
abbrev cX12_layers : ByteArray := prog_14_method_52_code
def yX12_layers : MethodName := ⟨RX12, "layers", "(II)I"⟩
abbrev cX12_layer : ByteArray := prog_14_method_53_code
def yX12_layer : MethodName := ⟨RX12, "layer", "(IIII)I"⟩
abbrev cX12_pieces : ByteArray := prog_14_method_54_code
def yX12_pieces : MethodName := ⟨RX12, "pieces", "(II)I"⟩
abbrev cX12_piece : ByteArray := prog_14_method_55_code
def yX12_piece : MethodName := ⟨RX12, "piece", "(IIII)I"⟩
abbrev cX12_at : ByteArray := prog_14_method_56_code
def yX12_at : MethodName := ⟨RX12, "at", "(II)I"⟩
abbrev cX12_isStaleAt : ByteArray := prog_14_method_57_code
def yX12_isStaleAt : MethodName := ⟨RX12, "isStaleAt", "(II)Z"⟩
abbrev cX12_paints : ByteArray := prog_14_method_58_code
def yX12_paints : MethodName := ⟨RX12, "paints", "(II)I"⟩
abbrev cX12_painted : ByteArray := prog_14_method_59_code
def yX12_painted : MethodName := ⟨RX12, "painted", "(II)I"⟩
abbrev cX12_isStale : ByteArray := prog_14_method_60_code
def yX12_isStale : MethodName := ⟨RX12, "isStale", "(II)I"⟩
abbrev cX12_touched : ByteArray := prog_14_method_61_code
def yX12_touched : MethodName := ⟨RX12, "touched", "()I"⟩
abbrev cX12_stale : ByteArray := prog_14_method_62_code
def yX12_stale : MethodName := ⟨RX12, "stale", "()I"⟩
abbrev cX12_paint : ByteArray := prog_14_method_63_code
def yX12_paint : MethodName := ⟨RX12, "paint", "()I"⟩
abbrev cX12_paintCell : ByteArray := prog_14_method_64_code
def yX12_paintCell : MethodName := ⟨RX12, "paintCell", "(II)I"⟩
abbrev cX12_findsKinds : ByteArray := prog_14_method_65_code
def yX12_findsKinds : MethodName := ⟨RX12, "findsKinds", "()V"⟩
abbrev cX12_kinds : ByteArray := prog_14_method_66_code
def yX12_kinds : MethodName := ⟨RX12, "kinds", "()I"⟩
abbrev cX12_kind : ByteArray := prog_14_method_67_code
def yX12_kind : MethodName := ⟨RX12, "kind", "(II)I"⟩
abbrev cX12_undo : ByteArray := prog_14_method_68_code
def yX12_undo : MethodName := ⟨RX12, "undo", "()I"⟩
abbrev cX12_type : ByteArray := prog_14_method_69_code
def yX12_type : MethodName := ⟨RX12, "type", "(I)I"⟩
abbrev cX12_clearText : ByteArray := prog_14_method_70_code
def yX12_clearText : MethodName := ⟨RX12, "clearText", "()I"⟩
abbrev cX12_here : ByteArray := prog_14_method_71_code
def yX12_here : MethodName := ⟨RX12, "here", "()I"⟩
abbrev cX12_number : ByteArray := prog_14_method_72_code
def yX12_number : MethodName := ⟨RX12, "number", "()I"⟩
abbrev cX12_readsItem : ByteArray := prog_14_method_73_code
def yX12_readsItem : MethodName := ⟨RX12, "readsItem", "()Z"⟩
abbrev cX12_readsRow : ByteArray := prog_14_method_74_code
def yX12_readsRow : MethodName := ⟨RX12, "readsRow", "()Z"⟩
abbrev cX12_readsAll : ByteArray := prog_14_method_75_code
def yX12_readsAll : MethodName := ⟨RX12, "readsAll", "()Z"⟩
abbrev cX12_textFault : ByteArray := prog_14_method_76_code
def yX12_textFault : MethodName := ⟨RX12, "textFault", "()I"⟩
abbrev cX12_load : ByteArray := prog_14_method_77_code
def yX12_load : MethodName := ⟨RX12, "load", "()I"⟩
abbrev cX12_puts : ByteArray := prog_14_method_78_code
def yX12_puts : MethodName := ⟨RX12, "puts", "(I)V"⟩
abbrev cX12_writesItem : ByteArray := prog_14_method_79_code
def yX12_writesItem : MethodName := ⟨RX12, "writesItem", "(II)V"⟩
abbrev cX12_write : ByteArray := prog_14_method_80_code
def yX12_write : MethodName := ⟨RX12, "write", "()I"⟩
abbrev cX12_written : ByteArray := prog_14_method_81_code
def yX12_written : MethodName := ⟨RX12, "written", "(I)I"⟩
abbrev cX12_note : ByteArray := prog_14_method_82_code
def yX12_note : MethodName := ⟨RX12, "note", "(I)V"⟩
abbrev cX12_noteCell : ByteArray := prog_14_method_83_code
def yX12_noteCell : MethodName := ⟨RX12, "noteCell", "(II)V"⟩
abbrev cX12_digest : ByteArray := prog_14_method_84_code
def yX12_digest : MethodName := ⟨RX12, "digest", "()J"⟩
def RJ6 : String := "java/lang/Integer"
def TJ6 : u_T := fun k => match k with
  | _ => ("", "", "", false)
def tyJ6 : Nat → FieldType := fun k => match k with
  | _ => .int
abbrev wsJ60 : List Cond := u_ws RJ6 TJ6 0
theorem nmJ6 : ∀ a, a < 0 → ∀ b, b < 0 → a ≠ b → (TJ6 a).2.1 ≠ (TJ6 b).2.1 := by decide +kernel
theorem tyJ6_ok : ∀ k, k < 0 → parseFieldDescriptor (TJ6 k).2.2.1 = some (tyJ6 k) := by decide +kernel
abbrev cJ6_bitCount_0f7a4 : ByteArray := prog_15_method_49_code
def yJ6_bitCount_0f7a4 : MethodName := ⟨RJ6, "bitCount", "(I)I"⟩
def RJ9 : String := "java/lang/Math"
def TJ9 : u_T := fun k => match k with
  | _ => ("", "", "", false)
def tyJ9 : Nat → FieldType := fun k => match k with
  | _ => .int
abbrev wsJ90 : List Cond := u_ws RJ9 TJ9 0
theorem nmJ9 : ∀ a, a < 0 → ∀ b, b < 0 → a ≠ b → (TJ9 a).2.1 ≠ (TJ9 b).2.1 := by decide +kernel
theorem tyJ9_ok : ∀ k, k < 0 → parseFieldDescriptor (TJ9 k).2.2.1 = some (tyJ9 k) := by decide +kernel
abbrev cJ9_abs_0f7a4 : ByteArray := prog_16_method_59_code
def yJ9_abs_0f7a4 : MethodName := ⟨RJ9, "abs", "(I)I"⟩
abbrev cJ9_max_7cf53 : ByteArray := prog_16_method_65_code
def yJ9_max_7cf53 : MethodName := ⟨RJ9, "max", "(II)I"⟩
abbrev cJ9_min_7cf53 : ByteArray := prog_16_method_69_code
def yJ9_min_7cf53 : MethodName := ⟨RJ9, "min", "(II)I"⟩
def RJ10 : String := "java/lang/System"
def TJ10 : u_T := fun k => match k with
  | _ => ("", "", "", false)
def tyJ10 : Nat → FieldType := fun k => match k with
  | _ => .int
abbrev wsJ100 : List Cond := u_ws RJ10 TJ10 0
theorem nmJ10 : ∀ a, a < 0 → ∀ b, b < 0 → a ≠ b → (TJ10 a).2.1 ≠ (TJ10 b).2.1 := by decide +kernel
theorem tyJ10_ok : ∀ k, k < 0 → parseFieldDescriptor (TJ10 k).2.2.1 = some (tyJ10 k) := by decide +kernel
def RL : String := "TerrainTilerLaw"
abbrev cL_law : ByteArray := code
def yL_law : MethodName := ⟨RL, "law", "([I)Z"⟩
end
section
/-! the classes whose objects are made, by number; their fields' types; the rows of links -/
abbrev tq_cl : List vw_C := [(RX0, TX0, 2), (RX1, TX1, 4), (RX2, TX2, 3), (RX3, TX3, 4), (RX4, TX4, 5), (RX5, TX5, 3), (RX6, TX6, 6), (RX7, TX7, 7), (RX8, TX8, 3), (RX9, TX9, 4), (RX10, TX10, 2), (RX11, TX11, 8), (RX12, TX12, 26)]
def tq_ty (c k : Nat) : FieldType := match c with
  | 0 => tyX0 k
  | 1 => tyX1 k
  | 2 => tyX2 k
  | 3 => tyX3 k
  | 4 => tyX4 k
  | 5 => tyX5 k
  | 6 => tyX6 k
  | 7 => tyX7 k
  | 8 => tyX8 k
  | 9 => tyX9 k
  | 10 => tyX10 k
  | 11 => tyX11 k
  | _ => tyX12 k
def tq_nf (c : Nat) : Nat := match c with
  | 0 => 2
  | 1 => 4
  | 2 => 3
  | 3 => 4
  | 4 => 5
  | 5 => 3
  | 6 => 6
  | 7 => 7
  | 8 => 3
  | 9 => 4
  | 10 => 2
  | 11 => 8
  | _ => 26
def tq_cn (c : Nat) : String := match c with
  | 0 => RX0
  | 1 => RX1
  | 2 => RX2
  | 3 => RX3
  | 4 => RX4
  | 5 => RX5
  | 6 => RX6
  | 7 => RX7
  | 8 => RX8
  | 9 => RX9
  | 10 => RX10
  | 11 => RX11
  | 12 => RX12
  | 13 => RL
  | 14 => RJ6
  | _ => RJ9
def tq_fin (c k : Nat) : Bool := match tq_cl[c]? with
  | some q => (q.2.1 k).2.2.2
  | none => true
def tq_ws : List Cond := lw_tbl.filter goodWord
theorem tq_inW {w : Cond} (i : Nat) (h : lw_tbl[i]? = some w) (hg : goodWord w = true) : w ∈ tq_ws := List.mem_filter.mpr ⟨List.mem_of_getElem? h, hg⟩
theorem tq_lay0 : ∀ w ∈ u_ws RX0 TX0 2, w ∈ tq_ws := by
  have h : (u_ws RX0 TX0 2).all (fun w => decide (w ∈ lw_tbl) && goodWord w) = true := by decide +kernel
  intro w hw
  have h1 := List.all_eq_true.mp h w hw
  simp only [Bool.and_eq_true, decide_eq_true_eq] at h1
  exact List.mem_filter.mpr h1
theorem tq_lay1 : ∀ w ∈ u_ws RX1 TX1 4, w ∈ tq_ws := by
  have h : (u_ws RX1 TX1 4).all (fun w => decide (w ∈ lw_tbl) && goodWord w) = true := by decide +kernel
  intro w hw
  have h1 := List.all_eq_true.mp h w hw
  simp only [Bool.and_eq_true, decide_eq_true_eq] at h1
  exact List.mem_filter.mpr h1
theorem tq_lay2 : ∀ w ∈ u_ws RX2 TX2 3, w ∈ tq_ws := by
  have h : (u_ws RX2 TX2 3).all (fun w => decide (w ∈ lw_tbl) && goodWord w) = true := by decide +kernel
  intro w hw
  have h1 := List.all_eq_true.mp h w hw
  simp only [Bool.and_eq_true, decide_eq_true_eq] at h1
  exact List.mem_filter.mpr h1
theorem tq_lay3 : ∀ w ∈ u_ws RX3 TX3 4, w ∈ tq_ws := by
  have h : (u_ws RX3 TX3 4).all (fun w => decide (w ∈ lw_tbl) && goodWord w) = true := by decide +kernel
  intro w hw
  have h1 := List.all_eq_true.mp h w hw
  simp only [Bool.and_eq_true, decide_eq_true_eq] at h1
  exact List.mem_filter.mpr h1
theorem tq_lay4 : ∀ w ∈ u_ws RX4 TX4 5, w ∈ tq_ws := by
  have h : (u_ws RX4 TX4 5).all (fun w => decide (w ∈ lw_tbl) && goodWord w) = true := by decide +kernel
  intro w hw
  have h1 := List.all_eq_true.mp h w hw
  simp only [Bool.and_eq_true, decide_eq_true_eq] at h1
  exact List.mem_filter.mpr h1
theorem tq_lay5 : ∀ w ∈ u_ws RX5 TX5 3, w ∈ tq_ws := by
  have h : (u_ws RX5 TX5 3).all (fun w => decide (w ∈ lw_tbl) && goodWord w) = true := by decide +kernel
  intro w hw
  have h1 := List.all_eq_true.mp h w hw
  simp only [Bool.and_eq_true, decide_eq_true_eq] at h1
  exact List.mem_filter.mpr h1
theorem tq_lay6 : ∀ w ∈ u_ws RX6 TX6 6, w ∈ tq_ws := by
  have h : (u_ws RX6 TX6 6).all (fun w => decide (w ∈ lw_tbl) && goodWord w) = true := by decide +kernel
  intro w hw
  have h1 := List.all_eq_true.mp h w hw
  simp only [Bool.and_eq_true, decide_eq_true_eq] at h1
  exact List.mem_filter.mpr h1
theorem tq_lay7 : ∀ w ∈ u_ws RX7 TX7 7, w ∈ tq_ws := by
  have h : (u_ws RX7 TX7 7).all (fun w => decide (w ∈ lw_tbl) && goodWord w) = true := by decide +kernel
  intro w hw
  have h1 := List.all_eq_true.mp h w hw
  simp only [Bool.and_eq_true, decide_eq_true_eq] at h1
  exact List.mem_filter.mpr h1
theorem tq_lay8 : ∀ w ∈ u_ws RX8 TX8 3, w ∈ tq_ws := by
  have h : (u_ws RX8 TX8 3).all (fun w => decide (w ∈ lw_tbl) && goodWord w) = true := by decide +kernel
  intro w hw
  have h1 := List.all_eq_true.mp h w hw
  simp only [Bool.and_eq_true, decide_eq_true_eq] at h1
  exact List.mem_filter.mpr h1
theorem tq_lay9 : ∀ w ∈ u_ws RX9 TX9 4, w ∈ tq_ws := by
  have h : (u_ws RX9 TX9 4).all (fun w => decide (w ∈ lw_tbl) && goodWord w) = true := by decide +kernel
  intro w hw
  have h1 := List.all_eq_true.mp h w hw
  simp only [Bool.and_eq_true, decide_eq_true_eq] at h1
  exact List.mem_filter.mpr h1
theorem tq_lay10 : ∀ w ∈ u_ws RX10 TX10 2, w ∈ tq_ws := by
  have h : (u_ws RX10 TX10 2).all (fun w => decide (w ∈ lw_tbl) && goodWord w) = true := by decide +kernel
  intro w hw
  have h1 := List.all_eq_true.mp h w hw
  simp only [Bool.and_eq_true, decide_eq_true_eq] at h1
  exact List.mem_filter.mpr h1
theorem tq_lay11 : ∀ w ∈ u_ws RX11 TX11 8, w ∈ tq_ws := by
  have h : (u_ws RX11 TX11 8).all (fun w => decide (w ∈ lw_tbl) && goodWord w) = true := by decide +kernel
  intro w hw
  have h1 := List.all_eq_true.mp h w hw
  simp only [Bool.and_eq_true, decide_eq_true_eq] at h1
  exact List.mem_filter.mpr h1
theorem tq_lay12 : ∀ w ∈ u_ws RX12 TX12 26, w ∈ tq_ws := by
  have h : (u_ws RX12 TX12 26).all (fun w => decide (w ∈ lw_tbl) && goodWord w) = true := by decide +kernel
  intro w hw
  have h1 := List.all_eq_true.mp h w hw
  simp only [Bool.and_eq_true, decide_eq_true_eq] at h1
  exact List.mem_filter.mpr h1
theorem tq_lay {c : Nat} {q : vw_C} (h : tq_cl[c]? = some q) : ∀ w ∈ u_ws q.1 q.2.1 q.2.2, w ∈ tq_ws := by
  match c, h with
  | 0, h => cases h; exact tq_lay0
  | 1, h => cases h; exact tq_lay1
  | 2, h => cases h; exact tq_lay2
  | 3, h => cases h; exact tq_lay3
  | 4, h => cases h; exact tq_lay4
  | 5, h => cases h; exact tq_lay5
  | 6, h => cases h; exact tq_lay6
  | 7, h => cases h; exact tq_lay7
  | 8, h => cases h; exact tq_lay8
  | 9, h => cases h; exact tq_lay9
  | 10, h => cases h; exact tq_lay10
  | 11, h => cases h; exact tq_lay11
  | 12, h => cases h; exact tq_lay12
  | c + 13, h => simp [tq_cl] at h
theorem tq_tys_ok {c : Nat} {q : vw_C} (h : tq_cl[c]? = some q) : ∀ k, k < q.2.2 → parseFieldDescriptor (q.2.1 k).2.2.1 = some (tq_ty c k) := by
  match c, h with
  | 0, h => cases h; exact tyX0_ok
  | 1, h => cases h; exact tyX1_ok
  | 2, h => cases h; exact tyX2_ok
  | 3, h => cases h; exact tyX3_ok
  | 4, h => cases h; exact tyX4_ok
  | 5, h => cases h; exact tyX5_ok
  | 6, h => cases h; exact tyX6_ok
  | 7, h => cases h; exact tyX7_ok
  | 8, h => cases h; exact tyX8_ok
  | 9, h => cases h; exact tyX9_ok
  | 10, h => cases h; exact tyX10_ok
  | 11, h => cases h; exact tyX11_ok
  | 12, h => cases h; exact tyX12_ok
  | c + 13, h => simp [tq_cl] at h
theorem tq_nms {c : Nat} {q : vw_C} (h : tq_cl[c]? = some q) : ∀ a, a < q.2.2 → ∀ b, b < q.2.2 → a ≠ b → (q.2.1 a).2.1 ≠ (q.2.1 b).2.1 := by
  match c, h with
  | 0, h => cases h; exact nmX0
  | 1, h => cases h; exact nmX1
  | 2, h => cases h; exact nmX2
  | 3, h => cases h; exact nmX3
  | 4, h => cases h; exact nmX4
  | 5, h => cases h; exact nmX5
  | 6, h => cases h; exact nmX6
  | 7, h => cases h; exact nmX7
  | 8, h => cases h; exact nmX8
  | 9, h => cases h; exact nmX9
  | 10, h => cases h; exact nmX10
  | 11, h => cases h; exact nmX11
  | 12, h => cases h; exact nmX12
  | c + 13, h => simp [tq_cl] at h
theorem tq_nf_ok {c : Nat} {q : vw_C} (h : tq_cl[c]? = some q) : q.2.2 = tq_nf c := by
  match c, h with
  | 0, h => cases h; rfl
  | 1, h => cases h; rfl
  | 2, h => cases h; rfl
  | 3, h => cases h; rfl
  | 4, h => cases h; rfl
  | 5, h => cases h; rfl
  | 6, h => cases h; rfl
  | 7, h => cases h; rfl
  | 8, h => cases h; rfl
  | 9, h => cases h; rfl
  | 10, h => cases h; rfl
  | 11, h => cases h; rfl
  | 12, h => cases h; rfl
  | c + 13, h => simp [tq_cl] at h
/-- field links: own class, entry, class and slot of the field, place in the words -/
def tq_fl : List (Nat × Nat × Nat × Nat × Nat) := [(3, 18, 3, 0, 95), (3, 22, 3, 1, 99), (3, 9, 3, 2, 103), (3, 15, 3, 3, 106), (10, 9, 10, 0, 131), (10, 15, 10, 1, 132), (6, 9, 6, 0, 142), (6, 15, 6, 1, 143), (6, 18, 6, 2, 144), (6, 24, 6, 3, 146), (6, 42, 6, 4, 149), (6, 46, 6, 5, 152), (1, 9, 1, 0, 173), (1, 15, 1, 1, 176), (1, 18, 1, 2, 177), (1, 21, 1, 3, 178), (8, 12, 8, 0, 190), (8, 21, 8, 1, 194), (8, 28, 8, 2, 197), (2, 11, 2, 0, 216), (2, 16, 2, 1, 217), (2, 20, 2, 2, 218), (5, 9, 5, 0, 233), (5, 15, 5, 1, 234), (5, 22, 5, 2, 235), (7, 9, 7, 0, 250), (7, 15, 7, 1, 251), (7, 18, 7, 2, 253), (7, 32, 7, 3, 255), (7, 21, 7, 4, 257), (7, 28, 7, 5, 260), (7, 61, 7, 6, 263), (9, 9, 9, 0, 287), (9, 15, 9, 1, 289), (9, 18, 9, 2, 291), (9, 21, 9, 3, 292), (0, 9, 0, 0, 309), (0, 13, 0, 1, 312), (4, 9, 4, 0, 326), (4, 15, 4, 1, 328), (4, 19, 4, 2, 330), (4, 22, 4, 3, 331), (4, 25, 4, 4, 333), (11, 12, 11, 0, 368), (11, 19, 11, 1, 369), (11, 26, 11, 2, 370), (11, 33, 11, 3, 371), (11, 40, 11, 4, 372), (11, 47, 11, 5, 373), (11, 51, 11, 6, 374), (11, 57, 11, 7, 375), (12, 7, 12, 0, 899), (12, 55, 12, 1, 900), (12, 13, 12, 2, 901), (12, 179, 12, 3, 902), (12, 16, 12, 4, 903), (12, 215, 12, 5, 904), (12, 19, 12, 6, 905), (12, 23, 12, 7, 906), (12, 26, 12, 8, 907), (12, 29, 12, 9, 908), (12, 133, 12, 10, 909), (12, 32, 12, 11, 910), (12, 35, 12, 12, 911), (12, 142, 12, 13, 912), (12, 38, 12, 14, 913), (12, 152, 12, 15, 914), (12, 41, 12, 16, 915), (12, 44, 12, 17, 916), (12, 173, 12, 18, 917), (12, 182, 12, 19, 918), (12, 47, 12, 20, 919), (12, 195, 12, 21, 920), (12, 192, 12, 22, 921), (12, 198, 12, 23, 922), (12, 205, 12, 24, 923), (12, 227, 12, 25, 924)]
/-- those to a nest mate -/
def tq_fn : List (Nat × Nat × Nat × Nat × Nat) := [(9, 36, 3, 0, 96), (8, 42, 3, 0, 97), (11, 81, 3, 0, 98), (9, 31, 3, 1, 100), (8, 46, 3, 1, 101), (11, 87, 3, 1, 102), (8, 49, 3, 2, 104), (11, 289, 3, 2, 105), (8, 53, 3, 3, 107), (11, 194, 6, 2, 145), (7, 82, 6, 3, 147), (11, 182, 6, 3, 148), (11, 198, 6, 4, 150), (7, 49, 6, 5, 151), (11, 162, 6, 5, 153), (9, 51, 1, 0, 174), (11, 238, 1, 0, 175), (8, 87, 1, 3, 179), (11, 249, 1, 3, 180), (9, 25, 8, 0, 191), (7, 45, 8, 0, 192), (11, 77, 8, 0, 193), (7, 35, 8, 1, 195), (11, 135, 8, 1, 196), (9, 39, 8, 2, 198), (11, 234, 8, 2, 199), (11, 265, 2, 2, 219), (11, 125, 5, 2, 236), (11, 219, 7, 1, 252), (11, 222, 7, 2, 254), (11, 216, 7, 3, 256), (1, 43, 7, 4, 258), (11, 228, 7, 4, 259), (1, 30, 7, 5, 261), (11, 225, 7, 5, 262), (1, 36, 7, 6, 264), (11, 328, 7, 6, 265), (11, 262, 9, 0, 288), (11, 259, 9, 1, 290), (11, 258, 9, 3, 293), (4, 41, 0, 0, 310), (11, 299, 0, 0, 311), (4, 28, 0, 1, 313), (11, 269, 0, 1, 314), (11, 286, 4, 0, 327), (11, 283, 4, 1, 329), (11, 280, 4, 3, 332)]
def tq_T (c k : Nat) : String × String × String × Bool := match tq_cl[c]? with
  | some q => q.2.1 k
  | none => ("", "", "", true)
def tq_fw (q : Nat × Nat × Nat × Nat × Nat) : Cond := .fieldLink (tq_cn q.1) q.2.1 (tq_T q.2.2.1 q.2.2.2.1).1 (tq_T q.2.2.1 q.2.2.2.1).2.1 (tq_T q.2.2.1 q.2.2.2.1).2.2.1
def tq_fnw (q : Nat × Nat × Nat × Nat × Nat) : Cond := .fieldLinkNest (tq_cn q.1) q.2.1 (tq_T q.2.2.1 q.2.2.2.1).1 (tq_T q.2.2.1 q.2.2.2.1).2.1 (tq_T q.2.2.1 q.2.2.2.1).2.2.1 "TerrainTiler"
set_option maxRecDepth 20000 in
theorem tq_fl_ok : tq_fl.all (fun q => decide (lw_tbl[q.2.2.2.2]? = some (tq_fw q)) && (decide (q.2.2.2.1 < tq_nf q.2.2.1) && decide (q.2.2.1 < 13))) = true := by decide +kernel
set_option maxRecDepth 20000 in
theorem tq_fn_ok : tq_fn.all (fun q => decide (lw_tbl[q.2.2.2.2]? = some (tq_fnw q)) && (decide (q.2.2.2.1 < tq_nf q.2.2.1) && decide (q.2.2.1 < 13))) = true := by decide +kernel
/-- method links: own class, entry, method, place -/
def tq_ml : List (Nat × Nat × MethodName × Nat) := [(13, 9, yX11_init, 77), (11, 3, objectInit, 80), (8, 3, objectInit, 88), (3, 3, objectInit, 94), (8, 20, yX6_init, 120), (6, 3, objectInit, 123), (6, 23, yX10_init, 126), (10, 3, objectInit, 129), (6, 28, yX6_place, 138), (1, 3, objectInit, 172), (11, 18, yX2_init, 209), (2, 1, objectInit, 212), (5, 3, objectInit, 232), (7, 3, objectInit, 249), (9, 3, objectInit, 286), (0, 1, objectInit, 308), (4, 3, objectInit, 325), (11, 61, yX8_startMap, 345), (8, 56, yX1_wipe, 349), (8, 59, yX8_touchAll, 353), (8, 69, yX8_touchBlock, 357), (8, 83, yX3_isCell, 361), (13, 13, yX11_begin, 393), (11, 65, yX11_isTerrain, 397), (11, 69, yX11_isWithin, 400), (11, 73, yX2_record, 403), (2, 23, yX8_copyFrom, 407), (8, 32, yX3_copyFrom, 411), (3, 25, arraycopyName, 415), (8, 36, yX6_copyFrom, 418), (6, 32, arraycopyName, 422), (6, 38, yX10_copyFrom, 423), (10, 19, arraycopyName, 427), (8, 39, yX1_copyFrom, 428), (1, 24, arraycopyName, 432), (13, 18, yX11_size, 433), (11, 90, yX3_countPaths, 437), (3, 38, yX3_pathAt, 441), (13, 23, yX11_setCorner, 446), (11, 94, yX3_isCorner, 450), (11, 98, yX3_terrainAt, 454), (11, 102, yX8_changeCorner, 461), (8, 62, yX3_terrainAt, 465), (13, 27, yX11_corner, 467), (13, 32, yX11_fill, 471), (11, 106, yJ9_min_7cf53, 475), (11, 111, yJ9_max_7cf53, 478), (11, 114, yX8_changeBlock, 481), (8, 73, yX8_changeCorner, 485), (13, 37, yX11_flood, 486), (11, 118, yX5_forget, 490), (11, 121, yX5_gather, 494), (5, 26, yX3_terrainAt, 498), (5, 31, yX5_meet, 499), (5, 42, yX3_isCorner, 503), (5, 46, yX5_knows, 504), (5, 35, yX5_columnOf, 509), (5, 39, yX5_rowOf, 513), (11, 128, yX5_columnOf, 517), (11, 132, yX5_rowOf, 518), (13, 41, yX11_raise, 519), (11, 139, yX6_rankOf, 523), (11, 144, yJ9_abs_0f7a4, 527), (11, 147, yX6_terrainWithRank, 530), (13, 45, yX11_regions, 534), (11, 150, yX5_knows, 538), (13, 49, yX11_setPath, 539), (11, 153, yX3_isCell, 543), (11, 156, yX3_pathAt, 544), (11, 159, yX8_changePath, 545), (8, 77, yX3_pathAt, 549), (13, 54, yX11_hasPath, 550), (13, 58, yX11_pathMask, 554), (11, 166, yX3_pathMaskAt, 558), (3, 47, yX3_leadsTo, 566), (3, 58, yX3_isCell, 570), (13, 62, yX11_pathTile, 571), (11, 170, yX3_pathTileAt, 575), (3, 51, yX3_pathMaskAt, 579), (13, 66, yX11_setRank, 582), (11, 173, yX6_moveTo, 586), (11, 177, yX11_touchAllIf, 590), (11, 315, yX8_touchAll, 594), (13, 70, yX11_rank, 595), (13, 74, yX11_setTiles, 599), (11, 186, yX10_setOf, 604), (11, 191, yX10_choose, 608), (10, 26, yX10_wayOf, 613), (10, 33, yX10_flip, 617), (10, 36, yX10_has, 620), (10, 30, yX10_fewestParts, 623), (10, 40, yX10_firstParts, 626), (13, 78, yX11_setVariants, 629), (13, 82, yX11_setSeed, 633), (13, 86, yX11_setBorder, 637), (13, 91, yX11_way, 641), (11, 201, yX10_wayOf, 645), (13, 95, yX11_parts, 646), (11, 204, yX10_partsOf, 650), (11, 207, yJ6_bitCount_0f7a4, 654), (13, 99, yX11_layers, 660), (11, 212, yX7_draw, 664), (7, 24, yX7_drawLayers, 668), (7, 64, yX3_terrainAt, 672), (7, 68, yX6_rankOf, 673), (7, 72, yX7_isRankOfCorner, 674), (7, 76, yX6_terrainWithRank, 678), (7, 79, yX7_maskFrom, 679), (7, 41, yX7_drawPieces, 683), (7, 86, yX10_partsOf, 687), (7, 91, yX10_has, 688), (7, 95, yX10_wayOf, 689), (7, 98, yX10_flip, 690), (7, 101, yX6_variantOf, 691), (7, 55, yX3_pathTileAt, 699), (13, 103, yX11_layer, 700), (13, 108, yX11_pieces, 704), (13, 112, yX11_piece, 708), (11, 231, yX11_propertyOfPiece, 712), (13, 116, yX11_painted, 715), (11, 243, yX11_cellIndex, 719), (13, 120, yX11_isStale, 720), (11, 246, yX11_staleAt, 724), (11, 318, yX1_shows, 728), (1, 39, yX1_codeAt, 732), (13, 124, yX11_touched, 736), (13, 129, yX11_stale, 740), (13, 133, yX11_paint, 744), (11, 252, yX11_renew, 748), (11, 322, yX1_take, 752), (13, 137, yX11_paintCell, 756), (13, 141, yX11_kinds, 760), (11, 255, yX9_take, 764), (9, 47, yX9_addCell, 769), (9, 56, yX1_codeAt, 773), (9, 59, yX9_add, 774), (13, 145, yX11_kind, 778), (13, 149, yX11_undo, 782), (11, 266, yX2_restore, 786), (13, 153, yX11_type, 790), (11, 272, yX0_append, 794), (13, 157, yX11_clearText, 798), (13, 161, yX11_textFault, 802), (11, 276, yX4_faultOf, 806), (4, 33, yX4_accept, 810), (4, 44, yX4_isDigit, 814), (4, 48, yX4_acceptNumber, 818), (4, 51, yX4_acceptRowEnd, 822), (4, 37, yX4_isRowWhole, 826), (4, 58, yX4_acceptLetter, 831), (4, 66, yJ9_max_7cf53, 835), (13, 165, yX11_load, 837), (11, 290, arraycopyName, 841), (13, 169, yX11_write, 842), (11, 296, yX11_writeRow, 846), (11, 325, yX11_writeItem, 850), (13, 173, yX11_written, 854), (13, 177, yX11_digest, 858), (11, 302, yX11_mix, 863), (11, 306, yX11_mixCell, 867), (11, 331, yX1_codeAt, 871), (11, 310, yX11_touched, 872), (13, 12, yX12_init, 875), (12, 1, objectInit, 878), (12, 51, yX12_begins, 880), (12, 73, yX12_touchesAll, 884), (12, 70, yX12_touches, 888), (12, 66, yX12_isCell, 892), (12, 62, yX12_in, 896), (13, 17, yX12_begin, 979), (12, 80, yX12_isTerrain, 983), (12, 84, yX12_saves, 986), (12, 59, yX12_copies, 990), (13, 22, yX12_size, 994), (13, 26, yX12_setCorner, 998), (12, 87, yX12_isCorner, 1002), (12, 76, yX12_cornerOf, 1006), (12, 90, yX12_lays, 1010), (13, 31, yX12_corner, 1014), (13, 36, yX12_fill, 1018), (13, 40, yX12_flood, 1022), (12, 97, yX12_forgets, 1026), (12, 100, yX12_reaches, 1030), (12, 94, yX12_isMet, 1034), (13, 44, yX12_raise, 1038), (12, 103, yX12_rankOf, 1042), (12, 107, yX12_size_, 1046), (13, 48, yX12_regions, 1049), (13, 53, yX12_setPath, 1053), (12, 110, yX12_pathOf, 1057), (13, 57, yX12_hasPath, 1061), (13, 61, yX12_pathMask, 1065), (12, 113, yX12_maskOf, 1069), (13, 65, yX12_pathTile, 1073), (12, 119, yX12_pathTileOf, 1077), (12, 116, yX12_isPathMask, 1081), (13, 69, yX12_setRank, 1084), (13, 73, yX12_rank, 1088), (13, 77, yX12_setTiles, 1092), (12, 124, yX12_becomes, 1098), (13, 81, yX12_setVariants, 1102), (13, 85, yX12_setSeed, 1106), (13, 90, yX12_setBorder, 1110), (13, 94, yX12_way, 1114), (12, 130, yX12_wayOf, 1118), (12, 127, yX12_flipped, 1122), (13, 98, yX12_parts, 1125), (12, 139, yX12_finds, 1129), (12, 136, yX12_makesUp, 1133), (13, 102, yX12_layers, 1137), (12, 149, yX12_findsLayers, 1141), (12, 145, yX12_cornerAt, 1145), (13, 107, yX12_layer, 1149), (13, 111, yX12_pieces, 1153), (12, 158, yX12_findsPieces, 1157), (12, 155, yX12_variantOf, 1161), (13, 115, yX12_piece, 1166), (12, 161, yX12_ofPiece, 1170), (13, 119, yX12_painted, 1173), (12, 164, yX12_at, 1177), (13, 123, yX12_isStale, 1181), (12, 167, yX12_isStaleAt, 1185), (13, 128, yX12_touched, 1189), (13, 132, yX12_stale, 1193), (13, 136, yX12_paint, 1197), (12, 170, yX12_paints, 1201), (13, 140, yX12_paintCell, 1205), (13, 144, yX12_kinds, 1209), (12, 176, yX12_findsKinds, 1213), (13, 148, yX12_kind, 1217), (13, 152, yX12_undo, 1221), (13, 156, yX12_type, 1225), (13, 160, yX12_clearText, 1229), (13, 164, yX12_textFault, 1233), (12, 212, yX12_readsAll, 1237), (12, 209, yX12_readsRow, 1241), (12, 201, yX12_readsItem, 1245), (12, 189, yX12_number, 1249), (12, 185, yX12_here, 1253), (13, 168, yX12_load, 1257), (13, 172, yX12_write, 1261), (12, 218, yX12_puts, 1265), (12, 222, yX12_writesItem, 1269), (13, 176, yX12_written, 1273), (13, 181, yX12_digest, 1277), (12, 231, yX12_note, 1282), (12, 236, yX12_noteCell, 1287), (12, 239, yX12_touched, 1291)]
def tq_mn : List (Nat × Nat × MethodName × Nat) := [(11, 11, yX8_init, 85), (8, 11, yX3_init, 91), (8, 27, yX1_init, 169), (2, 15, yX8_init, 215), (11, 25, yX5_init, 229), (11, 32, yX7_init, 246), (11, 39, yX9_init, 283), (11, 46, yX0_init, 305), (11, 56, yX4_init, 322), (8, 80, yX11_cellIndex, 365), (3, 35, yX11_cellIndex, 445), (3, 31, yX11_cornerIndex, 458), (8, 66, yX11_cornerIndex, 466), (5, 18, yX11_cornerIndex, 508), (7, 105, yX11_codeOfPiece, 696), (9, 43, yX11_cellIndex, 768), (4, 62, yX11_isWithin, 817), (4, 55, yX11_isTerrain, 830), (4, 72, yX11_cornerIndex, 836)]
def tq_mw (q : Nat × Nat × MethodName × Nat) : Cond := .methodLink (tq_cn q.1) q.2.1 q.2.2.1
def tq_mnw (q : Nat × Nat × MethodName × Nat) : Cond := .methodLinkNest (tq_cn q.1) q.2.1 q.2.2.1 "TerrainTiler"
set_option maxRecDepth 20000 in
theorem tq_ml_ok : tq_ml.all (fun q => decide (lw_tbl[q.2.2.2]? = some (tq_mw q))) = true := by decide +kernel
set_option maxRecDepth 20000 in
theorem tq_mn_ok : tq_mn.all (fun q => decide (lw_tbl[q.2.2.2]? = some (tq_mnw q))) = true := by decide +kernel
def tq_kc : List (Nat × Nat × Int32 × Nat) := [(10, 18, 65534, 130), (11, 181, 65535, 603), (10, 25, 32768, 612), (14, 265, 1431655765, 657), (14, 266, 858993459, 658), (14, 267, 252645135, 659), (6, 50, 739982445, 695), (12, 50, 65534, 879), (12, 122, 65535, 1096), (12, 123, 32768, 1097), (12, 148, 739982445, 1165)]
def tq_kl : List (Nat × Nat × Int64 × Nat) := [(11, 300, 17, 862), (11, 313, 31, 866), (12, 234, 17, 1281), (12, 225, 31, 1286)]
theorem tq_kc_ok : tq_kc.all (fun q => decide (lw_tbl[q.2.2.2]? = some (.constant (tq_cn q.1) q.2.1 q.2.2.1))) = true := by decide +kernel
theorem tq_kl_ok : tq_kl.all (fun q => decide (lw_tbl[q.2.2.2]? = some (.constantLong (tq_cn q.1) q.2.1 q.2.2.1))) = true := by decide +kernel
def tq_kk : List (Nat × Nat × Nat × Nat) := [(13, 7, 11, 75), (11, 9, 8, 83), (8, 9, 3, 89), (8, 18, 6, 118), (6, 21, 10, 124), (8, 25, 1, 167), (11, 16, 2, 207), (2, 9, 8, 213), (11, 23, 5, 227), (11, 30, 7, 244), (11, 37, 9, 281), (11, 44, 0, 303), (11, 54, 4, 320), (13, 10, 12, 873)]
theorem tq_kk_ok : tq_kk.all (fun q => decide (lw_tbl[q.2.2.2]? = some (.classLink (tq_cn q.1) q.2.1 (tq_cn q.2.2.1)))) = true := by decide +kernel
/-- the three static rows: name, number 1 to 3 -/
def tq_sn (i : Nat) : String := match i with
  | 1 => "ASIDE"
  | 2 => "DOWN"
  | _ => "PATH_MASKS"
def tq_sl : List (Nat × Nat × Nat × Nat) := [(3, 41, 1, 562), (3, 44, 2, 564), (3, 55, 3, 580)]
theorem tq_sl_ok : tq_sl.all (fun q => decide (lw_tbl[q.2.2.2]? = some (.fieldLink (tq_cn q.1) q.2.1 "TerrainTiler$Land" (tq_sn q.2.2.1) "[I"))) = true := by decide +kernel
/-- a method: its name, code, locals, result -/
abbrev tq_M : Type := MethodName × ByteArray × Nat × Option FieldType
def tq_mok (μ : tq_M) (n : Nat) : Prop := .code μ.1 μ.2.1 μ.2.2.1 μ.2.2.2 ∈ tq_ws ∧ .initialized μ.1.cls ∈ tq_ws ∧ plainName μ.1.cls = true ∧ (μ.1.cls ≠ "java/lang/invoke/MethodHandle" ∧ μ.1.cls ≠ "java/lang/invoke/VarHandle" ∧ (parseMethodDescriptor μ.1.desc).map (fun d => d.parameters.length) = some n) ∧ μ.2.2.1 ≤ 21
def tq_inst (μ : tq_M) : Prop := .instanceMethod μ.1 ∈ tq_ws ∧ .selects μ.1.cls μ.1 μ.1 ∈ tq_ws
def tq_stat (μ : tq_M) : Prop := .static μ.1 ∈ tq_ws
def tq_ctor (μ : tq_M) : Prop := .instanceMethod μ.1 ∈ tq_ws ∧ μ.1.name = "<init>"
def mX11_init : tq_M := (yX11_init, cX11_init, 1, none)
theorem kX11_init : tq_mok mX11_init 0 := ⟨tq_inW 79 (by decide +kernel) rfl, tq_inW 59 (by decide +kernel) rfl, by decide +kernel, by decide +kernel, by decide +kernel⟩
theorem sX11_init : tq_ctor mX11_init := ⟨tq_inW 78 (by decide +kernel) rfl, rfl⟩
def mX8_init : tq_M := (yX8_init, cX8_init, 1, none)
theorem kX8_init : tq_mok mX8_init 0 := ⟨tq_inW 87 (by decide +kernel) rfl, tq_inW 60 (by decide +kernel) rfl, by decide +kernel, by decide +kernel, by decide +kernel⟩
theorem sX8_init : tq_ctor mX8_init := ⟨tq_inW 86 (by decide +kernel) rfl, rfl⟩
def mX3_init : tq_M := (yX3_init, cX3_init, 1, none)
theorem kX3_init : tq_mok mX3_init 0 := ⟨tq_inW 93 (by decide +kernel) rfl, tq_inW 61 (by decide +kernel) rfl, by decide +kernel, by decide +kernel, by decide +kernel⟩
theorem sX3_init : tq_ctor mX3_init := ⟨tq_inW 92 (by decide +kernel) rfl, rfl⟩
def mX6_init : tq_M := (yX6_init, cX6_init, 2, none)
theorem kX6_init : tq_mok mX6_init 0 := ⟨tq_inW 122 (by decide +kernel) rfl, tq_inW 62 (by decide +kernel) rfl, by decide +kernel, by decide +kernel, by decide +kernel⟩
theorem sX6_init : tq_ctor mX6_init := ⟨tq_inW 121 (by decide +kernel) rfl, rfl⟩
def mX10_init : tq_M := (yX10_init, cX10_init, 3, none)
theorem kX10_init : tq_mok mX10_init 0 := ⟨tq_inW 128 (by decide +kernel) rfl, tq_inW 63 (by decide +kernel) rfl, by decide +kernel, by decide +kernel, by decide +kernel⟩
theorem sX10_init : tq_ctor mX10_init := ⟨tq_inW 127 (by decide +kernel) rfl, rfl⟩
def mX6_place : tq_M := (yX6_place, cX6_place, 3, none)
theorem kX6_place : tq_mok mX6_place 2 := ⟨tq_inW 141 (by decide +kernel) rfl, tq_inW 62 (by decide +kernel) rfl, by decide +kernel, by decide +kernel, by decide +kernel⟩
theorem sX6_place : tq_inst mX6_place := ⟨tq_inW 140 (by decide +kernel) rfl, tq_inW 0 (by decide +kernel) rfl⟩
def mX1_init : tq_M := (yX1_init, cX1_init, 1, none)
theorem kX1_init : tq_mok mX1_init 0 := ⟨tq_inW 171 (by decide +kernel) rfl, tq_inW 64 (by decide +kernel) rfl, by decide +kernel, by decide +kernel, by decide +kernel⟩
theorem sX1_init : tq_ctor mX1_init := ⟨tq_inW 170 (by decide +kernel) rfl, rfl⟩
def mX2_init : tq_M := (yX2_init, cX2_init, 2, none)
theorem kX2_init : tq_mok mX2_init 0 := ⟨tq_inW 211 (by decide +kernel) rfl, tq_inW 65 (by decide +kernel) rfl, by decide +kernel, by decide +kernel, by decide +kernel⟩
theorem sX2_init : tq_ctor mX2_init := ⟨tq_inW 210 (by decide +kernel) rfl, rfl⟩
def mX5_init : tq_M := (yX5_init, cX5_init, 1, none)
theorem kX5_init : tq_mok mX5_init 0 := ⟨tq_inW 231 (by decide +kernel) rfl, tq_inW 66 (by decide +kernel) rfl, by decide +kernel, by decide +kernel, by decide +kernel⟩
theorem sX5_init : tq_ctor mX5_init := ⟨tq_inW 230 (by decide +kernel) rfl, rfl⟩
def mX7_init : tq_M := (yX7_init, cX7_init, 1, none)
theorem kX7_init : tq_mok mX7_init 0 := ⟨tq_inW 248 (by decide +kernel) rfl, tq_inW 67 (by decide +kernel) rfl, by decide +kernel, by decide +kernel, by decide +kernel⟩
theorem sX7_init : tq_ctor mX7_init := ⟨tq_inW 247 (by decide +kernel) rfl, rfl⟩
def mX9_init : tq_M := (yX9_init, cX9_init, 1, none)
theorem kX9_init : tq_mok mX9_init 0 := ⟨tq_inW 285 (by decide +kernel) rfl, tq_inW 68 (by decide +kernel) rfl, by decide +kernel, by decide +kernel, by decide +kernel⟩
theorem sX9_init : tq_ctor mX9_init := ⟨tq_inW 284 (by decide +kernel) rfl, rfl⟩
def mX0_init : tq_M := (yX0_init, cX0_init, 1, none)
theorem kX0_init : tq_mok mX0_init 0 := ⟨tq_inW 307 (by decide +kernel) rfl, tq_inW 69 (by decide +kernel) rfl, by decide +kernel, by decide +kernel, by decide +kernel⟩
theorem sX0_init : tq_ctor mX0_init := ⟨tq_inW 306 (by decide +kernel) rfl, rfl⟩
def mX4_init : tq_M := (yX4_init, cX4_init, 1, none)
theorem kX4_init : tq_mok mX4_init 0 := ⟨tq_inW 324 (by decide +kernel) rfl, tq_inW 70 (by decide +kernel) rfl, by decide +kernel, by decide +kernel, by decide +kernel⟩
theorem sX4_init : tq_ctor mX4_init := ⟨tq_inW 323 (by decide +kernel) rfl, rfl⟩
def mX8_startMap : tq_M := (yX8_startMap, cX8_startMap, 5, none)
theorem kX8_startMap : tq_mok mX8_startMap 3 := ⟨tq_inW 348 (by decide +kernel) rfl, tq_inW 60 (by decide +kernel) rfl, by decide +kernel, by decide +kernel, by decide +kernel⟩
theorem sX8_startMap : tq_inst mX8_startMap := ⟨tq_inW 346 (by decide +kernel) rfl, tq_inW 347 (by decide +kernel) rfl⟩
def mX1_wipe : tq_M := (yX1_wipe, cX1_wipe, 2, none)
theorem kX1_wipe : tq_mok mX1_wipe 0 := ⟨tq_inW 352 (by decide +kernel) rfl, tq_inW 64 (by decide +kernel) rfl, by decide +kernel, by decide +kernel, by decide +kernel⟩
theorem sX1_wipe : tq_inst mX1_wipe := ⟨tq_inW 350 (by decide +kernel) rfl, tq_inW 351 (by decide +kernel) rfl⟩
def mX8_touchAll : tq_M := (yX8_touchAll, cX8_touchAll, 1, none)
theorem kX8_touchAll : tq_mok mX8_touchAll 0 := ⟨tq_inW 356 (by decide +kernel) rfl, tq_inW 60 (by decide +kernel) rfl, by decide +kernel, by decide +kernel, by decide +kernel⟩
theorem sX8_touchAll : tq_inst mX8_touchAll := ⟨tq_inW 354 (by decide +kernel) rfl, tq_inW 355 (by decide +kernel) rfl⟩
def mX8_touchBlock : tq_M := (yX8_touchBlock, cX8_touchBlock, 7, none)
theorem kX8_touchBlock : tq_mok mX8_touchBlock 4 := ⟨tq_inW 360 (by decide +kernel) rfl, tq_inW 60 (by decide +kernel) rfl, by decide +kernel, by decide +kernel, by decide +kernel⟩
theorem sX8_touchBlock : tq_inst mX8_touchBlock := ⟨tq_inW 359 (by decide +kernel) rfl, tq_inW 1 (by decide +kernel) rfl⟩
def mX3_isCell : tq_M := (yX3_isCell, cX3_isCell, 3, some .boolean)
theorem kX3_isCell : tq_mok mX3_isCell 2 := ⟨tq_inW 364 (by decide +kernel) rfl, tq_inW 61 (by decide +kernel) rfl, by decide +kernel, by decide +kernel, by decide +kernel⟩
theorem sX3_isCell : tq_inst mX3_isCell := ⟨tq_inW 362 (by decide +kernel) rfl, tq_inW 363 (by decide +kernel) rfl⟩
def mX11_cellIndex : tq_M := (yX11_cellIndex, cX11_cellIndex, 2, some .int)
theorem kX11_cellIndex : tq_mok mX11_cellIndex 2 := ⟨tq_inW 367 (by decide +kernel) rfl, tq_inW 59 (by decide +kernel) rfl, by decide +kernel, by decide +kernel, by decide +kernel⟩
theorem sX11_cellIndex : tq_stat mX11_cellIndex := tq_inW 366 (by decide +kernel) rfl
def mX11_begin : tq_M := (yX11_begin, cX11_begin, 4, some .int)
theorem kX11_begin : tq_mok mX11_begin 3 := ⟨tq_inW 396 (by decide +kernel) rfl, tq_inW 59 (by decide +kernel) rfl, by decide +kernel, by decide +kernel, by decide +kernel⟩
theorem sX11_begin : tq_inst mX11_begin := ⟨tq_inW 394 (by decide +kernel) rfl, tq_inW 395 (by decide +kernel) rfl⟩
def mX11_isTerrain : tq_M := (yX11_isTerrain, cX11_isTerrain, 1, some .boolean)
theorem kX11_isTerrain : tq_mok mX11_isTerrain 1 := ⟨tq_inW 399 (by decide +kernel) rfl, tq_inW 59 (by decide +kernel) rfl, by decide +kernel, by decide +kernel, by decide +kernel⟩
theorem sX11_isTerrain : tq_stat mX11_isTerrain := tq_inW 398 (by decide +kernel) rfl
def mX11_isWithin : tq_M := (yX11_isWithin, cX11_isWithin, 3, some .boolean)
theorem kX11_isWithin : tq_mok mX11_isWithin 3 := ⟨tq_inW 402 (by decide +kernel) rfl, tq_inW 59 (by decide +kernel) rfl, by decide +kernel, by decide +kernel, by decide +kernel⟩
theorem sX11_isWithin : tq_stat mX11_isWithin := tq_inW 401 (by decide +kernel) rfl
def mX2_record : tq_M := (yX2_record, cX2_record, 3, none)
theorem kX2_record : tq_mok mX2_record 1 := ⟨tq_inW 406 (by decide +kernel) rfl, tq_inW 65 (by decide +kernel) rfl, by decide +kernel, by decide +kernel, by decide +kernel⟩
theorem sX2_record : tq_inst mX2_record := ⟨tq_inW 404 (by decide +kernel) rfl, tq_inW 405 (by decide +kernel) rfl⟩
def mX8_copyFrom : tq_M := (yX8_copyFrom, cX8_copyFrom, 2, none)
theorem kX8_copyFrom : tq_mok mX8_copyFrom 1 := ⟨tq_inW 410 (by decide +kernel) rfl, tq_inW 60 (by decide +kernel) rfl, by decide +kernel, by decide +kernel, by decide +kernel⟩
theorem sX8_copyFrom : tq_inst mX8_copyFrom := ⟨tq_inW 408 (by decide +kernel) rfl, tq_inW 409 (by decide +kernel) rfl⟩
def mX3_copyFrom : tq_M := (yX3_copyFrom, cX3_copyFrom, 2, none)
theorem kX3_copyFrom : tq_mok mX3_copyFrom 1 := ⟨tq_inW 414 (by decide +kernel) rfl, tq_inW 61 (by decide +kernel) rfl, by decide +kernel, by decide +kernel, by decide +kernel⟩
theorem sX3_copyFrom : tq_inst mX3_copyFrom := ⟨tq_inW 412 (by decide +kernel) rfl, tq_inW 413 (by decide +kernel) rfl⟩
def mX6_copyFrom : tq_M := (yX6_copyFrom, cX6_copyFrom, 2, none)
theorem kX6_copyFrom : tq_mok mX6_copyFrom 1 := ⟨tq_inW 421 (by decide +kernel) rfl, tq_inW 62 (by decide +kernel) rfl, by decide +kernel, by decide +kernel, by decide +kernel⟩
theorem sX6_copyFrom : tq_inst mX6_copyFrom := ⟨tq_inW 419 (by decide +kernel) rfl, tq_inW 420 (by decide +kernel) rfl⟩
def mX10_copyFrom : tq_M := (yX10_copyFrom, cX10_copyFrom, 2, none)
theorem kX10_copyFrom : tq_mok mX10_copyFrom 1 := ⟨tq_inW 426 (by decide +kernel) rfl, tq_inW 63 (by decide +kernel) rfl, by decide +kernel, by decide +kernel, by decide +kernel⟩
theorem sX10_copyFrom : tq_inst mX10_copyFrom := ⟨tq_inW 424 (by decide +kernel) rfl, tq_inW 425 (by decide +kernel) rfl⟩
def mX1_copyFrom : tq_M := (yX1_copyFrom, cX1_copyFrom, 2, none)
theorem kX1_copyFrom : tq_mok mX1_copyFrom 1 := ⟨tq_inW 431 (by decide +kernel) rfl, tq_inW 64 (by decide +kernel) rfl, by decide +kernel, by decide +kernel, by decide +kernel⟩
theorem sX1_copyFrom : tq_inst mX1_copyFrom := ⟨tq_inW 429 (by decide +kernel) rfl, tq_inW 430 (by decide +kernel) rfl⟩
def mX11_size : tq_M := (yX11_size, cX11_size, 2, some .int)
theorem kX11_size : tq_mok mX11_size 1 := ⟨tq_inW 436 (by decide +kernel) rfl, tq_inW 59 (by decide +kernel) rfl, by decide +kernel, by decide +kernel, by decide +kernel⟩
theorem sX11_size : tq_inst mX11_size := ⟨tq_inW 434 (by decide +kernel) rfl, tq_inW 435 (by decide +kernel) rfl⟩
def mX3_countPaths : tq_M := (yX3_countPaths, cX3_countPaths, 4, some .int)
theorem kX3_countPaths : tq_mok mX3_countPaths 0 := ⟨tq_inW 440 (by decide +kernel) rfl, tq_inW 61 (by decide +kernel) rfl, by decide +kernel, by decide +kernel, by decide +kernel⟩
theorem sX3_countPaths : tq_inst mX3_countPaths := ⟨tq_inW 438 (by decide +kernel) rfl, tq_inW 439 (by decide +kernel) rfl⟩
def mX3_pathAt : tq_M := (yX3_pathAt, cX3_pathAt, 3, some .int)
theorem kX3_pathAt : tq_mok mX3_pathAt 2 := ⟨tq_inW 444 (by decide +kernel) rfl, tq_inW 61 (by decide +kernel) rfl, by decide +kernel, by decide +kernel, by decide +kernel⟩
theorem sX3_pathAt : tq_inst mX3_pathAt := ⟨tq_inW 442 (by decide +kernel) rfl, tq_inW 443 (by decide +kernel) rfl⟩
def mX11_setCorner : tq_M := (yX11_setCorner, cX11_setCorner, 5, some .int)
theorem kX11_setCorner : tq_mok mX11_setCorner 3 := ⟨tq_inW 449 (by decide +kernel) rfl, tq_inW 59 (by decide +kernel) rfl, by decide +kernel, by decide +kernel, by decide +kernel⟩
theorem sX11_setCorner : tq_inst mX11_setCorner := ⟨tq_inW 447 (by decide +kernel) rfl, tq_inW 448 (by decide +kernel) rfl⟩
def mX3_isCorner : tq_M := (yX3_isCorner, cX3_isCorner, 3, some .boolean)
theorem kX3_isCorner : tq_mok mX3_isCorner 2 := ⟨tq_inW 453 (by decide +kernel) rfl, tq_inW 61 (by decide +kernel) rfl, by decide +kernel, by decide +kernel, by decide +kernel⟩
theorem sX3_isCorner : tq_inst mX3_isCorner := ⟨tq_inW 451 (by decide +kernel) rfl, tq_inW 452 (by decide +kernel) rfl⟩
def mX3_terrainAt : tq_M := (yX3_terrainAt, cX3_terrainAt, 3, some .int)
theorem kX3_terrainAt : tq_mok mX3_terrainAt 2 := ⟨tq_inW 457 (by decide +kernel) rfl, tq_inW 61 (by decide +kernel) rfl, by decide +kernel, by decide +kernel, by decide +kernel⟩
theorem sX3_terrainAt : tq_inst mX3_terrainAt := ⟨tq_inW 455 (by decide +kernel) rfl, tq_inW 456 (by decide +kernel) rfl⟩
def mX11_cornerIndex : tq_M := (yX11_cornerIndex, cX11_cornerIndex, 2, some .int)
theorem kX11_cornerIndex : tq_mok mX11_cornerIndex 2 := ⟨tq_inW 460 (by decide +kernel) rfl, tq_inW 59 (by decide +kernel) rfl, by decide +kernel, by decide +kernel, by decide +kernel⟩
theorem sX11_cornerIndex : tq_stat mX11_cornerIndex := tq_inW 459 (by decide +kernel) rfl
def mX8_changeCorner : tq_M := (yX8_changeCorner, cX8_changeCorner, 4, some .int)
theorem kX8_changeCorner : tq_mok mX8_changeCorner 3 := ⟨tq_inW 464 (by decide +kernel) rfl, tq_inW 60 (by decide +kernel) rfl, by decide +kernel, by decide +kernel, by decide +kernel⟩
theorem sX8_changeCorner : tq_inst mX8_changeCorner := ⟨tq_inW 462 (by decide +kernel) rfl, tq_inW 463 (by decide +kernel) rfl⟩
def mX11_corner : tq_M := (yX11_corner, cX11_corner, 3, some .int)
theorem kX11_corner : tq_mok mX11_corner 2 := ⟨tq_inW 470 (by decide +kernel) rfl, tq_inW 59 (by decide +kernel) rfl, by decide +kernel, by decide +kernel, by decide +kernel⟩
theorem sX11_corner : tq_inst mX11_corner := ⟨tq_inW 468 (by decide +kernel) rfl, tq_inW 469 (by decide +kernel) rfl⟩
def mX11_fill : tq_M := (yX11_fill, cX11_fill, 6, some .int)
theorem kX11_fill : tq_mok mX11_fill 5 := ⟨tq_inW 474 (by decide +kernel) rfl, tq_inW 59 (by decide +kernel) rfl, by decide +kernel, by decide +kernel, by decide +kernel⟩
theorem sX11_fill : tq_inst mX11_fill := ⟨tq_inW 472 (by decide +kernel) rfl, tq_inW 473 (by decide +kernel) rfl⟩
def mX8_changeBlock : tq_M := (yX8_changeBlock, cX8_changeBlock, 9, some .int)
theorem kX8_changeBlock : tq_mok mX8_changeBlock 5 := ⟨tq_inW 484 (by decide +kernel) rfl, tq_inW 60 (by decide +kernel) rfl, by decide +kernel, by decide +kernel, by decide +kernel⟩
theorem sX8_changeBlock : tq_inst mX8_changeBlock := ⟨tq_inW 482 (by decide +kernel) rfl, tq_inW 483 (by decide +kernel) rfl⟩
def mX11_flood : tq_M := (yX11_flood, cX11_flood, 6, some .int)
theorem kX11_flood : tq_mok mX11_flood 3 := ⟨tq_inW 489 (by decide +kernel) rfl, tq_inW 59 (by decide +kernel) rfl, by decide +kernel, by decide +kernel, by decide +kernel⟩
theorem sX11_flood : tq_inst mX11_flood := ⟨tq_inW 487 (by decide +kernel) rfl, tq_inW 488 (by decide +kernel) rfl⟩
def mX5_forget : tq_M := (yX5_forget, cX5_forget, 2, none)
theorem kX5_forget : tq_mok mX5_forget 0 := ⟨tq_inW 493 (by decide +kernel) rfl, tq_inW 66 (by decide +kernel) rfl, by decide +kernel, by decide +kernel, by decide +kernel⟩
theorem sX5_forget : tq_inst mX5_forget := ⟨tq_inW 491 (by decide +kernel) rfl, tq_inW 492 (by decide +kernel) rfl⟩
def mX5_gather : tq_M := (yX5_gather, cX5_gather, 8, none)
theorem kX5_gather : tq_mok mX5_gather 3 := ⟨tq_inW 497 (by decide +kernel) rfl, tq_inW 66 (by decide +kernel) rfl, by decide +kernel, by decide +kernel, by decide +kernel⟩
theorem sX5_gather : tq_inst mX5_gather := ⟨tq_inW 495 (by decide +kernel) rfl, tq_inW 496 (by decide +kernel) rfl⟩
def mX5_meet : tq_M := (yX5_meet, cX5_meet, 5, none)
theorem kX5_meet : tq_mok mX5_meet 4 := ⟨tq_inW 502 (by decide +kernel) rfl, tq_inW 66 (by decide +kernel) rfl, by decide +kernel, by decide +kernel, by decide +kernel⟩
theorem sX5_meet : tq_inst mX5_meet := ⟨tq_inW 501 (by decide +kernel) rfl, tq_inW 2 (by decide +kernel) rfl⟩
def mX5_knows : tq_M := (yX5_knows, cX5_knows, 3, some .boolean)
theorem kX5_knows : tq_mok mX5_knows 2 := ⟨tq_inW 507 (by decide +kernel) rfl, tq_inW 66 (by decide +kernel) rfl, by decide +kernel, by decide +kernel, by decide +kernel⟩
theorem sX5_knows : tq_inst mX5_knows := ⟨tq_inW 505 (by decide +kernel) rfl, tq_inW 506 (by decide +kernel) rfl⟩
def mX5_columnOf : tq_M := (yX5_columnOf, cX5_columnOf, 2, some .int)
theorem kX5_columnOf : tq_mok mX5_columnOf 1 := ⟨tq_inW 512 (by decide +kernel) rfl, tq_inW 66 (by decide +kernel) rfl, by decide +kernel, by decide +kernel, by decide +kernel⟩
theorem sX5_columnOf : tq_inst mX5_columnOf := ⟨tq_inW 510 (by decide +kernel) rfl, tq_inW 511 (by decide +kernel) rfl⟩
def mX5_rowOf : tq_M := (yX5_rowOf, cX5_rowOf, 2, some .int)
theorem kX5_rowOf : tq_mok mX5_rowOf 1 := ⟨tq_inW 516 (by decide +kernel) rfl, tq_inW 66 (by decide +kernel) rfl, by decide +kernel, by decide +kernel, by decide +kernel⟩
theorem sX5_rowOf : tq_inst mX5_rowOf := ⟨tq_inW 514 (by decide +kernel) rfl, tq_inW 515 (by decide +kernel) rfl⟩
def mX11_raise : tq_M := (yX11_raise, cX11_raise, 11, some .int)
theorem kX11_raise : tq_mok mX11_raise 3 := ⟨tq_inW 522 (by decide +kernel) rfl, tq_inW 59 (by decide +kernel) rfl, by decide +kernel, by decide +kernel, by decide +kernel⟩
theorem sX11_raise : tq_inst mX11_raise := ⟨tq_inW 520 (by decide +kernel) rfl, tq_inW 521 (by decide +kernel) rfl⟩
def mX6_rankOf : tq_M := (yX6_rankOf, cX6_rankOf, 2, some .int)
theorem kX6_rankOf : tq_mok mX6_rankOf 1 := ⟨tq_inW 526 (by decide +kernel) rfl, tq_inW 62 (by decide +kernel) rfl, by decide +kernel, by decide +kernel, by decide +kernel⟩
theorem sX6_rankOf : tq_inst mX6_rankOf := ⟨tq_inW 524 (by decide +kernel) rfl, tq_inW 525 (by decide +kernel) rfl⟩
def mX6_terrainWithRank : tq_M := (yX6_terrainWithRank, cX6_terrainWithRank, 2, some .int)
theorem kX6_terrainWithRank : tq_mok mX6_terrainWithRank 1 := ⟨tq_inW 533 (by decide +kernel) rfl, tq_inW 62 (by decide +kernel) rfl, by decide +kernel, by decide +kernel, by decide +kernel⟩
theorem sX6_terrainWithRank : tq_inst mX6_terrainWithRank := ⟨tq_inW 531 (by decide +kernel) rfl, tq_inW 532 (by decide +kernel) rfl⟩
def mX11_regions : tq_M := (yX11_regions, cX11_regions, 5, some .int)
theorem kX11_regions : tq_mok mX11_regions 1 := ⟨tq_inW 537 (by decide +kernel) rfl, tq_inW 59 (by decide +kernel) rfl, by decide +kernel, by decide +kernel, by decide +kernel⟩
theorem sX11_regions : tq_inst mX11_regions := ⟨tq_inW 535 (by decide +kernel) rfl, tq_inW 536 (by decide +kernel) rfl⟩
def mX11_setPath : tq_M := (yX11_setPath, cX11_setPath, 5, some .int)
theorem kX11_setPath : tq_mok mX11_setPath 3 := ⟨tq_inW 542 (by decide +kernel) rfl, tq_inW 59 (by decide +kernel) rfl, by decide +kernel, by decide +kernel, by decide +kernel⟩
theorem sX11_setPath : tq_inst mX11_setPath := ⟨tq_inW 540 (by decide +kernel) rfl, tq_inW 541 (by decide +kernel) rfl⟩
def mX8_changePath : tq_M := (yX8_changePath, cX8_changePath, 4, none)
theorem kX8_changePath : tq_mok mX8_changePath 3 := ⟨tq_inW 548 (by decide +kernel) rfl, tq_inW 60 (by decide +kernel) rfl, by decide +kernel, by decide +kernel, by decide +kernel⟩
theorem sX8_changePath : tq_inst mX8_changePath := ⟨tq_inW 546 (by decide +kernel) rfl, tq_inW 547 (by decide +kernel) rfl⟩
def mX11_hasPath : tq_M := (yX11_hasPath, cX11_hasPath, 3, some .int)
theorem kX11_hasPath : tq_mok mX11_hasPath 2 := ⟨tq_inW 553 (by decide +kernel) rfl, tq_inW 59 (by decide +kernel) rfl, by decide +kernel, by decide +kernel, by decide +kernel⟩
theorem sX11_hasPath : tq_inst mX11_hasPath := ⟨tq_inW 551 (by decide +kernel) rfl, tq_inW 552 (by decide +kernel) rfl⟩
def mX11_pathMask : tq_M := (yX11_pathMask, cX11_pathMask, 3, some .int)
theorem kX11_pathMask : tq_mok mX11_pathMask 2 := ⟨tq_inW 557 (by decide +kernel) rfl, tq_inW 59 (by decide +kernel) rfl, by decide +kernel, by decide +kernel, by decide +kernel⟩
theorem sX11_pathMask : tq_inst mX11_pathMask := ⟨tq_inW 555 (by decide +kernel) rfl, tq_inW 556 (by decide +kernel) rfl⟩
def mX3_pathMaskAt : tq_M := (yX3_pathMaskAt, cX3_pathMaskAt, 8, some .int)
theorem kX3_pathMaskAt : tq_mok mX3_pathMaskAt 3 := ⟨tq_inW 561 (by decide +kernel) rfl, tq_inW 61 (by decide +kernel) rfl, by decide +kernel, by decide +kernel, by decide +kernel⟩
theorem sX3_pathMaskAt : tq_inst mX3_pathMaskAt := ⟨tq_inW 559 (by decide +kernel) rfl, tq_inW 560 (by decide +kernel) rfl⟩
def mX3_leadsTo : tq_M := (yX3_leadsTo, cX3_leadsTo, 4, some .boolean)
theorem kX3_leadsTo : tq_mok mX3_leadsTo 3 := ⟨tq_inW 569 (by decide +kernel) rfl, tq_inW 61 (by decide +kernel) rfl, by decide +kernel, by decide +kernel, by decide +kernel⟩
theorem sX3_leadsTo : tq_inst mX3_leadsTo := ⟨tq_inW 568 (by decide +kernel) rfl, tq_inW 3 (by decide +kernel) rfl⟩
def mX11_pathTile : tq_M := (yX11_pathTile, cX11_pathTile, 3, some .int)
theorem kX11_pathTile : tq_mok mX11_pathTile 2 := ⟨tq_inW 574 (by decide +kernel) rfl, tq_inW 59 (by decide +kernel) rfl, by decide +kernel, by decide +kernel, by decide +kernel⟩
theorem sX11_pathTile : tq_inst mX11_pathTile := ⟨tq_inW 572 (by decide +kernel) rfl, tq_inW 573 (by decide +kernel) rfl⟩
def mX3_pathTileAt : tq_M := (yX3_pathTileAt, cX3_pathTileAt, 7, some .int)
theorem kX3_pathTileAt : tq_mok mX3_pathTileAt 3 := ⟨tq_inW 578 (by decide +kernel) rfl, tq_inW 61 (by decide +kernel) rfl, by decide +kernel, by decide +kernel, by decide +kernel⟩
theorem sX3_pathTileAt : tq_inst mX3_pathTileAt := ⟨tq_inW 576 (by decide +kernel) rfl, tq_inW 577 (by decide +kernel) rfl⟩
def mX11_setRank : tq_M := (yX11_setRank, cX11_setRank, 4, some .int)
theorem kX11_setRank : tq_mok mX11_setRank 2 := ⟨tq_inW 585 (by decide +kernel) rfl, tq_inW 59 (by decide +kernel) rfl, by decide +kernel, by decide +kernel, by decide +kernel⟩
theorem sX11_setRank : tq_inst mX11_setRank := ⟨tq_inW 583 (by decide +kernel) rfl, tq_inW 584 (by decide +kernel) rfl⟩
def mX6_moveTo : tq_M := (yX6_moveTo, cX6_moveTo, 5, none)
theorem kX6_moveTo : tq_mok mX6_moveTo 2 := ⟨tq_inW 589 (by decide +kernel) rfl, tq_inW 62 (by decide +kernel) rfl, by decide +kernel, by decide +kernel, by decide +kernel⟩
theorem sX6_moveTo : tq_inst mX6_moveTo := ⟨tq_inW 587 (by decide +kernel) rfl, tq_inW 588 (by decide +kernel) rfl⟩
def mX11_touchAllIf : tq_M := (yX11_touchAllIf, cX11_touchAllIf, 2, none)
theorem kX11_touchAllIf : tq_mok mX11_touchAllIf 1 := ⟨tq_inW 593 (by decide +kernel) rfl, tq_inW 59 (by decide +kernel) rfl, by decide +kernel, by decide +kernel, by decide +kernel⟩
theorem sX11_touchAllIf : tq_inst mX11_touchAllIf := ⟨tq_inW 592 (by decide +kernel) rfl, tq_inW 4 (by decide +kernel) rfl⟩
def mX11_rank : tq_M := (yX11_rank, cX11_rank, 2, some .int)
theorem kX11_rank : tq_mok mX11_rank 1 := ⟨tq_inW 598 (by decide +kernel) rfl, tq_inW 59 (by decide +kernel) rfl, by decide +kernel, by decide +kernel, by decide +kernel⟩
theorem sX11_rank : tq_inst mX11_rank := ⟨tq_inW 596 (by decide +kernel) rfl, tq_inW 597 (by decide +kernel) rfl⟩
def mX11_setTiles : tq_M := (yX11_setTiles, cX11_setTiles, 4, some .int)
theorem kX11_setTiles : tq_mok mX11_setTiles 2 := ⟨tq_inW 602 (by decide +kernel) rfl, tq_inW 59 (by decide +kernel) rfl, by decide +kernel, by decide +kernel, by decide +kernel⟩
theorem sX11_setTiles : tq_inst mX11_setTiles := ⟨tq_inW 600 (by decide +kernel) rfl, tq_inW 601 (by decide +kernel) rfl⟩
def mX10_setOf : tq_M := (yX10_setOf, cX10_setOf, 2, some .int)
theorem kX10_setOf : tq_mok mX10_setOf 1 := ⟨tq_inW 607 (by decide +kernel) rfl, tq_inW 63 (by decide +kernel) rfl, by decide +kernel, by decide +kernel, by decide +kernel⟩
theorem sX10_setOf : tq_inst mX10_setOf := ⟨tq_inW 605 (by decide +kernel) rfl, tq_inW 606 (by decide +kernel) rfl⟩
def mX10_choose : tq_M := (yX10_choose, cX10_choose, 5, none)
theorem kX10_choose : tq_mok mX10_choose 2 := ⟨tq_inW 611 (by decide +kernel) rfl, tq_inW 63 (by decide +kernel) rfl, by decide +kernel, by decide +kernel, by decide +kernel⟩
theorem sX10_choose : tq_inst mX10_choose := ⟨tq_inW 609 (by decide +kernel) rfl, tq_inW 610 (by decide +kernel) rfl⟩
def mX10_wayOf : tq_M := (yX10_wayOf, cX10_wayOf, 4, some .int)
theorem kX10_wayOf : tq_mok mX10_wayOf 2 := ⟨tq_inW 616 (by decide +kernel) rfl, tq_inW 63 (by decide +kernel) rfl, by decide +kernel, by decide +kernel, by decide +kernel⟩
theorem sX10_wayOf : tq_inst mX10_wayOf := ⟨tq_inW 614 (by decide +kernel) rfl, tq_inW 615 (by decide +kernel) rfl⟩
def mX10_flip : tq_M := (yX10_flip, cX10_flip, 3, some .int)
theorem kX10_flip : tq_mok mX10_flip 2 := ⟨tq_inW 619 (by decide +kernel) rfl, tq_inW 63 (by decide +kernel) rfl, by decide +kernel, by decide +kernel, by decide +kernel⟩
theorem sX10_flip : tq_stat mX10_flip := tq_inW 618 (by decide +kernel) rfl
def mX10_has : tq_M := (yX10_has, cX10_has, 2, some .boolean)
theorem kX10_has : tq_mok mX10_has 2 := ⟨tq_inW 622 (by decide +kernel) rfl, tq_inW 63 (by decide +kernel) rfl, by decide +kernel, by decide +kernel, by decide +kernel⟩
theorem sX10_has : tq_stat mX10_has := tq_inW 621 (by decide +kernel) rfl
def mX10_fewestParts : tq_M := (yX10_fewestParts, cX10_fewestParts, 4, some .int)
theorem kX10_fewestParts : tq_mok mX10_fewestParts 2 := ⟨tq_inW 625 (by decide +kernel) rfl, tq_inW 63 (by decide +kernel) rfl, by decide +kernel, by decide +kernel, by decide +kernel⟩
theorem sX10_fewestParts : tq_stat mX10_fewestParts := tq_inW 624 (by decide +kernel) rfl
def mX10_firstParts : tq_M := (yX10_firstParts, cX10_firstParts, 8, some .int)
theorem kX10_firstParts : tq_mok mX10_firstParts 5 := ⟨tq_inW 628 (by decide +kernel) rfl, tq_inW 63 (by decide +kernel) rfl, by decide +kernel, by decide +kernel, by decide +kernel⟩
theorem sX10_firstParts : tq_stat mX10_firstParts := tq_inW 627 (by decide +kernel) rfl
def mX11_setVariants : tq_M := (yX11_setVariants, cX11_setVariants, 4, some .int)
theorem kX11_setVariants : tq_mok mX11_setVariants 2 := ⟨tq_inW 632 (by decide +kernel) rfl, tq_inW 59 (by decide +kernel) rfl, by decide +kernel, by decide +kernel, by decide +kernel⟩
theorem sX11_setVariants : tq_inst mX11_setVariants := ⟨tq_inW 630 (by decide +kernel) rfl, tq_inW 631 (by decide +kernel) rfl⟩
def mX11_setSeed : tq_M := (yX11_setSeed, cX11_setSeed, 3, some .int)
theorem kX11_setSeed : tq_mok mX11_setSeed 1 := ⟨tq_inW 636 (by decide +kernel) rfl, tq_inW 59 (by decide +kernel) rfl, by decide +kernel, by decide +kernel, by decide +kernel⟩
theorem sX11_setSeed : tq_inst mX11_setSeed := ⟨tq_inW 634 (by decide +kernel) rfl, tq_inW 635 (by decide +kernel) rfl⟩
def mX11_setBorder : tq_M := (yX11_setBorder, cX11_setBorder, 3, some .int)
theorem kX11_setBorder : tq_mok mX11_setBorder 1 := ⟨tq_inW 640 (by decide +kernel) rfl, tq_inW 59 (by decide +kernel) rfl, by decide +kernel, by decide +kernel, by decide +kernel⟩
theorem sX11_setBorder : tq_inst mX11_setBorder := ⟨tq_inW 638 (by decide +kernel) rfl, tq_inW 639 (by decide +kernel) rfl⟩
def mX11_way : tq_M := (yX11_way, cX11_way, 3, some .int)
theorem kX11_way : tq_mok mX11_way 2 := ⟨tq_inW 644 (by decide +kernel) rfl, tq_inW 59 (by decide +kernel) rfl, by decide +kernel, by decide +kernel, by decide +kernel⟩
theorem sX11_way : tq_inst mX11_way := ⟨tq_inW 642 (by decide +kernel) rfl, tq_inW 643 (by decide +kernel) rfl⟩
def mX11_parts : tq_M := (yX11_parts, cX11_parts, 3, some .int)
theorem kX11_parts : tq_mok mX11_parts 2 := ⟨tq_inW 649 (by decide +kernel) rfl, tq_inW 59 (by decide +kernel) rfl, by decide +kernel, by decide +kernel, by decide +kernel⟩
theorem sX11_parts : tq_inst mX11_parts := ⟨tq_inW 647 (by decide +kernel) rfl, tq_inW 648 (by decide +kernel) rfl⟩
def mX10_partsOf : tq_M := (yX10_partsOf, cX10_partsOf, 3, some .int)
theorem kX10_partsOf : tq_mok mX10_partsOf 2 := ⟨tq_inW 653 (by decide +kernel) rfl, tq_inW 63 (by decide +kernel) rfl, by decide +kernel, by decide +kernel, by decide +kernel⟩
theorem sX10_partsOf : tq_inst mX10_partsOf := ⟨tq_inW 651 (by decide +kernel) rfl, tq_inW 652 (by decide +kernel) rfl⟩
def mJ6_bitCount_0f7a4 : tq_M := (yJ6_bitCount_0f7a4, cJ6_bitCount_0f7a4, 1, some .int)
theorem kJ6_bitCount_0f7a4 : tq_mok mJ6_bitCount_0f7a4 1 := ⟨tq_inW 656 (by decide +kernel) rfl, tq_inW 74 (by decide +kernel) rfl, by decide +kernel, by decide +kernel, by decide +kernel⟩
theorem sJ6_bitCount_0f7a4 : tq_stat mJ6_bitCount_0f7a4 := tq_inW 655 (by decide +kernel) rfl
def mX11_layers : tq_M := (yX11_layers, cX11_layers, 3, some .int)
theorem kX11_layers : tq_mok mX11_layers 2 := ⟨tq_inW 663 (by decide +kernel) rfl, tq_inW 59 (by decide +kernel) rfl, by decide +kernel, by decide +kernel, by decide +kernel⟩
theorem sX11_layers : tq_inst mX11_layers := ⟨tq_inW 661 (by decide +kernel) rfl, tq_inW 662 (by decide +kernel) rfl⟩
def mX7_draw : tq_M := (yX7_draw, cX7_draw, 5, none)
theorem kX7_draw : tq_mok mX7_draw 3 := ⟨tq_inW 667 (by decide +kernel) rfl, tq_inW 67 (by decide +kernel) rfl, by decide +kernel, by decide +kernel, by decide +kernel⟩
theorem sX7_draw : tq_inst mX7_draw := ⟨tq_inW 665 (by decide +kernel) rfl, tq_inW 666 (by decide +kernel) rfl⟩
def mX7_drawLayers : tq_M := (yX7_drawLayers, cX7_drawLayers, 6, none)
theorem kX7_drawLayers : tq_mok mX7_drawLayers 3 := ⟨tq_inW 671 (by decide +kernel) rfl, tq_inW 67 (by decide +kernel) rfl, by decide +kernel, by decide +kernel, by decide +kernel⟩
theorem sX7_drawLayers : tq_inst mX7_drawLayers := ⟨tq_inW 670 (by decide +kernel) rfl, tq_inW 5 (by decide +kernel) rfl⟩
def mX7_isRankOfCorner : tq_M := (yX7_isRankOfCorner, cX7_isRankOfCorner, 3, some .boolean)
theorem kX7_isRankOfCorner : tq_mok mX7_isRankOfCorner 1 := ⟨tq_inW 677 (by decide +kernel) rfl, tq_inW 67 (by decide +kernel) rfl, by decide +kernel, by decide +kernel, by decide +kernel⟩
theorem sX7_isRankOfCorner : tq_inst mX7_isRankOfCorner := ⟨tq_inW 676 (by decide +kernel) rfl, tq_inW 6 (by decide +kernel) rfl⟩
def mX7_maskFrom : tq_M := (yX7_maskFrom, cX7_maskFrom, 4, some .int)
theorem kX7_maskFrom : tq_mok mX7_maskFrom 1 := ⟨tq_inW 682 (by decide +kernel) rfl, tq_inW 67 (by decide +kernel) rfl, by decide +kernel, by decide +kernel, by decide +kernel⟩
theorem sX7_maskFrom : tq_inst mX7_maskFrom := ⟨tq_inW 681 (by decide +kernel) rfl, tq_inW 7 (by decide +kernel) rfl⟩
def mX7_drawPieces : tq_M := (yX7_drawPieces, cX7_drawPieces, 11, none)
theorem kX7_drawPieces : tq_mok mX7_drawPieces 5 := ⟨tq_inW 686 (by decide +kernel) rfl, tq_inW 67 (by decide +kernel) rfl, by decide +kernel, by decide +kernel, by decide +kernel⟩
theorem sX7_drawPieces : tq_inst mX7_drawPieces := ⟨tq_inW 685 (by decide +kernel) rfl, tq_inW 8 (by decide +kernel) rfl⟩
def mX6_variantOf : tq_M := (yX6_variantOf, cX6_variantOf, 6, some .int)
theorem kX6_variantOf : tq_mok mX6_variantOf 3 := ⟨tq_inW 694 (by decide +kernel) rfl, tq_inW 62 (by decide +kernel) rfl, by decide +kernel, by decide +kernel, by decide +kernel⟩
theorem sX6_variantOf : tq_inst mX6_variantOf := ⟨tq_inW 692 (by decide +kernel) rfl, tq_inW 693 (by decide +kernel) rfl⟩
def mX11_codeOfPiece : tq_M := (yX11_codeOfPiece, cX11_codeOfPiece, 5, some .int)
theorem kX11_codeOfPiece : tq_mok mX11_codeOfPiece 4 := ⟨tq_inW 698 (by decide +kernel) rfl, tq_inW 59 (by decide +kernel) rfl, by decide +kernel, by decide +kernel, by decide +kernel⟩
theorem sX11_codeOfPiece : tq_stat mX11_codeOfPiece := tq_inW 697 (by decide +kernel) rfl
def mX11_layer : tq_M := (yX11_layer, cX11_layer, 5, some .int)
theorem kX11_layer : tq_mok mX11_layer 4 := ⟨tq_inW 703 (by decide +kernel) rfl, tq_inW 59 (by decide +kernel) rfl, by decide +kernel, by decide +kernel, by decide +kernel⟩
theorem sX11_layer : tq_inst mX11_layer := ⟨tq_inW 701 (by decide +kernel) rfl, tq_inW 702 (by decide +kernel) rfl⟩
def mX11_pieces : tq_M := (yX11_pieces, cX11_pieces, 3, some .int)
theorem kX11_pieces : tq_mok mX11_pieces 2 := ⟨tq_inW 707 (by decide +kernel) rfl, tq_inW 59 (by decide +kernel) rfl, by decide +kernel, by decide +kernel, by decide +kernel⟩
theorem sX11_pieces : tq_inst mX11_pieces := ⟨tq_inW 705 (by decide +kernel) rfl, tq_inW 706 (by decide +kernel) rfl⟩
def mX11_piece : tq_M := (yX11_piece, cX11_piece, 5, some .int)
theorem kX11_piece : tq_mok mX11_piece 4 := ⟨tq_inW 711 (by decide +kernel) rfl, tq_inW 59 (by decide +kernel) rfl, by decide +kernel, by decide +kernel, by decide +kernel⟩
theorem sX11_piece : tq_inst mX11_piece := ⟨tq_inW 709 (by decide +kernel) rfl, tq_inW 710 (by decide +kernel) rfl⟩
def mX11_propertyOfPiece : tq_M := (yX11_propertyOfPiece, cX11_propertyOfPiece, 4, some .int)
theorem kX11_propertyOfPiece : tq_mok mX11_propertyOfPiece 2 := ⟨tq_inW 714 (by decide +kernel) rfl, tq_inW 59 (by decide +kernel) rfl, by decide +kernel, by decide +kernel, by decide +kernel⟩
theorem sX11_propertyOfPiece : tq_stat mX11_propertyOfPiece := tq_inW 713 (by decide +kernel) rfl
def mX11_painted : tq_M := (yX11_painted, cX11_painted, 3, some .int)
theorem kX11_painted : tq_mok mX11_painted 2 := ⟨tq_inW 718 (by decide +kernel) rfl, tq_inW 59 (by decide +kernel) rfl, by decide +kernel, by decide +kernel, by decide +kernel⟩
theorem sX11_painted : tq_inst mX11_painted := ⟨tq_inW 716 (by decide +kernel) rfl, tq_inW 717 (by decide +kernel) rfl⟩
def mX11_isStale : tq_M := (yX11_isStale, cX11_isStale, 3, some .int)
theorem kX11_isStale : tq_mok mX11_isStale 2 := ⟨tq_inW 723 (by decide +kernel) rfl, tq_inW 59 (by decide +kernel) rfl, by decide +kernel, by decide +kernel, by decide +kernel⟩
theorem sX11_isStale : tq_inst mX11_isStale := ⟨tq_inW 721 (by decide +kernel) rfl, tq_inW 722 (by decide +kernel) rfl⟩
def mX11_staleAt : tq_M := (yX11_staleAt, cX11_staleAt, 3, some .int)
theorem kX11_staleAt : tq_mok mX11_staleAt 2 := ⟨tq_inW 727 (by decide +kernel) rfl, tq_inW 59 (by decide +kernel) rfl, by decide +kernel, by decide +kernel, by decide +kernel⟩
theorem sX11_staleAt : tq_inst mX11_staleAt := ⟨tq_inW 726 (by decide +kernel) rfl, tq_inW 9 (by decide +kernel) rfl⟩
def mX1_shows : tq_M := (yX1_shows, cX1_shows, 4, some .boolean)
theorem kX1_shows : tq_mok mX1_shows 2 := ⟨tq_inW 731 (by decide +kernel) rfl, tq_inW 64 (by decide +kernel) rfl, by decide +kernel, by decide +kernel, by decide +kernel⟩
theorem sX1_shows : tq_inst mX1_shows := ⟨tq_inW 729 (by decide +kernel) rfl, tq_inW 730 (by decide +kernel) rfl⟩
def mX1_codeAt : tq_M := (yX1_codeAt, cX1_codeAt, 3, some .int)
theorem kX1_codeAt : tq_mok mX1_codeAt 2 := ⟨tq_inW 735 (by decide +kernel) rfl, tq_inW 64 (by decide +kernel) rfl, by decide +kernel, by decide +kernel, by decide +kernel⟩
theorem sX1_codeAt : tq_inst mX1_codeAt := ⟨tq_inW 733 (by decide +kernel) rfl, tq_inW 734 (by decide +kernel) rfl⟩
def mX11_touched : tq_M := (yX11_touched, cX11_touched, 4, some .int)
theorem kX11_touched : tq_mok mX11_touched 0 := ⟨tq_inW 739 (by decide +kernel) rfl, tq_inW 59 (by decide +kernel) rfl, by decide +kernel, by decide +kernel, by decide +kernel⟩
theorem sX11_touched : tq_inst mX11_touched := ⟨tq_inW 737 (by decide +kernel) rfl, tq_inW 738 (by decide +kernel) rfl⟩
def mX11_stale : tq_M := (yX11_stale, cX11_stale, 4, some .int)
theorem kX11_stale : tq_mok mX11_stale 0 := ⟨tq_inW 743 (by decide +kernel) rfl, tq_inW 59 (by decide +kernel) rfl, by decide +kernel, by decide +kernel, by decide +kernel⟩
theorem sX11_stale : tq_inst mX11_stale := ⟨tq_inW 741 (by decide +kernel) rfl, tq_inW 742 (by decide +kernel) rfl⟩
def mX11_paint : tq_M := (yX11_paint, cX11_paint, 4, some .int)
theorem kX11_paint : tq_mok mX11_paint 0 := ⟨tq_inW 747 (by decide +kernel) rfl, tq_inW 59 (by decide +kernel) rfl, by decide +kernel, by decide +kernel, by decide +kernel⟩
theorem sX11_paint : tq_inst mX11_paint := ⟨tq_inW 745 (by decide +kernel) rfl, tq_inW 746 (by decide +kernel) rfl⟩
def mX11_renew : tq_M := (yX11_renew, cX11_renew, 5, some .int)
theorem kX11_renew : tq_mok mX11_renew 2 := ⟨tq_inW 751 (by decide +kernel) rfl, tq_inW 59 (by decide +kernel) rfl, by decide +kernel, by decide +kernel, by decide +kernel⟩
theorem sX11_renew : tq_inst mX11_renew := ⟨tq_inW 750 (by decide +kernel) rfl, tq_inW 10 (by decide +kernel) rfl⟩
def mX1_take : tq_M := (yX1_take, cX1_take, 3, none)
theorem kX1_take : tq_mok mX1_take 2 := ⟨tq_inW 755 (by decide +kernel) rfl, tq_inW 64 (by decide +kernel) rfl, by decide +kernel, by decide +kernel, by decide +kernel⟩
theorem sX1_take : tq_inst mX1_take := ⟨tq_inW 753 (by decide +kernel) rfl, tq_inW 754 (by decide +kernel) rfl⟩
def mX11_paintCell : tq_M := (yX11_paintCell, cX11_paintCell, 3, some .int)
theorem kX11_paintCell : tq_mok mX11_paintCell 2 := ⟨tq_inW 759 (by decide +kernel) rfl, tq_inW 59 (by decide +kernel) rfl, by decide +kernel, by decide +kernel, by decide +kernel⟩
theorem sX11_paintCell : tq_inst mX11_paintCell := ⟨tq_inW 757 (by decide +kernel) rfl, tq_inW 758 (by decide +kernel) rfl⟩
def mX11_kinds : tq_M := (yX11_kinds, cX11_kinds, 1, some .int)
theorem kX11_kinds : tq_mok mX11_kinds 0 := ⟨tq_inW 763 (by decide +kernel) rfl, tq_inW 59 (by decide +kernel) rfl, by decide +kernel, by decide +kernel, by decide +kernel⟩
theorem sX11_kinds : tq_inst mX11_kinds := ⟨tq_inW 761 (by decide +kernel) rfl, tq_inW 762 (by decide +kernel) rfl⟩
def mX9_take : tq_M := (yX9_take, cX9_take, 4, none)
theorem kX9_take : tq_mok mX9_take 1 := ⟨tq_inW 767 (by decide +kernel) rfl, tq_inW 68 (by decide +kernel) rfl, by decide +kernel, by decide +kernel, by decide +kernel⟩
theorem sX9_take : tq_inst mX9_take := ⟨tq_inW 765 (by decide +kernel) rfl, tq_inW 766 (by decide +kernel) rfl⟩
def mX9_addCell : tq_M := (yX9_addCell, cX9_addCell, 4, none)
theorem kX9_addCell : tq_mok mX9_addCell 2 := ⟨tq_inW 772 (by decide +kernel) rfl, tq_inW 68 (by decide +kernel) rfl, by decide +kernel, by decide +kernel, by decide +kernel⟩
theorem sX9_addCell : tq_inst mX9_addCell := ⟨tq_inW 771 (by decide +kernel) rfl, tq_inW 11 (by decide +kernel) rfl⟩
def mX9_add : tq_M := (yX9_add, cX9_add, 2, none)
theorem kX9_add : tq_mok mX9_add 1 := ⟨tq_inW 777 (by decide +kernel) rfl, tq_inW 68 (by decide +kernel) rfl, by decide +kernel, by decide +kernel, by decide +kernel⟩
theorem sX9_add : tq_inst mX9_add := ⟨tq_inW 776 (by decide +kernel) rfl, tq_inW 12 (by decide +kernel) rfl⟩
def mX11_kind : tq_M := (yX11_kind, cX11_kind, 3, some .int)
theorem kX11_kind : tq_mok mX11_kind 2 := ⟨tq_inW 781 (by decide +kernel) rfl, tq_inW 59 (by decide +kernel) rfl, by decide +kernel, by decide +kernel, by decide +kernel⟩
theorem sX11_kind : tq_inst mX11_kind := ⟨tq_inW 779 (by decide +kernel) rfl, tq_inW 780 (by decide +kernel) rfl⟩
def mX11_undo : tq_M := (yX11_undo, cX11_undo, 1, some .int)
theorem kX11_undo : tq_mok mX11_undo 0 := ⟨tq_inW 785 (by decide +kernel) rfl, tq_inW 59 (by decide +kernel) rfl, by decide +kernel, by decide +kernel, by decide +kernel⟩
theorem sX11_undo : tq_inst mX11_undo := ⟨tq_inW 783 (by decide +kernel) rfl, tq_inW 784 (by decide +kernel) rfl⟩
def mX2_restore : tq_M := (yX2_restore, cX2_restore, 3, none)
theorem kX2_restore : tq_mok mX2_restore 1 := ⟨tq_inW 789 (by decide +kernel) rfl, tq_inW 65 (by decide +kernel) rfl, by decide +kernel, by decide +kernel, by decide +kernel⟩
theorem sX2_restore : tq_inst mX2_restore := ⟨tq_inW 787 (by decide +kernel) rfl, tq_inW 788 (by decide +kernel) rfl⟩
def mX11_type : tq_M := (yX11_type, cX11_type, 2, some .int)
theorem kX11_type : tq_mok mX11_type 1 := ⟨tq_inW 793 (by decide +kernel) rfl, tq_inW 59 (by decide +kernel) rfl, by decide +kernel, by decide +kernel, by decide +kernel⟩
theorem sX11_type : tq_inst mX11_type := ⟨tq_inW 791 (by decide +kernel) rfl, tq_inW 792 (by decide +kernel) rfl⟩
def mX0_append : tq_M := (yX0_append, cX0_append, 2, none)
theorem kX0_append : tq_mok mX0_append 1 := ⟨tq_inW 797 (by decide +kernel) rfl, tq_inW 69 (by decide +kernel) rfl, by decide +kernel, by decide +kernel, by decide +kernel⟩
theorem sX0_append : tq_inst mX0_append := ⟨tq_inW 795 (by decide +kernel) rfl, tq_inW 796 (by decide +kernel) rfl⟩
def mX11_clearText : tq_M := (yX11_clearText, cX11_clearText, 2, some .int)
theorem kX11_clearText : tq_mok mX11_clearText 0 := ⟨tq_inW 801 (by decide +kernel) rfl, tq_inW 59 (by decide +kernel) rfl, by decide +kernel, by decide +kernel, by decide +kernel⟩
theorem sX11_clearText : tq_inst mX11_clearText := ⟨tq_inW 799 (by decide +kernel) rfl, tq_inW 800 (by decide +kernel) rfl⟩
def mX11_textFault : tq_M := (yX11_textFault, cX11_textFault, 1, some .int)
theorem kX11_textFault : tq_mok mX11_textFault 0 := ⟨tq_inW 805 (by decide +kernel) rfl, tq_inW 59 (by decide +kernel) rfl, by decide +kernel, by decide +kernel, by decide +kernel⟩
theorem sX11_textFault : tq_inst mX11_textFault := ⟨tq_inW 803 (by decide +kernel) rfl, tq_inW 804 (by decide +kernel) rfl⟩
def mX4_faultOf : tq_M := (yX4_faultOf, cX4_faultOf, 4, some .int)
theorem kX4_faultOf : tq_mok mX4_faultOf 1 := ⟨tq_inW 809 (by decide +kernel) rfl, tq_inW 70 (by decide +kernel) rfl, by decide +kernel, by decide +kernel, by decide +kernel⟩
theorem sX4_faultOf : tq_inst mX4_faultOf := ⟨tq_inW 807 (by decide +kernel) rfl, tq_inW 808 (by decide +kernel) rfl⟩
def mX4_accept : tq_M := (yX4_accept, cX4_accept, 4, some .int)
theorem kX4_accept : tq_mok mX4_accept 2 := ⟨tq_inW 813 (by decide +kernel) rfl, tq_inW 70 (by decide +kernel) rfl, by decide +kernel, by decide +kernel, by decide +kernel⟩
theorem sX4_accept : tq_inst mX4_accept := ⟨tq_inW 812 (by decide +kernel) rfl, tq_inW 13 (by decide +kernel) rfl⟩
def mX4_isDigit : tq_M := (yX4_isDigit, cX4_isDigit, 1, some .boolean)
theorem kX4_isDigit : tq_mok mX4_isDigit 1 := ⟨tq_inW 816 (by decide +kernel) rfl, tq_inW 70 (by decide +kernel) rfl, by decide +kernel, by decide +kernel, by decide +kernel⟩
theorem sX4_isDigit : tq_stat mX4_isDigit := tq_inW 815 (by decide +kernel) rfl
def mX4_acceptNumber : tq_M := (yX4_acceptNumber, cX4_acceptNumber, 6, some .int)
theorem kX4_acceptNumber : tq_mok mX4_acceptNumber 2 := ⟨tq_inW 821 (by decide +kernel) rfl, tq_inW 70 (by decide +kernel) rfl, by decide +kernel, by decide +kernel, by decide +kernel⟩
theorem sX4_acceptNumber : tq_inst mX4_acceptNumber := ⟨tq_inW 820 (by decide +kernel) rfl, tq_inW 14 (by decide +kernel) rfl⟩
def mX4_acceptRowEnd : tq_M := (yX4_acceptRowEnd, cX4_acceptRowEnd, 1, some .int)
theorem kX4_acceptRowEnd : tq_mok mX4_acceptRowEnd 0 := ⟨tq_inW 825 (by decide +kernel) rfl, tq_inW 70 (by decide +kernel) rfl, by decide +kernel, by decide +kernel, by decide +kernel⟩
theorem sX4_acceptRowEnd : tq_inst mX4_acceptRowEnd := ⟨tq_inW 824 (by decide +kernel) rfl, tq_inW 15 (by decide +kernel) rfl⟩
def mX4_isRowWhole : tq_M := (yX4_isRowWhole, cX4_isRowWhole, 1, some .boolean)
theorem kX4_isRowWhole : tq_mok mX4_isRowWhole 0 := ⟨tq_inW 829 (by decide +kernel) rfl, tq_inW 70 (by decide +kernel) rfl, by decide +kernel, by decide +kernel, by decide +kernel⟩
theorem sX4_isRowWhole : tq_inst mX4_isRowWhole := ⟨tq_inW 828 (by decide +kernel) rfl, tq_inW 16 (by decide +kernel) rfl⟩
def mX4_acceptLetter : tq_M := (yX4_acceptLetter, cX4_acceptLetter, 4, some .int)
theorem kX4_acceptLetter : tq_mok mX4_acceptLetter 1 := ⟨tq_inW 834 (by decide +kernel) rfl, tq_inW 70 (by decide +kernel) rfl, by decide +kernel, by decide +kernel, by decide +kernel⟩
theorem sX4_acceptLetter : tq_inst mX4_acceptLetter := ⟨tq_inW 833 (by decide +kernel) rfl, tq_inW 17 (by decide +kernel) rfl⟩
def mX11_load : tq_M := (yX11_load, cX11_load, 1, some .int)
theorem kX11_load : tq_mok mX11_load 0 := ⟨tq_inW 840 (by decide +kernel) rfl, tq_inW 59 (by decide +kernel) rfl, by decide +kernel, by decide +kernel, by decide +kernel⟩
theorem sX11_load : tq_inst mX11_load := ⟨tq_inW 838 (by decide +kernel) rfl, tq_inW 839 (by decide +kernel) rfl⟩
def mX11_write : tq_M := (yX11_write, cX11_write, 2, some .int)
theorem kX11_write : tq_mok mX11_write 0 := ⟨tq_inW 845 (by decide +kernel) rfl, tq_inW 59 (by decide +kernel) rfl, by decide +kernel, by decide +kernel, by decide +kernel⟩
theorem sX11_write : tq_inst mX11_write := ⟨tq_inW 843 (by decide +kernel) rfl, tq_inW 844 (by decide +kernel) rfl⟩
def mX11_writeRow : tq_M := (yX11_writeRow, cX11_writeRow, 5, none)
theorem kX11_writeRow : tq_mok mX11_writeRow 1 := ⟨tq_inW 849 (by decide +kernel) rfl, tq_inW 59 (by decide +kernel) rfl, by decide +kernel, by decide +kernel, by decide +kernel⟩
theorem sX11_writeRow : tq_inst mX11_writeRow := ⟨tq_inW 848 (by decide +kernel) rfl, tq_inW 18 (by decide +kernel) rfl⟩
def mX11_writeItem : tq_M := (yX11_writeItem, cX11_writeItem, 3, none)
theorem kX11_writeItem : tq_mok mX11_writeItem 2 := ⟨tq_inW 853 (by decide +kernel) rfl, tq_inW 59 (by decide +kernel) rfl, by decide +kernel, by decide +kernel, by decide +kernel⟩
theorem sX11_writeItem : tq_inst mX11_writeItem := ⟨tq_inW 852 (by decide +kernel) rfl, tq_inW 19 (by decide +kernel) rfl⟩
def mX11_written : tq_M := (yX11_written, cX11_written, 2, some .int)
theorem kX11_written : tq_mok mX11_written 1 := ⟨tq_inW 857 (by decide +kernel) rfl, tq_inW 59 (by decide +kernel) rfl, by decide +kernel, by decide +kernel, by decide +kernel⟩
theorem sX11_written : tq_inst mX11_written := ⟨tq_inW 855 (by decide +kernel) rfl, tq_inW 856 (by decide +kernel) rfl⟩
def mX11_digest : tq_M := (yX11_digest, cX11_digest, 5, some .long)
theorem kX11_digest : tq_mok mX11_digest 0 := ⟨tq_inW 861 (by decide +kernel) rfl, tq_inW 59 (by decide +kernel) rfl, by decide +kernel, by decide +kernel, by decide +kernel⟩
theorem sX11_digest : tq_inst mX11_digest := ⟨tq_inW 859 (by decide +kernel) rfl, tq_inW 860 (by decide +kernel) rfl⟩
def mX11_mix : tq_M := (yX11_mix, cX11_mix, 3, some .long)
theorem kX11_mix : tq_mok mX11_mix 2 := ⟨tq_inW 865 (by decide +kernel) rfl, tq_inW 59 (by decide +kernel) rfl, by decide +kernel, by decide +kernel, by decide +kernel⟩
theorem sX11_mix : tq_stat mX11_mix := tq_inW 864 (by decide +kernel) rfl
def mX11_mixCell : tq_M := (yX11_mixCell, cX11_mixCell, 11, some .long)
theorem kX11_mixCell : tq_mok mX11_mixCell 3 := ⟨tq_inW 870 (by decide +kernel) rfl, tq_inW 59 (by decide +kernel) rfl, by decide +kernel, by decide +kernel, by decide +kernel⟩
theorem sX11_mixCell : tq_inst mX11_mixCell := ⟨tq_inW 869 (by decide +kernel) rfl, tq_inW 20 (by decide +kernel) rfl⟩
def mX12_init : tq_M := (yX12_init, cX12_init, 2, none)
theorem kX12_init : tq_mok mX12_init 0 := ⟨tq_inW 877 (by decide +kernel) rfl, tq_inW 71 (by decide +kernel) rfl, by decide +kernel, by decide +kernel, by decide +kernel⟩
theorem sX12_init : tq_ctor mX12_init := ⟨tq_inW 876 (by decide +kernel) rfl, rfl⟩
def mX12_begins : tq_M := (yX12_begins, cX12_begins, 4, none)
theorem kX12_begins : tq_mok mX12_begins 2 := ⟨tq_inW 883 (by decide +kernel) rfl, tq_inW 71 (by decide +kernel) rfl, by decide +kernel, by decide +kernel, by decide +kernel⟩
theorem sX12_begins : tq_inst mX12_begins := ⟨tq_inW 882 (by decide +kernel) rfl, tq_inW 21 (by decide +kernel) rfl⟩
def mX12_touchesAll : tq_M := (yX12_touchesAll, cX12_touchesAll, 2, none)
theorem kX12_touchesAll : tq_mok mX12_touchesAll 0 := ⟨tq_inW 887 (by decide +kernel) rfl, tq_inW 71 (by decide +kernel) rfl, by decide +kernel, by decide +kernel, by decide +kernel⟩
theorem sX12_touchesAll : tq_inst mX12_touchesAll := ⟨tq_inW 886 (by decide +kernel) rfl, tq_inW 22 (by decide +kernel) rfl⟩
def mX12_touches : tq_M := (yX12_touches, cX12_touches, 3, none)
theorem kX12_touches : tq_mok mX12_touches 2 := ⟨tq_inW 891 (by decide +kernel) rfl, tq_inW 71 (by decide +kernel) rfl, by decide +kernel, by decide +kernel, by decide +kernel⟩
theorem sX12_touches : tq_inst mX12_touches := ⟨tq_inW 890 (by decide +kernel) rfl, tq_inW 23 (by decide +kernel) rfl⟩
def mX12_isCell : tq_M := (yX12_isCell, cX12_isCell, 3, some .boolean)
theorem kX12_isCell : tq_mok mX12_isCell 2 := ⟨tq_inW 895 (by decide +kernel) rfl, tq_inW 71 (by decide +kernel) rfl, by decide +kernel, by decide +kernel, by decide +kernel⟩
theorem sX12_isCell : tq_inst mX12_isCell := ⟨tq_inW 894 (by decide +kernel) rfl, tq_inW 24 (by decide +kernel) rfl⟩
def mX12_in : tq_M := (yX12_in, cX12_in, 3, some .boolean)
theorem kX12_in : tq_mok mX12_in 3 := ⟨tq_inW 898 (by decide +kernel) rfl, tq_inW 71 (by decide +kernel) rfl, by decide +kernel, by decide +kernel, by decide +kernel⟩
theorem sX12_in : tq_stat mX12_in := tq_inW 897 (by decide +kernel) rfl
def mX12_begin : tq_M := (yX12_begin, cX12_begin, 5, some .int)
theorem kX12_begin : tq_mok mX12_begin 3 := ⟨tq_inW 982 (by decide +kernel) rfl, tq_inW 71 (by decide +kernel) rfl, by decide +kernel, by decide +kernel, by decide +kernel⟩
theorem sX12_begin : tq_inst mX12_begin := ⟨tq_inW 980 (by decide +kernel) rfl, tq_inW 981 (by decide +kernel) rfl⟩
def mX12_isTerrain : tq_M := (yX12_isTerrain, cX12_isTerrain, 1, some .boolean)
theorem kX12_isTerrain : tq_mok mX12_isTerrain 1 := ⟨tq_inW 985 (by decide +kernel) rfl, tq_inW 71 (by decide +kernel) rfl, by decide +kernel, by decide +kernel, by decide +kernel⟩
theorem sX12_isTerrain : tq_stat mX12_isTerrain := tq_inW 984 (by decide +kernel) rfl
def mX12_saves : tq_M := (yX12_saves, cX12_saves, 2, none)
theorem kX12_saves : tq_mok mX12_saves 0 := ⟨tq_inW 989 (by decide +kernel) rfl, tq_inW 71 (by decide +kernel) rfl, by decide +kernel, by decide +kernel, by decide +kernel⟩
theorem sX12_saves : tq_inst mX12_saves := ⟨tq_inW 988 (by decide +kernel) rfl, tq_inW 25 (by decide +kernel) rfl⟩
def mX12_copies : tq_M := (yX12_copies, cX12_copies, 4, none)
theorem kX12_copies : tq_mok mX12_copies 2 := ⟨tq_inW 993 (by decide +kernel) rfl, tq_inW 71 (by decide +kernel) rfl, by decide +kernel, by decide +kernel, by decide +kernel⟩
theorem sX12_copies : tq_inst mX12_copies := ⟨tq_inW 992 (by decide +kernel) rfl, tq_inW 26 (by decide +kernel) rfl⟩
def mX12_size : tq_M := (yX12_size, cX12_size, 4, some .int)
theorem kX12_size : tq_mok mX12_size 1 := ⟨tq_inW 997 (by decide +kernel) rfl, tq_inW 71 (by decide +kernel) rfl, by decide +kernel, by decide +kernel, by decide +kernel⟩
theorem sX12_size : tq_inst mX12_size := ⟨tq_inW 995 (by decide +kernel) rfl, tq_inW 996 (by decide +kernel) rfl⟩
def mX12_setCorner : tq_M := (yX12_setCorner, cX12_setCorner, 6, some .int)
theorem kX12_setCorner : tq_mok mX12_setCorner 3 := ⟨tq_inW 1001 (by decide +kernel) rfl, tq_inW 71 (by decide +kernel) rfl, by decide +kernel, by decide +kernel, by decide +kernel⟩
theorem sX12_setCorner : tq_inst mX12_setCorner := ⟨tq_inW 999 (by decide +kernel) rfl, tq_inW 1000 (by decide +kernel) rfl⟩
def mX12_isCorner : tq_M := (yX12_isCorner, cX12_isCorner, 3, some .boolean)
theorem kX12_isCorner : tq_mok mX12_isCorner 2 := ⟨tq_inW 1005 (by decide +kernel) rfl, tq_inW 71 (by decide +kernel) rfl, by decide +kernel, by decide +kernel, by decide +kernel⟩
theorem sX12_isCorner : tq_inst mX12_isCorner := ⟨tq_inW 1004 (by decide +kernel) rfl, tq_inW 27 (by decide +kernel) rfl⟩
def mX12_cornerOf : tq_M := (yX12_cornerOf, cX12_cornerOf, 3, some .int)
theorem kX12_cornerOf : tq_mok mX12_cornerOf 2 := ⟨tq_inW 1009 (by decide +kernel) rfl, tq_inW 71 (by decide +kernel) rfl, by decide +kernel, by decide +kernel, by decide +kernel⟩
theorem sX12_cornerOf : tq_inst mX12_cornerOf := ⟨tq_inW 1008 (by decide +kernel) rfl, tq_inW 28 (by decide +kernel) rfl⟩
def mX12_lays : tq_M := (yX12_lays, cX12_lays, 5, some .int)
theorem kX12_lays : tq_mok mX12_lays 3 := ⟨tq_inW 1013 (by decide +kernel) rfl, tq_inW 71 (by decide +kernel) rfl, by decide +kernel, by decide +kernel, by decide +kernel⟩
theorem sX12_lays : tq_inst mX12_lays := ⟨tq_inW 1012 (by decide +kernel) rfl, tq_inW 29 (by decide +kernel) rfl⟩
def mX12_corner : tq_M := (yX12_corner, cX12_corner, 3, some .int)
theorem kX12_corner : tq_mok mX12_corner 2 := ⟨tq_inW 1017 (by decide +kernel) rfl, tq_inW 71 (by decide +kernel) rfl, by decide +kernel, by decide +kernel, by decide +kernel⟩
theorem sX12_corner : tq_inst mX12_corner := ⟨tq_inW 1015 (by decide +kernel) rfl, tq_inW 1016 (by decide +kernel) rfl⟩
def mX12_fill : tq_M := (yX12_fill, cX12_fill, 11, some .int)
theorem kX12_fill : tq_mok mX12_fill 5 := ⟨tq_inW 1021 (by decide +kernel) rfl, tq_inW 71 (by decide +kernel) rfl, by decide +kernel, by decide +kernel, by decide +kernel⟩
theorem sX12_fill : tq_inst mX12_fill := ⟨tq_inW 1019 (by decide +kernel) rfl, tq_inW 1020 (by decide +kernel) rfl⟩
def mX12_flood : tq_M := (yX12_flood, cX12_flood, 6, some .int)
theorem kX12_flood : tq_mok mX12_flood 3 := ⟨tq_inW 1025 (by decide +kernel) rfl, tq_inW 71 (by decide +kernel) rfl, by decide +kernel, by decide +kernel, by decide +kernel⟩
theorem sX12_flood : tq_inst mX12_flood := ⟨tq_inW 1023 (by decide +kernel) rfl, tq_inW 1024 (by decide +kernel) rfl⟩
def mX12_forgets : tq_M := (yX12_forgets, cX12_forgets, 2, none)
theorem kX12_forgets : tq_mok mX12_forgets 0 := ⟨tq_inW 1029 (by decide +kernel) rfl, tq_inW 71 (by decide +kernel) rfl, by decide +kernel, by decide +kernel, by decide +kernel⟩
theorem sX12_forgets : tq_inst mX12_forgets := ⟨tq_inW 1028 (by decide +kernel) rfl, tq_inW 30 (by decide +kernel) rfl⟩
def mX12_reaches : tq_M := (yX12_reaches, cX12_reaches, 9, none)
theorem kX12_reaches : tq_mok mX12_reaches 2 := ⟨tq_inW 1033 (by decide +kernel) rfl, tq_inW 71 (by decide +kernel) rfl, by decide +kernel, by decide +kernel, by decide +kernel⟩
theorem sX12_reaches : tq_inst mX12_reaches := ⟨tq_inW 1032 (by decide +kernel) rfl, tq_inW 31 (by decide +kernel) rfl⟩
def mX12_isMet : tq_M := (yX12_isMet, cX12_isMet, 3, some .boolean)
theorem kX12_isMet : tq_mok mX12_isMet 2 := ⟨tq_inW 1037 (by decide +kernel) rfl, tq_inW 71 (by decide +kernel) rfl, by decide +kernel, by decide +kernel, by decide +kernel⟩
theorem sX12_isMet : tq_inst mX12_isMet := ⟨tq_inW 1036 (by decide +kernel) rfl, tq_inW 32 (by decide +kernel) rfl⟩
def mX12_raise : tq_M := (yX12_raise, cX12_raise, 12, some .int)
theorem kX12_raise : tq_mok mX12_raise 3 := ⟨tq_inW 1041 (by decide +kernel) rfl, tq_inW 71 (by decide +kernel) rfl, by decide +kernel, by decide +kernel, by decide +kernel⟩
theorem sX12_raise : tq_inst mX12_raise := ⟨tq_inW 1039 (by decide +kernel) rfl, tq_inW 1040 (by decide +kernel) rfl⟩
def mX12_rankOf : tq_M := (yX12_rankOf, cX12_rankOf, 3, some .int)
theorem kX12_rankOf : tq_mok mX12_rankOf 1 := ⟨tq_inW 1045 (by decide +kernel) rfl, tq_inW 71 (by decide +kernel) rfl, by decide +kernel, by decide +kernel, by decide +kernel⟩
theorem sX12_rankOf : tq_inst mX12_rankOf := ⟨tq_inW 1044 (by decide +kernel) rfl, tq_inW 33 (by decide +kernel) rfl⟩
def mX12_size_ : tq_M := (yX12_size_, cX12_size_, 2, some .int)
theorem kX12_size_ : tq_mok mX12_size_ 2 := ⟨tq_inW 1048 (by decide +kernel) rfl, tq_inW 71 (by decide +kernel) rfl, by decide +kernel, by decide +kernel, by decide +kernel⟩
theorem sX12_size_ : tq_stat mX12_size_ := tq_inW 1047 (by decide +kernel) rfl
def mX12_regions : tq_M := (yX12_regions, cX12_regions, 4, some .int)
theorem kX12_regions : tq_mok mX12_regions 1 := ⟨tq_inW 1052 (by decide +kernel) rfl, tq_inW 71 (by decide +kernel) rfl, by decide +kernel, by decide +kernel, by decide +kernel⟩
theorem sX12_regions : tq_inst mX12_regions := ⟨tq_inW 1050 (by decide +kernel) rfl, tq_inW 1051 (by decide +kernel) rfl⟩
def mX12_setPath : tq_M := (yX12_setPath, cX12_setPath, 6, some .int)
theorem kX12_setPath : tq_mok mX12_setPath 3 := ⟨tq_inW 1056 (by decide +kernel) rfl, tq_inW 71 (by decide +kernel) rfl, by decide +kernel, by decide +kernel, by decide +kernel⟩
theorem sX12_setPath : tq_inst mX12_setPath := ⟨tq_inW 1054 (by decide +kernel) rfl, tq_inW 1055 (by decide +kernel) rfl⟩
def mX12_pathOf : tq_M := (yX12_pathOf, cX12_pathOf, 3, some .int)
theorem kX12_pathOf : tq_mok mX12_pathOf 2 := ⟨tq_inW 1060 (by decide +kernel) rfl, tq_inW 71 (by decide +kernel) rfl, by decide +kernel, by decide +kernel, by decide +kernel⟩
theorem sX12_pathOf : tq_inst mX12_pathOf := ⟨tq_inW 1059 (by decide +kernel) rfl, tq_inW 34 (by decide +kernel) rfl⟩
def mX12_hasPath : tq_M := (yX12_hasPath, cX12_hasPath, 3, some .int)
theorem kX12_hasPath : tq_mok mX12_hasPath 2 := ⟨tq_inW 1064 (by decide +kernel) rfl, tq_inW 71 (by decide +kernel) rfl, by decide +kernel, by decide +kernel, by decide +kernel⟩
theorem sX12_hasPath : tq_inst mX12_hasPath := ⟨tq_inW 1062 (by decide +kernel) rfl, tq_inW 1063 (by decide +kernel) rfl⟩
def mX12_pathMask : tq_M := (yX12_pathMask, cX12_pathMask, 3, some .int)
theorem kX12_pathMask : tq_mok mX12_pathMask 2 := ⟨tq_inW 1068 (by decide +kernel) rfl, tq_inW 71 (by decide +kernel) rfl, by decide +kernel, by decide +kernel, by decide +kernel⟩
theorem sX12_pathMask : tq_inst mX12_pathMask := ⟨tq_inW 1066 (by decide +kernel) rfl, tq_inW 1067 (by decide +kernel) rfl⟩
def mX12_maskOf : tq_M := (yX12_maskOf, cX12_maskOf, 6, some .int)
theorem kX12_maskOf : tq_mok mX12_maskOf 2 := ⟨tq_inW 1072 (by decide +kernel) rfl, tq_inW 71 (by decide +kernel) rfl, by decide +kernel, by decide +kernel, by decide +kernel⟩
theorem sX12_maskOf : tq_inst mX12_maskOf := ⟨tq_inW 1071 (by decide +kernel) rfl, tq_inW 35 (by decide +kernel) rfl⟩
def mX12_pathTile : tq_M := (yX12_pathTile, cX12_pathTile, 3, some .int)
theorem kX12_pathTile : tq_mok mX12_pathTile 2 := ⟨tq_inW 1076 (by decide +kernel) rfl, tq_inW 71 (by decide +kernel) rfl, by decide +kernel, by decide +kernel, by decide +kernel⟩
theorem sX12_pathTile : tq_inst mX12_pathTile := ⟨tq_inW 1074 (by decide +kernel) rfl, tq_inW 1075 (by decide +kernel) rfl⟩
def mX12_pathTileOf : tq_M := (yX12_pathTileOf, cX12_pathTileOf, 6, some .int)
theorem kX12_pathTileOf : tq_mok mX12_pathTileOf 2 := ⟨tq_inW 1080 (by decide +kernel) rfl, tq_inW 71 (by decide +kernel) rfl, by decide +kernel, by decide +kernel, by decide +kernel⟩
theorem sX12_pathTileOf : tq_inst mX12_pathTileOf := ⟨tq_inW 1079 (by decide +kernel) rfl, tq_inW 36 (by decide +kernel) rfl⟩
def mX12_isPathMask : tq_M := (yX12_isPathMask, cX12_isPathMask, 4, some .boolean)
theorem kX12_isPathMask : tq_mok mX12_isPathMask 1 := ⟨tq_inW 1083 (by decide +kernel) rfl, tq_inW 71 (by decide +kernel) rfl, by decide +kernel, by decide +kernel, by decide +kernel⟩
theorem sX12_isPathMask : tq_stat mX12_isPathMask := tq_inW 1082 (by decide +kernel) rfl
def mX12_setRank : tq_M := (yX12_setRank, cX12_setRank, 5, some .int)
theorem kX12_setRank : tq_mok mX12_setRank 2 := ⟨tq_inW 1087 (by decide +kernel) rfl, tq_inW 71 (by decide +kernel) rfl, by decide +kernel, by decide +kernel, by decide +kernel⟩
theorem sX12_setRank : tq_inst mX12_setRank := ⟨tq_inW 1085 (by decide +kernel) rfl, tq_inW 1086 (by decide +kernel) rfl⟩
def mX12_rank : tq_M := (yX12_rank, cX12_rank, 2, some .int)
theorem kX12_rank : tq_mok mX12_rank 1 := ⟨tq_inW 1091 (by decide +kernel) rfl, tq_inW 71 (by decide +kernel) rfl, by decide +kernel, by decide +kernel, by decide +kernel⟩
theorem sX12_rank : tq_inst mX12_rank := ⟨tq_inW 1089 (by decide +kernel) rfl, tq_inW 1090 (by decide +kernel) rfl⟩
def mX12_setTiles : tq_M := (yX12_setTiles, cX12_setTiles, 3, some .int)
theorem kX12_setTiles : tq_mok mX12_setTiles 2 := ⟨tq_inW 1095 (by decide +kernel) rfl, tq_inW 71 (by decide +kernel) rfl, by decide +kernel, by decide +kernel, by decide +kernel⟩
theorem sX12_setTiles : tq_inst mX12_setTiles := ⟨tq_inW 1093 (by decide +kernel) rfl, tq_inW 1094 (by decide +kernel) rfl⟩
def mX12_becomes : tq_M := (yX12_becomes, cX12_becomes, 4, some .int)
theorem kX12_becomes : tq_mok mX12_becomes 2 := ⟨tq_inW 1101 (by decide +kernel) rfl, tq_inW 71 (by decide +kernel) rfl, by decide +kernel, by decide +kernel, by decide +kernel⟩
theorem sX12_becomes : tq_inst mX12_becomes := ⟨tq_inW 1100 (by decide +kernel) rfl, tq_inW 37 (by decide +kernel) rfl⟩
def mX12_setVariants : tq_M := (yX12_setVariants, cX12_setVariants, 3, some .int)
theorem kX12_setVariants : tq_mok mX12_setVariants 2 := ⟨tq_inW 1105 (by decide +kernel) rfl, tq_inW 71 (by decide +kernel) rfl, by decide +kernel, by decide +kernel, by decide +kernel⟩
theorem sX12_setVariants : tq_inst mX12_setVariants := ⟨tq_inW 1103 (by decide +kernel) rfl, tq_inW 1104 (by decide +kernel) rfl⟩
def mX12_setSeed : tq_M := (yX12_setSeed, cX12_setSeed, 2, some .int)
theorem kX12_setSeed : tq_mok mX12_setSeed 1 := ⟨tq_inW 1109 (by decide +kernel) rfl, tq_inW 71 (by decide +kernel) rfl, by decide +kernel, by decide +kernel, by decide +kernel⟩
theorem sX12_setSeed : tq_inst mX12_setSeed := ⟨tq_inW 1107 (by decide +kernel) rfl, tq_inW 1108 (by decide +kernel) rfl⟩
def mX12_setBorder : tq_M := (yX12_setBorder, cX12_setBorder, 2, some .int)
theorem kX12_setBorder : tq_mok mX12_setBorder 1 := ⟨tq_inW 1113 (by decide +kernel) rfl, tq_inW 71 (by decide +kernel) rfl, by decide +kernel, by decide +kernel, by decide +kernel⟩
theorem sX12_setBorder : tq_inst mX12_setBorder := ⟨tq_inW 1111 (by decide +kernel) rfl, tq_inW 1112 (by decide +kernel) rfl⟩
def mX12_way : tq_M := (yX12_way, cX12_way, 3, some .int)
theorem kX12_way : tq_mok mX12_way 2 := ⟨tq_inW 1117 (by decide +kernel) rfl, tq_inW 71 (by decide +kernel) rfl, by decide +kernel, by decide +kernel, by decide +kernel⟩
theorem sX12_way : tq_inst mX12_way := ⟨tq_inW 1115 (by decide +kernel) rfl, tq_inW 1116 (by decide +kernel) rfl⟩
def mX12_wayOf : tq_M := (yX12_wayOf, cX12_wayOf, 4, some .int)
theorem kX12_wayOf : tq_mok mX12_wayOf 2 := ⟨tq_inW 1121 (by decide +kernel) rfl, tq_inW 71 (by decide +kernel) rfl, by decide +kernel, by decide +kernel, by decide +kernel⟩
theorem sX12_wayOf : tq_inst mX12_wayOf := ⟨tq_inW 1120 (by decide +kernel) rfl, tq_inW 38 (by decide +kernel) rfl⟩
def mX12_flipped : tq_M := (yX12_flipped, cX12_flipped, 3, some .int)
theorem kX12_flipped : tq_mok mX12_flipped 2 := ⟨tq_inW 1124 (by decide +kernel) rfl, tq_inW 71 (by decide +kernel) rfl, by decide +kernel, by decide +kernel, by decide +kernel⟩
theorem sX12_flipped : tq_stat mX12_flipped := tq_inW 1123 (by decide +kernel) rfl
def mX12_parts : tq_M := (yX12_parts, cX12_parts, 3, some .int)
theorem kX12_parts : tq_mok mX12_parts 2 := ⟨tq_inW 1128 (by decide +kernel) rfl, tq_inW 71 (by decide +kernel) rfl, by decide +kernel, by decide +kernel, by decide +kernel⟩
theorem sX12_parts : tq_inst mX12_parts := ⟨tq_inW 1126 (by decide +kernel) rfl, tq_inW 1127 (by decide +kernel) rfl⟩
def mX12_finds : tq_M := (yX12_finds, cX12_finds, 3, none)
theorem kX12_finds : tq_mok mX12_finds 2 := ⟨tq_inW 1132 (by decide +kernel) rfl, tq_inW 71 (by decide +kernel) rfl, by decide +kernel, by decide +kernel, by decide +kernel⟩
theorem sX12_finds : tq_inst mX12_finds := ⟨tq_inW 1131 (by decide +kernel) rfl, tq_inW 39 (by decide +kernel) rfl⟩
def mX12_makesUp : tq_M := (yX12_makesUp, cX12_makesUp, 7, some .boolean)
theorem kX12_makesUp : tq_mok mX12_makesUp 3 := ⟨tq_inW 1136 (by decide +kernel) rfl, tq_inW 71 (by decide +kernel) rfl, by decide +kernel, by decide +kernel, by decide +kernel⟩
theorem sX12_makesUp : tq_inst mX12_makesUp := ⟨tq_inW 1135 (by decide +kernel) rfl, tq_inW 40 (by decide +kernel) rfl⟩
def mX12_layers : tq_M := (yX12_layers, cX12_layers, 3, some .int)
theorem kX12_layers : tq_mok mX12_layers 2 := ⟨tq_inW 1140 (by decide +kernel) rfl, tq_inW 71 (by decide +kernel) rfl, by decide +kernel, by decide +kernel, by decide +kernel⟩
theorem sX12_layers : tq_inst mX12_layers := ⟨tq_inW 1138 (by decide +kernel) rfl, tq_inW 1139 (by decide +kernel) rfl⟩
def mX12_findsLayers : tq_M := (yX12_findsLayers, cX12_findsLayers, 8, none)
theorem kX12_findsLayers : tq_mok mX12_findsLayers 2 := ⟨tq_inW 1144 (by decide +kernel) rfl, tq_inW 71 (by decide +kernel) rfl, by decide +kernel, by decide +kernel, by decide +kernel⟩
theorem sX12_findsLayers : tq_inst mX12_findsLayers := ⟨tq_inW 1143 (by decide +kernel) rfl, tq_inW 41 (by decide +kernel) rfl⟩
def mX12_cornerAt : tq_M := (yX12_cornerAt, cX12_cornerAt, 4, some .int)
theorem kX12_cornerAt : tq_mok mX12_cornerAt 3 := ⟨tq_inW 1148 (by decide +kernel) rfl, tq_inW 71 (by decide +kernel) rfl, by decide +kernel, by decide +kernel, by decide +kernel⟩
theorem sX12_cornerAt : tq_inst mX12_cornerAt := ⟨tq_inW 1147 (by decide +kernel) rfl, tq_inW 42 (by decide +kernel) rfl⟩
def mX12_layer : tq_M := (yX12_layer, cX12_layer, 5, some .int)
theorem kX12_layer : tq_mok mX12_layer 4 := ⟨tq_inW 1152 (by decide +kernel) rfl, tq_inW 71 (by decide +kernel) rfl, by decide +kernel, by decide +kernel, by decide +kernel⟩
theorem sX12_layer : tq_inst mX12_layer := ⟨tq_inW 1150 (by decide +kernel) rfl, tq_inW 1151 (by decide +kernel) rfl⟩
def mX12_pieces : tq_M := (yX12_pieces, cX12_pieces, 3, some .int)
theorem kX12_pieces : tq_mok mX12_pieces 2 := ⟨tq_inW 1156 (by decide +kernel) rfl, tq_inW 71 (by decide +kernel) rfl, by decide +kernel, by decide +kernel, by decide +kernel⟩
theorem sX12_pieces : tq_inst mX12_pieces := ⟨tq_inW 1154 (by decide +kernel) rfl, tq_inW 1155 (by decide +kernel) rfl⟩
def mX12_findsPieces : tq_M := (yX12_findsPieces, cX12_findsPieces, 9, none)
theorem kX12_findsPieces : tq_mok mX12_findsPieces 2 := ⟨tq_inW 1160 (by decide +kernel) rfl, tq_inW 71 (by decide +kernel) rfl, by decide +kernel, by decide +kernel, by decide +kernel⟩
theorem sX12_findsPieces : tq_inst mX12_findsPieces := ⟨tq_inW 1159 (by decide +kernel) rfl, tq_inW 43 (by decide +kernel) rfl⟩
def mX12_variantOf : tq_M := (yX12_variantOf, cX12_variantOf, 5, some .int)
theorem kX12_variantOf : tq_mok mX12_variantOf 3 := ⟨tq_inW 1164 (by decide +kernel) rfl, tq_inW 71 (by decide +kernel) rfl, by decide +kernel, by decide +kernel, by decide +kernel⟩
theorem sX12_variantOf : tq_inst mX12_variantOf := ⟨tq_inW 1163 (by decide +kernel) rfl, tq_inW 44 (by decide +kernel) rfl⟩
def mX12_piece : tq_M := (yX12_piece, cX12_piece, 5, some .int)
theorem kX12_piece : tq_mok mX12_piece 4 := ⟨tq_inW 1169 (by decide +kernel) rfl, tq_inW 71 (by decide +kernel) rfl, by decide +kernel, by decide +kernel, by decide +kernel⟩
theorem sX12_piece : tq_inst mX12_piece := ⟨tq_inW 1167 (by decide +kernel) rfl, tq_inW 1168 (by decide +kernel) rfl⟩
def mX12_ofPiece : tq_M := (yX12_ofPiece, cX12_ofPiece, 2, some .int)
theorem kX12_ofPiece : tq_mok mX12_ofPiece 2 := ⟨tq_inW 1172 (by decide +kernel) rfl, tq_inW 71 (by decide +kernel) rfl, by decide +kernel, by decide +kernel, by decide +kernel⟩
theorem sX12_ofPiece : tq_stat mX12_ofPiece := tq_inW 1171 (by decide +kernel) rfl
def mX12_painted : tq_M := (yX12_painted, cX12_painted, 3, some .int)
theorem kX12_painted : tq_mok mX12_painted 2 := ⟨tq_inW 1176 (by decide +kernel) rfl, tq_inW 71 (by decide +kernel) rfl, by decide +kernel, by decide +kernel, by decide +kernel⟩
theorem sX12_painted : tq_inst mX12_painted := ⟨tq_inW 1174 (by decide +kernel) rfl, tq_inW 1175 (by decide +kernel) rfl⟩
def mX12_at : tq_M := (yX12_at, cX12_at, 3, some .int)
theorem kX12_at : tq_mok mX12_at 2 := ⟨tq_inW 1180 (by decide +kernel) rfl, tq_inW 71 (by decide +kernel) rfl, by decide +kernel, by decide +kernel, by decide +kernel⟩
theorem sX12_at : tq_inst mX12_at := ⟨tq_inW 1179 (by decide +kernel) rfl, tq_inW 45 (by decide +kernel) rfl⟩
def mX12_isStale : tq_M := (yX12_isStale, cX12_isStale, 3, some .int)
theorem kX12_isStale : tq_mok mX12_isStale 2 := ⟨tq_inW 1184 (by decide +kernel) rfl, tq_inW 71 (by decide +kernel) rfl, by decide +kernel, by decide +kernel, by decide +kernel⟩
theorem sX12_isStale : tq_inst mX12_isStale := ⟨tq_inW 1182 (by decide +kernel) rfl, tq_inW 1183 (by decide +kernel) rfl⟩
def mX12_isStaleAt : tq_M := (yX12_isStaleAt, cX12_isStaleAt, 6, some .boolean)
theorem kX12_isStaleAt : tq_mok mX12_isStaleAt 2 := ⟨tq_inW 1188 (by decide +kernel) rfl, tq_inW 71 (by decide +kernel) rfl, by decide +kernel, by decide +kernel, by decide +kernel⟩
theorem sX12_isStaleAt : tq_inst mX12_isStaleAt := ⟨tq_inW 1187 (by decide +kernel) rfl, tq_inW 46 (by decide +kernel) rfl⟩
def mX12_touched : tq_M := (yX12_touched, cX12_touched, 3, some .int)
theorem kX12_touched : tq_mok mX12_touched 0 := ⟨tq_inW 1192 (by decide +kernel) rfl, tq_inW 71 (by decide +kernel) rfl, by decide +kernel, by decide +kernel, by decide +kernel⟩
theorem sX12_touched : tq_inst mX12_touched := ⟨tq_inW 1190 (by decide +kernel) rfl, tq_inW 1191 (by decide +kernel) rfl⟩
def mX12_stale : tq_M := (yX12_stale, cX12_stale, 3, some .int)
theorem kX12_stale : tq_mok mX12_stale 0 := ⟨tq_inW 1196 (by decide +kernel) rfl, tq_inW 71 (by decide +kernel) rfl, by decide +kernel, by decide +kernel, by decide +kernel⟩
theorem sX12_stale : tq_inst mX12_stale := ⟨tq_inW 1194 (by decide +kernel) rfl, tq_inW 1195 (by decide +kernel) rfl⟩
def mX12_paint : tq_M := (yX12_paint, cX12_paint, 3, some .int)
theorem kX12_paint : tq_mok mX12_paint 0 := ⟨tq_inW 1200 (by decide +kernel) rfl, tq_inW 71 (by decide +kernel) rfl, by decide +kernel, by decide +kernel, by decide +kernel⟩
theorem sX12_paint : tq_inst mX12_paint := ⟨tq_inW 1198 (by decide +kernel) rfl, tq_inW 1199 (by decide +kernel) rfl⟩
def mX12_paints : tq_M := (yX12_paints, cX12_paints, 6, some .int)
theorem kX12_paints : tq_mok mX12_paints 2 := ⟨tq_inW 1204 (by decide +kernel) rfl, tq_inW 71 (by decide +kernel) rfl, by decide +kernel, by decide +kernel, by decide +kernel⟩
theorem sX12_paints : tq_inst mX12_paints := ⟨tq_inW 1203 (by decide +kernel) rfl, tq_inW 47 (by decide +kernel) rfl⟩
def mX12_paintCell : tq_M := (yX12_paintCell, cX12_paintCell, 3, some .int)
theorem kX12_paintCell : tq_mok mX12_paintCell 2 := ⟨tq_inW 1208 (by decide +kernel) rfl, tq_inW 71 (by decide +kernel) rfl, by decide +kernel, by decide +kernel, by decide +kernel⟩
theorem sX12_paintCell : tq_inst mX12_paintCell := ⟨tq_inW 1206 (by decide +kernel) rfl, tq_inW 1207 (by decide +kernel) rfl⟩
def mX12_kinds : tq_M := (yX12_kinds, cX12_kinds, 1, some .int)
theorem kX12_kinds : tq_mok mX12_kinds 0 := ⟨tq_inW 1212 (by decide +kernel) rfl, tq_inW 71 (by decide +kernel) rfl, by decide +kernel, by decide +kernel, by decide +kernel⟩
theorem sX12_kinds : tq_inst mX12_kinds := ⟨tq_inW 1210 (by decide +kernel) rfl, tq_inW 1211 (by decide +kernel) rfl⟩
def mX12_findsKinds : tq_M := (yX12_findsKinds, cX12_findsKinds, 5, none)
theorem kX12_findsKinds : tq_mok mX12_findsKinds 0 := ⟨tq_inW 1216 (by decide +kernel) rfl, tq_inW 71 (by decide +kernel) rfl, by decide +kernel, by decide +kernel, by decide +kernel⟩
theorem sX12_findsKinds : tq_inst mX12_findsKinds := ⟨tq_inW 1215 (by decide +kernel) rfl, tq_inW 48 (by decide +kernel) rfl⟩
def mX12_kind : tq_M := (yX12_kind, cX12_kind, 3, some .int)
theorem kX12_kind : tq_mok mX12_kind 2 := ⟨tq_inW 1220 (by decide +kernel) rfl, tq_inW 71 (by decide +kernel) rfl, by decide +kernel, by decide +kernel, by decide +kernel⟩
theorem sX12_kind : tq_inst mX12_kind := ⟨tq_inW 1218 (by decide +kernel) rfl, tq_inW 1219 (by decide +kernel) rfl⟩
def mX12_undo : tq_M := (yX12_undo, cX12_undo, 1, some .int)
theorem kX12_undo : tq_mok mX12_undo 0 := ⟨tq_inW 1224 (by decide +kernel) rfl, tq_inW 71 (by decide +kernel) rfl, by decide +kernel, by decide +kernel, by decide +kernel⟩
theorem sX12_undo : tq_inst mX12_undo := ⟨tq_inW 1222 (by decide +kernel) rfl, tq_inW 1223 (by decide +kernel) rfl⟩
def mX12_type : tq_M := (yX12_type, cX12_type, 2, some .int)
theorem kX12_type : tq_mok mX12_type 1 := ⟨tq_inW 1228 (by decide +kernel) rfl, tq_inW 71 (by decide +kernel) rfl, by decide +kernel, by decide +kernel, by decide +kernel⟩
theorem sX12_type : tq_inst mX12_type := ⟨tq_inW 1226 (by decide +kernel) rfl, tq_inW 1227 (by decide +kernel) rfl⟩
def mX12_clearText : tq_M := (yX12_clearText, cX12_clearText, 2, some .int)
theorem kX12_clearText : tq_mok mX12_clearText 0 := ⟨tq_inW 1232 (by decide +kernel) rfl, tq_inW 71 (by decide +kernel) rfl, by decide +kernel, by decide +kernel, by decide +kernel⟩
theorem sX12_clearText : tq_inst mX12_clearText := ⟨tq_inW 1230 (by decide +kernel) rfl, tq_inW 1231 (by decide +kernel) rfl⟩
def mX12_textFault : tq_M := (yX12_textFault, cX12_textFault, 1, some .int)
theorem kX12_textFault : tq_mok mX12_textFault 0 := ⟨tq_inW 1236 (by decide +kernel) rfl, tq_inW 71 (by decide +kernel) rfl, by decide +kernel, by decide +kernel, by decide +kernel⟩
theorem sX12_textFault : tq_inst mX12_textFault := ⟨tq_inW 1234 (by decide +kernel) rfl, tq_inW 1235 (by decide +kernel) rfl⟩
def mX12_readsAll : tq_M := (yX12_readsAll, cX12_readsAll, 2, some .boolean)
theorem kX12_readsAll : tq_mok mX12_readsAll 0 := ⟨tq_inW 1240 (by decide +kernel) rfl, tq_inW 71 (by decide +kernel) rfl, by decide +kernel, by decide +kernel, by decide +kernel⟩
theorem sX12_readsAll : tq_inst mX12_readsAll := ⟨tq_inW 1239 (by decide +kernel) rfl, tq_inW 49 (by decide +kernel) rfl⟩
def mX12_readsRow : tq_M := (yX12_readsRow, cX12_readsRow, 4, some .boolean)
theorem kX12_readsRow : tq_mok mX12_readsRow 0 := ⟨tq_inW 1244 (by decide +kernel) rfl, tq_inW 71 (by decide +kernel) rfl, by decide +kernel, by decide +kernel, by decide +kernel⟩
theorem sX12_readsRow : tq_inst mX12_readsRow := ⟨tq_inW 1243 (by decide +kernel) rfl, tq_inW 50 (by decide +kernel) rfl⟩
def mX12_readsItem : tq_M := (yX12_readsItem, cX12_readsItem, 5, some .boolean)
theorem kX12_readsItem : tq_mok mX12_readsItem 0 := ⟨tq_inW 1248 (by decide +kernel) rfl, tq_inW 71 (by decide +kernel) rfl, by decide +kernel, by decide +kernel, by decide +kernel⟩
theorem sX12_readsItem : tq_inst mX12_readsItem := ⟨tq_inW 1247 (by decide +kernel) rfl, tq_inW 51 (by decide +kernel) rfl⟩
def mX12_number : tq_M := (yX12_number, cX12_number, 3, some .int)
theorem kX12_number : tq_mok mX12_number 0 := ⟨tq_inW 1252 (by decide +kernel) rfl, tq_inW 71 (by decide +kernel) rfl, by decide +kernel, by decide +kernel, by decide +kernel⟩
theorem sX12_number : tq_inst mX12_number := ⟨tq_inW 1251 (by decide +kernel) rfl, tq_inW 52 (by decide +kernel) rfl⟩
def mX12_here : tq_M := (yX12_here, cX12_here, 1, some .int)
theorem kX12_here : tq_mok mX12_here 0 := ⟨tq_inW 1256 (by decide +kernel) rfl, tq_inW 71 (by decide +kernel) rfl, by decide +kernel, by decide +kernel, by decide +kernel⟩
theorem sX12_here : tq_inst mX12_here := ⟨tq_inW 1255 (by decide +kernel) rfl, tq_inW 53 (by decide +kernel) rfl⟩
def mX12_load : tq_M := (yX12_load, cX12_load, 2, some .int)
theorem kX12_load : tq_mok mX12_load 0 := ⟨tq_inW 1260 (by decide +kernel) rfl, tq_inW 71 (by decide +kernel) rfl, by decide +kernel, by decide +kernel, by decide +kernel⟩
theorem sX12_load : tq_inst mX12_load := ⟨tq_inW 1258 (by decide +kernel) rfl, tq_inW 1259 (by decide +kernel) rfl⟩
def mX12_write : tq_M := (yX12_write, cX12_write, 4, some .int)
theorem kX12_write : tq_mok mX12_write 0 := ⟨tq_inW 1264 (by decide +kernel) rfl, tq_inW 71 (by decide +kernel) rfl, by decide +kernel, by decide +kernel, by decide +kernel⟩
theorem sX12_write : tq_inst mX12_write := ⟨tq_inW 1262 (by decide +kernel) rfl, tq_inW 1263 (by decide +kernel) rfl⟩
def mX12_puts : tq_M := (yX12_puts, cX12_puts, 2, none)
theorem kX12_puts : tq_mok mX12_puts 1 := ⟨tq_inW 1268 (by decide +kernel) rfl, tq_inW 71 (by decide +kernel) rfl, by decide +kernel, by decide +kernel, by decide +kernel⟩
theorem sX12_puts : tq_inst mX12_puts := ⟨tq_inW 1267 (by decide +kernel) rfl, tq_inW 54 (by decide +kernel) rfl⟩
def mX12_writesItem : tq_M := (yX12_writesItem, cX12_writesItem, 3, none)
theorem kX12_writesItem : tq_mok mX12_writesItem 2 := ⟨tq_inW 1272 (by decide +kernel) rfl, tq_inW 71 (by decide +kernel) rfl, by decide +kernel, by decide +kernel, by decide +kernel⟩
theorem sX12_writesItem : tq_inst mX12_writesItem := ⟨tq_inW 1271 (by decide +kernel) rfl, tq_inW 55 (by decide +kernel) rfl⟩
def mX12_written : tq_M := (yX12_written, cX12_written, 2, some .int)
theorem kX12_written : tq_mok mX12_written 1 := ⟨tq_inW 1276 (by decide +kernel) rfl, tq_inW 71 (by decide +kernel) rfl, by decide +kernel, by decide +kernel, by decide +kernel⟩
theorem sX12_written : tq_inst mX12_written := ⟨tq_inW 1274 (by decide +kernel) rfl, tq_inW 1275 (by decide +kernel) rfl⟩
def mX12_digest : tq_M := (yX12_digest, cX12_digest, 3, some .long)
theorem kX12_digest : tq_mok mX12_digest 0 := ⟨tq_inW 1280 (by decide +kernel) rfl, tq_inW 71 (by decide +kernel) rfl, by decide +kernel, by decide +kernel, by decide +kernel⟩
theorem sX12_digest : tq_inst mX12_digest := ⟨tq_inW 1278 (by decide +kernel) rfl, tq_inW 1279 (by decide +kernel) rfl⟩
def mX12_note : tq_M := (yX12_note, cX12_note, 2, none)
theorem kX12_note : tq_mok mX12_note 1 := ⟨tq_inW 1285 (by decide +kernel) rfl, tq_inW 71 (by decide +kernel) rfl, by decide +kernel, by decide +kernel, by decide +kernel⟩
theorem sX12_note : tq_inst mX12_note := ⟨tq_inW 1284 (by decide +kernel) rfl, tq_inW 56 (by decide +kernel) rfl⟩
def mX12_noteCell : tq_M := (yX12_noteCell, cX12_noteCell, 5, none)
theorem kX12_noteCell : tq_mok mX12_noteCell 2 := ⟨tq_inW 1290 (by decide +kernel) rfl, tq_inW 71 (by decide +kernel) rfl, by decide +kernel, by decide +kernel, by decide +kernel⟩
theorem sX12_noteCell : tq_inst mX12_noteCell := ⟨tq_inW 1289 (by decide +kernel) rfl, tq_inW 57 (by decide +kernel) rfl⟩
end
section
/-! THE ABSTRACT MACHINE: a heap is a list of shapes and three stores (ints, references, one long); a reference is a cell's number (the n-th cell made), 1000 and on are the outer rows (the script, three static rows) -/
abbrev tq_S : Type := Nat ⊕ (Nat × Nat)
abbrev tq_R : Type := Nat → Nat → Option Nat
abbrev tq_I : Type := Nat → Nat → Int32
/-- launch; classes and slots; array classes; the first new address; the outer rows' addresses; the start's heap; the script's length, its ints -/
abbrev tq_G : Type := Launch × va_G × (Nat → ClassId) × Nat × (Nat → Nat) × Heap × Nat × (Nat → Int32)
abbrev tq_gl (g : tq_G) : Launch := g.1
abbrev tq_gD (g : tq_G) : va_G := g.2.1
abbrev tq_gA (g : tq_G) : Nat → ClassId := g.2.2.1
abbrev tq_gs (g : tq_G) : Nat := g.2.2.2.1
abbrev tq_go (g : tq_G) : Nat → Nat := g.2.2.2.2.1
abbrev tq_gH (g : tq_G) : Heap := g.2.2.2.2.2.1
abbrev tq_gn (g : tq_G) : Nat := g.2.2.2.2.2.2.1
abbrev tq_gx (g : tq_G) : Nat → Int32 := g.2.2.2.2.2.2.2
def tq_aside : List Int32 := [0, 1, 1, 1, 0, -1, -1, -1]
def tq_down : List Int32 := [-1, -1, 0, 1, 1, 1, 0, -1]
def tq_pm : List Int32 := [0, 1, 4, 5, 7, 16, 17, 20, 21, 23, 28, 29, 31, 64, 65, 68, 69, 71, 80, 81, 84, 85, 87, 92, 93, 95, 112, 113, 116, 117, 119, 124, 125, 127, 193, 197, 199, 209, 213, 215, 221, 223, 241, 245, 247, 253, 255]
def tq_oL (g : tq_G) (i : Nat) : Nat := match i with
  | 0 => tq_gn g
  | 1 => 8
  | 2 => 8
  | _ => 47
def tq_oX (g : tq_G) (i j : Nat) : Int32 := match i with
  | 0 => tq_gx g j
  | 1 => tq_aside.getD j 0
  | 2 => tq_down.getD j 0
  | _ => tq_pm.getD j 0
def tq_ad (g : tq_G) (a : Nat) : Nat := if a < 1000 then tq_gs g + a else tq_go g (a - 1000)
def tq_v (g : tq_G) (v : Value) : Value := match v with
  | .ref a => .ref (tq_ad g a)
  | w => w
theorem tq_v_cat (g : tq_G) (v : Value) : (tq_v g v).category = v.category := by cases v <;> rfl
theorem tq_ad_lt {g : tq_G} {a : Nat} (h : a < 1000) : tq_ad g a = tq_gs g + a := if_pos h
def tq_ov (r : Option Nat) : Value := match r with
  | none => .null
  | some a => .ref a
theorem tq_v_ov (g : tq_G) (r : Option Nat) : tq_v g (tq_ov r) = va_rf (r.map (tq_ad g)) := by cases r <;> rfl
/-- a field's value, abstract -/
def tq_av (R : tq_R) (I : tq_I) (J : Int64) (ty : FieldType) (a k : Nat) : Value := match ty with
  | .int => .int (I a k)
  | .boolean => .int (I a k)
  | .long => .long J
  | _ => tq_ov (R a k)
def tq_fv (g : tq_G) (R : tq_R) (I : tq_I) (J : Int64) (ty : FieldType) (a k : Nat) : Value := tq_v g (tq_av R I J ty a k)
def tq_arr (g : tq_G) (R : tq_R) (I : tq_I) (t n a : Nat) : Cell := match t with
  | 0 => arrV (tq_gA g 0) n (fun j => .int (I a j))
  | 1 => arrV (tq_gA g 1) n (fun j => .int (I a j))
  | _ => arrV (tq_gA g 2) n (fun j => va_rf ((R a j).map (tq_ad g)))
def tq_at (g : tq_G) (R : tq_R) (I : tq_I) (J : Int64) (s : tq_S) (a : Nat) (H : Heap) : Prop := match s with
  | .inl c => t_OB (tq_gs g + a) ((tq_gD g).1 c) (tq_nf c) ((tq_gD g).2 c) H (fun k => tq_fv g R I J (tq_ty c k) a k)
  | .inr (t, n) => H[tq_gs g + a]? = some (tq_arr g R I t n a)
def tq_J (g : tq_G) (sh : List tq_S) (R : tq_R) (I : tq_I) (J : Int64) (H : Heap) : Prop := H.size = tq_gs g + sh.length ∧ sh.length ≤ 1000 ∧ (∀ (a : Nat) (s : tq_S), sh[a]? = some s → tq_at g R I J s a H) ∧ ∀ q : Nat, q < tq_gs g → H[q]? = (tq_gH g)[q]?
def tq_tys (g : tq_G) : List (ClassId × FieldType) := [(tq_gA g 0, .int), (tq_gA g 1, .boolean), (tq_gA g 2, .object RX8)]
abbrev tq_gf (g : tq_G) : Nat → Prop := fun q => tq_gs g ≤ q
/-- what holds of the tables at any state of the run -/
def tq_F (g : tq_G) (s : State) : Prop := va_K (tq_gD g) tq_cl (tq_tys g) s ∧ (∀ q ∈ tq_fn, va_Nw (tq_fnw q) s) ∧ (∀ q ∈ tq_mn, va_Nw (tq_mnw q) s) ∧ va_AO RX8 s ∧ (∀ i, 1 ≤ i → i ≤ 3 → va_Z "TerrainTiler$Land" (tq_sn i) "[I" (.ref (tq_go g i)) (tq_gf g) s (tq_gH g)) ∧ ∀ i, i ≤ 3 → va_T .int (tq_go g i) (tq_oL g i) (fun j => .int (tq_oX g i j)) (tq_gf g) s (tq_gH g)
theorem tq_F.moved {g : tq_G} {s U : State} (hW : s.WarmedH U.vm) (h : tq_F g s) : tq_F g U :=
  ⟨va_K.moved hW.alike h.1, fun q hq => va_Nw.warmF hW (h.2.1 q hq), fun q hq => va_Nw.warmM hW (h.2.2.1 q hq), va_AO.moved hW.alike h.2.2.2.1, fun i h1 h2 => va_Z.moved hW.alike (h.2.2.2.2.1 i h1 h2), fun i h1 => va_T.moved hW.alike (h.2.2.2.2.2 i h1)⟩
theorem tq_F.same {g : tq_G} {s U : State} (hv : s.vm = U.vm) (h : tq_F g s) : tq_F g U := by
  have ha : s.vm.Alike U.vm := by rw [hv]; exact Vm.Alike.refl _
  exact ⟨va_K.moved ha h.1, fun q hq => va_Nw.same rfl hv (h.2.1 q hq), fun q hq => va_Nw.same rfl hv (h.2.2.1 q hq), va_AO.moved ha h.2.2.2.1, fun i h1 h2 => va_Z.moved ha (h.2.2.2.2.1 i h1 h2), fun i h1 => va_T.moved ha (h.2.2.2.2.2 i h1)⟩
def tq_L (g : tq_G) (ls : Array Slot) (nL : Nat) (lv : List (Option Value)) : Prop := ls.size = nL ∧ lv_wf ls ∧ ∀ (i : Nat) (v : Value), lv[i]? = some (some v) → ls[i]? = some (.val (tq_v g v))
/-- program, environment, state at the entry, method, arguments, frames below, method, code, room, what is to be reached -/
abbrev tq_X : Type := Program × Env × State × MethodId × Array Value × List Frame × Method × Code × Room × (State → Prop)
abbrev tq_xs (x : tq_X) : State := x.2.2.1
abbrev tq_xm (x : tq_X) : MethodId := x.2.2.2.1
abbrev tq_xa (x : tq_X) : Array Value := x.2.2.2.2.1
abbrev tq_xb (x : tq_X) : List Frame := x.2.2.2.2.2.1
abbrev tq_xt (x : tq_X) : Method := x.2.2.2.2.2.2.1
abbrev tq_xc (x : tq_X) : Code := x.2.2.2.2.2.2.2.1
abbrev tq_xR (x : tq_X) : Room := x.2.2.2.2.2.2.2.2.1
abbrev tq_xZ (x : tq_X) : State → Prop := x.2.2.2.2.2.2.2.2.2
def tq_C (g : tq_G) (μ : tq_M) (x : tq_X) : Prop := x.1.tables.exec = Jvm.exec ∧ (tq_xc x).code = μ.2.1 ∧ (tq_xc x).maxLocals = μ.2.2.1 ∧ (tq_xt x).sig.returnType = μ.2.2.2 ∧ (tq_xt x).locks = false ∧ (tq_xt x).name = μ.1.name ∧ (tq_xs x).vm.findClass μ.1.cls = some (tq_xm x).cls ∧ (∀ w ∈ tq_ws, w.before (tq_xa x) (tq_xs x) = true) ∧ tq_F g (tq_xs x)
/-- THE JUDGEMENT: from this place, with these locals, this stack, this heap, the machine comes to what is to be reached -/
def EV (g : tq_G) (μ : tq_M) (x : tq_X) (k n pc : Nat) (lv : List (Option Value)) (st : List Value) (sh : List tq_S) (R : tq_R) (I : tq_I) (J : Int64) : Prop :=
  ∀ (H : Heap) (locs : List Loc) (ls : Array Slot), tq_J g sh R I J H → (∀ q ∈ locs, tq_gs g ≤ q.base) → tq_L g ls μ.2.2.1 lv →
    W x.1 (tq_gl g) x.2.1 (tq_xR x) (tq_xs x) (tq_xm x) (tq_xa x) (tq_xb x) (tq_xt x) (tq_xc x) H locs k n (tq_xZ x) (F0 (tq_xm x) pc ls (st.map (tq_v g)))
abbrev tq_Q : Type := Option Value → List tq_S → tq_R → tq_I → Int64 → Prop
def tq_Qc (g : tq_G) (Q : tq_Q) : Array Value → State → Outcome → State → Prop := fun _ _ o t => ∃ (r : Option Value) (sh : List tq_S) (R : tq_R) (I : tq_I) (J : Int64), o = .returned (r.map (tq_v g)) ∧ Q r sh R I J ∧ tq_F g t ∧ tq_J g sh R I J t.heap
def tq_rm (d mc ms : Nat) : Room := { frames := d, cells := mc, slots := ms, locals := 40 * d }
def tq_Pc (g : tq_G) (av : List Value) (sh : List tq_S) (R : tq_R) (I : tq_I) (J : Int64) : Array Value → State → Prop := va_Pc (av.map (tq_v g)) (fun U => tq_F g U ∧ tq_J g sh R I J U.heap)
/-- A METHOD'S CONTRACT -/
def CT (g : tq_G) (μ : tq_M) (d mc ms : Nat) (av : List Value) (sh : List tq_S) (R : tq_R) (I : tq_I) (J : Int64) (Q : tq_Q) : Prop :=
  Met (tq_gl g) μ.1 (.code μ.1 μ.2.1 μ.2.2.1 μ.2.2.2 :: tq_ws) (tq_rm d mc ms) (tq_Pc g av sh R I J) (tq_Qc g Q) mc ms (tq_gf g)
/-- the locals at a method's entry -/
def tq_en : List Value → List (Option Value)
  | [] => []
  | v :: t => if v.category = 2 then some v :: none :: tq_en t else some v :: tq_en t
theorem tq_en_args (g : tq_G) : ∀ (av : List Value) (b i : Nat) (v : Value), (tq_en av)[i]? = some (some v) → (b + i, tq_v g v) ∈ lv_args b (av.map (tq_v g)) := by
  intro av
  induction av with
  | nil => intro b i v h; simp [tq_en] at h
  | cons w t ih =>
    intro b i v h
    rw [List.map_cons]
    unfold lv_args
    rw [tq_v_cat]
    unfold tq_en at h
    by_cases hc : w.category = 2
    · rw [if_pos hc] at h ⊢
      match i, h with
      | 0, h => simp at h; subst h; exact List.mem_cons_self
      | 1, h => simp at h
      | i + 2, h =>
        have := ih (b + 2) i v (by simpa using h)
        rw [show b + (i + 2) = b + 2 + i by omega]
        exact List.mem_cons_of_mem _ this
    · rw [if_neg hc] at h ⊢
      match i, h with
      | 0, h => simp at h; subst h; exact List.mem_cons_self
      | i + 1, h =>
        have := ih (b + 1) i v (by simpa using h)
        rw [show b + (i + 1) = b + 1 + i by omega]
        exact List.mem_cons_of_mem _ this
theorem tq_entry (g : tq_G) (av : List Value) {n : Nat} (h : (lg_sl (av.map (tq_v g))).length ≤ n) : tq_L g ((lg_sl (av.map (tq_v g)) ++ List.replicate (n - (lg_sl (av.map (tq_v g))).length) Slot.unset).toArray) n (tq_en av) := by
  obtain ⟨h1, h2, h3⟩ := lv_entry (av.map (tq_v g)) h
  refine ⟨h1, h2, fun i v hv => ?_⟩
  have := tq_en_args g av 0 i v hv
  rw [Nat.zero_add] at this
  exact h3 _ this
theorem tq_sl_len (g : tq_G) (av : List Value) : (lg_sl (av.map (tq_v g))).length = (tq_en av).length := by
  induction av with
  | nil => rfl
  | cons w t ih =>
    have e : lg_sl ((w :: t).map (tq_v g)) = (if (tq_v g w).category = 2 then [.val (tq_v g w), .second] else [.val (tq_v g w)]) ++ lg_sl (t.map (tq_v g)) := by simp [lg_sl]
    rw [e, List.length_append, ih, tq_v_cat, show tq_en (w :: t) = (if w.category = 2 then some w :: none :: tq_en t else some w :: tq_en t) from rfl]
    by_cases hc : w.category = 2
    · rw [if_pos hc, if_pos hc]; simp; omega
    · rw [if_neg hc, if_neg hc]; simp; omega
set_option maxHeartbeats 1000000 in
theorem CT.of {g : tq_G} {μ : tq_M} {d mc ms N : Nat} {av : List Value} {sh : List tq_S} {R : tq_R} {I : tq_I} {J : Int64} {Q : tq_Q} (hm : tq_mok μ N) (hl : (tq_en av).length ≤ μ.2.2.1)
    (body : ∀ x : tq_X, tq_C g μ x → tq_xR x = tq_rm d mc ms → (tq_xZ x = MQ (tq_xb x) (tq_Qc g Q) (tq_xa x) (tq_xs x) mc ms (tq_gf g)) → EV g μ x 0 0 0 (tq_en av) [] sh R I J) : CT g μ d mc ms av sh R I J Q := by
  refine Met.ofW (cc := μ.2.1) (maxL := μ.2.2.1) (ret := μ.2.2.2) hm.2.2.1 rfl ?_
  intro p e s m args below meth c s₁ B hml hv
  obtain ⟨rfl, hF, hJ⟩ := hv
  have hts := atoms_spec (ws := .code μ.1 μ.2.1 μ.2.2.1 μ.2.2.2 :: tq_ws) B.pre
  have hC : tq_C g μ (p, e, s, m, (av.map (tq_v g)).toArray, below, meth, c, tq_rm d mc ms, MQ below (tq_Qc g Q) (av.map (tq_v g)).toArray s mc ms (tq_gf g)) :=
    ⟨B.exec, B.bytes, hml, B.returns, B.notSynchronized, (name_of_methodNamed B.named B.method).1, findClass_of_methodNamed B.named, fun w hw => hts w (List.mem_cons_of_mem _ hw), hF⟩
  have := body _ hC rfl rfl s.heap [] _ hJ (fun q h => by cases h) (tq_entry g av (n := μ.2.2.1) (by rw [tq_sl_len]; exact hl))
  rw [lg_entry_eq]
  exact this
end
section
/-! THE RULES of the judgement, an instruction each; then blocks of plain instructions at once -/
def tq_rem (x y : Int32) : Int32 := x - x / y * y
def tq_ush (x y : Int32) : Int32 := (x.toUInt32 >>> (y.toUInt32 &&& Int32.toUInt32 31)).toInt32
/-- an int store with one place changed -/
def tq_u (I : tq_I) (a k : Nat) (v : Int32) : tq_I := fun b j => if b = a ∧ j = k then v else I b j
theorem tq_u_same {I : tq_I} {a k : Nat} {v : Int32} : tq_u I a k v a k = v := by simp [tq_u]
theorem tq_u_cell {I : tq_I} {a k b j : Nat} {v : Int32} (h : b ≠ a) : tq_u I a k v b j = I b j := by simp [tq_u, h]
theorem tq_u_slot {I : tq_I} {a k b j : Nat} {v : Int32} (h : j ≠ k) : tq_u I a k v b j = I b j := by simp [tq_u, h]
section TQ1
variable {g : tq_G} {μ : tq_M} {x : tq_X} {k n pc : Nat} {lv : List (Option Value)} {st : List Value} {sh : List tq_S} {R : tq_R} {I : tq_I} {J : Int64}
/-! locals -/
def tq_as (lv : List (Option Value)) : List (Nat × Value) := (List.range lv.length).filterMap (fun i => match lv[i]? with | some (some v) => some (i, v) | _ => none)
theorem tq_as_mem {lv : List (Option Value)} {i : Nat} {v : Value} (h : lv[i]? = some (some v)) : (i, v) ∈ tq_as lv := by
  refine List.mem_filterMap.mpr ⟨i, List.mem_range.mpr ((List.getElem?_eq_some_iff.mp h).1), ?_⟩
  rw [h]
theorem tq_mem_as {lv : List (Option Value)} {q : Nat × Value} (h : q ∈ tq_as lv) : lv[q.1]? = some (some q.2) := by
  obtain ⟨i, -, hi⟩ := List.mem_filterMap.mp h
  split at hi
  · rename_i v hv
    cases hi
    exact hv
  · cases hi
theorem tq_L.has {ls : Array Slot} {nL : Nat} (h : tq_L g ls nL lv) : lv_has ls nL ((tq_as lv).map (fun q => (q.1, tq_v g q.2))) := by
  refine ⟨h.1, h.2.1, fun q hq => ?_⟩
  obtain ⟨r, hr, rfl⟩ := List.mem_map.mp hq
  exact h.2.2 _ _ (tq_mem_as hr)
/-- a long stands below place i -/
def tq_lg (lv : List (Option Value)) (i : Nat) : Bool := match i with
  | 0 => false
  | i + 1 => match lv[i]? with
    | some (some v) => v.category == 2
    | _ => false
theorem tq_L.set1 {ls' : Array Slot} {nL i : Nat} {v : Value} (hz : tq_lg lv i = false) (h : lv_has ls' nL ((i, tq_v g v) :: ((tq_as lv).map (fun q => (q.1, tq_v g q.2))).filter (fun q => !(q.1 == i) && !(q.1 + 1 == i && q.2.category == 2)))) : tq_L g ls' nL (lv.set i (some v)) := by
  refine ⟨h.1, h.2.1, fun j w hj => ?_⟩
  by_cases hji : j = i
  · subst hji
    rw [List.getElem?_set] at hj
    simp only [if_pos] at hj
    split at hj
    · cases hj
      exact h.2.2 _ List.mem_cons_self
    · cases hj
  · rw [List.getElem?_set_ne (Ne.symm hji)] at hj
    refine h.2.2 (j, tq_v g w) (List.mem_cons_of_mem _ (List.mem_filter.mpr ⟨List.mem_map.mpr ⟨(j, w), tq_as_mem hj, rfl⟩, ?_⟩))
    simp only [Bool.and_eq_true, Bool.not_eq_true', beq_eq_false_iff_ne]
    refine ⟨hji, ?_⟩
    rw [tq_v_cat]
    by_cases hi : j + 1 = i
    · subst hi
      simp only [tq_lg, hj] at hz
      simp [hz]
    · simp [hi]
theorem tq_L.set2 {ls' : Array Slot} {nL i : Nat} {v : Value} (hz : tq_lg lv i = false) (h : lv_has ls' nL ((i, tq_v g v) :: ((tq_as lv).map (fun q => (q.1, tq_v g q.2))).filter (fun q => !(q.1 == i) && (!(q.1 == i + 1) && !(q.1 + 1 == i && q.2.category == 2))))) : tq_L g ls' nL ((lv.set (i + 1) none).set i (some v)) := by
  refine ⟨h.1, h.2.1, fun j w hj => ?_⟩
  by_cases hji : j = i
  · subst hji
    rw [List.getElem?_set] at hj
    simp only [if_pos] at hj
    split at hj
    · cases hj
      exact h.2.2 _ List.mem_cons_self
    · cases hj
  · rw [List.getElem?_set_ne (Ne.symm hji)] at hj
    by_cases hj1 : j = i + 1
    · subst hj1
      rw [List.getElem?_set] at hj
      simp only [if_pos] at hj
      split at hj <;> cases hj
    · rw [List.getElem?_set_ne (Ne.symm hj1)] at hj
      refine h.2.2 (j, tq_v g w) (List.mem_cons_of_mem _ (List.mem_filter.mpr ⟨List.mem_map.mpr ⟨(j, w), tq_as_mem hj, rfl⟩, ?_⟩))
      simp only [Bool.and_eq_true, Bool.not_eq_true', beq_eq_false_iff_ne]
      refine ⟨hji, hj1, ?_⟩
      rw [tq_v_cat]
      by_cases hi : j + 1 = i
      · subst hi
        simp only [tq_lg, hj] at hz
        simp [hz]
      · simp [hi]
theorem EV_istore_n (C : tq_C g μ x) {f : Fin 4} {v : Int32} (hd : decode μ.2.1 pc = .ok (.istore_n f, 1)) (hn : f.val < μ.2.2.1) (hz : tq_lg lv f.val = false) (kk : EV g μ x k n (pc + 1) (lv.set f.val (some (.int v))) st sh R I J) : EV g μ x k n pc lv (.int v :: st) sh R I J := by
  intro H locs ls hJ hq hl
  exact lv_istore_n C.1 C.2.1 hd rfl hl.has hn rfl (fun ls' h => kk H locs ls' hJ hq (tq_L.set1 (v := .int v) hz h))
theorem EV_istore (C : tq_C g μ x) {i : Nat} {v : Int32} (hd : decode μ.2.1 pc = .ok (.istore i, 2)) (hn : i < μ.2.2.1) (hz : tq_lg lv i = false) (kk : EV g μ x k n (pc + 2) (lv.set i (some (.int v))) st sh R I J) : EV g μ x k n pc lv (.int v :: st) sh R I J := by
  intro H locs ls hJ hq hl
  exact lv_istore C.1 C.2.1 hd hl.has hn rfl (fun ls' h => kk H locs ls' hJ hq (tq_L.set1 (v := .int v) hz h))
theorem EV_lstore_n (C : tq_C g μ x) {f : Fin 4} {v : Int64} (hd : decode μ.2.1 pc = .ok (.lstore_n f, 1)) (hn : f.val + 1 < μ.2.2.1) (hz : tq_lg lv f.val = false) (kk : EV g μ x k n (pc + 1) ((lv.set (f.val + 1) none).set f.val (some (.long v))) st sh R I J) : EV g μ x k n pc lv (.long v :: st) sh R I J := by
  intro H locs ls hJ hq hl
  exact lv_lstore_n C.1 C.2.1 hd rfl hl.has hn rfl (fun ls' h => kk H locs ls' hJ hq (tq_L.set2 (v := .long v) hz h))
theorem EV_lstore (C : tq_C g μ x) {i : Nat} {v : Int64} (hd : decode μ.2.1 pc = .ok (.lstore i, 2)) (hn : i + 1 < μ.2.2.1) (hz : tq_lg lv i = false) (kk : EV g μ x k n (pc + 2) ((lv.set (i + 1) none).set i (some (.long v))) st sh R I J) : EV g μ x k n pc lv (.long v :: st) sh R I J := by
  intro H locs ls hJ hq hl
  exact lv_lstore C.1 C.2.1 hd hl.has hn rfl (fun ls' h => kk H locs ls' hJ hq (tq_L.set2 (v := .long v) hz h))
theorem EV_astore_n (C : tq_C g μ x) {f : Fin 4} {a : Nat} (hd : decode μ.2.1 pc = .ok (.astore_n f, 1)) (hn : f.val < μ.2.2.1) (hz : tq_lg lv f.val = false) (kk : EV g μ x k n (pc + 1) (lv.set f.val (some (.ref a))) st sh R I J) : EV g μ x k n pc lv (.ref a :: st) sh R I J := by
  intro H locs ls hJ hq hl
  exact lv_astore_n C.1 C.2.1 hd rfl hl.has hn rfl (fun ls' h => kk H locs ls' hJ hq (tq_L.set1 (v := .ref a) hz h))
theorem EV_iinc (C : tq_C g μ x) {i : Nat} {m : Int} {v w : Int32} (hd : decode μ.2.1 pc = .ok (.iinc i m, 3)) (hv : lv[i]? = some (some (.int v))) (hw : Int32.ofInt m = w) (hn : i < μ.2.2.1) (hz : tq_lg lv i = false) (kk : EV g μ x k n (pc + 3) (lv.set i (some (.int (v + w)))) st sh R I J) : EV g μ x k n pc lv st sh R I J := by
  intro H locs ls hJ hq hl
  have hm : (i, Value.int v) ∈ (tq_as lv).map (fun q => (q.1, tq_v g q.2)) := List.mem_map.mpr ⟨(i, .int v), tq_as_mem hv, rfl⟩
  obtain ⟨j, hj⟩ := List.getElem?_of_mem hm
  exact lv_iinc C.1 C.2.1 hd hl.has hj (by rw [hw]) hn rfl (fun ls' h => kk H locs ls' hJ hq (tq_L.set1 (v := .int (v + w)) hz h))
/-! field reads -/
theorem tq_flin {q : Nat × Nat × Nat × Nat × Nat} (h : q ∈ tq_fl) : tq_fw q ∈ tq_ws ∧ q.2.2.2.1 < tq_nf q.2.2.1 ∧ q.2.2.1 < 13 := by
  have := List.all_eq_true.mp tq_fl_ok q h
  simp only [Bool.and_eq_true, decide_eq_true_eq] at this
  exact ⟨tq_inW _ this.1 rfl, this.2⟩
theorem tq_fnin {q : Nat × Nat × Nat × Nat × Nat} (h : q ∈ tq_fn) : q.2.2.2.1 < tq_nf q.2.2.1 ∧ q.2.2.1 < 13 := by
  have := List.all_eq_true.mp tq_fn_ok q h
  simp only [Bool.and_eq_true, decide_eq_true_eq] at this
  exact this.2
theorem tq_cl_lt {c : Nat} (h : c < 13) : ∃ q, tq_cl[c]? = some q ∧ q.2.2 = tq_nf c ∧ ∀ k, tq_T c k = q.2.1 k := by
  obtain ⟨q, hq⟩ : ∃ q, tq_cl[c]? = some q := ⟨tq_cl[c]'(by simpa [tq_cl] using h), by simp [h]⟩
  exact ⟨q, hq, tq_nf_ok hq, fun k => by simp only [tq_T, hq]⟩
theorem EV_get (C : tq_C g μ x) {own idx c j pl a : Nat} (hown : tq_cn own = μ.1.cls) (hf : (own, idx, c, j, pl) ∈ tq_fl ∨ (own, idx, c, j, pl) ∈ tq_fn) (hd : decode μ.2.1 pc = .ok (.getfield idx, 3)) (hs : sh[a]? = some (.inl c)) (kk : EV g μ x k n (pc + 3) lv (tq_av R I J (tq_ty c j) a j :: st) sh R I J) : EV g μ x k n pc lv (.ref a :: st) sh R I J := by
  intro H locs ls hJ hq hl
  have ha : a < 1000 := Nat.lt_of_lt_of_le ((List.getElem?_eq_some_iff.mp hs).1) hJ.2.1
  have hO : t_OB (tq_gs g + a) ((tq_gD g).1 c) (tq_nf c) ((tq_gD g).2 c) H (fun k => tq_fv g R I J (tq_ty c k) a k) := hJ.2.2.1 a _ hs
  have hc : j < tq_nf c ∧ c < 13 := by
    rcases hf with hf | hf
    · exact (tq_flin hf).2
    · exact tq_fnin hf
  obtain ⟨q, hcl, hN, hT⟩ := tq_cl_lt hc.2
  obtain ⟨cell, q1, q2, q3, q4⟩ := hO
  obtain ⟨hS, hfc, kC, hkC, hkind⟩ := C.2.2.2.2.2.2.2.2.1.1 c q hcl
  have hjN : j < q.2.2 := by rw [hN]; exact hc.1
  obtain ⟨cf, kf, fi, f, hi, hsl⟩ := hS j hjN
  have hst := (u_facts hfc hkC (u_lays C.2.2.2.2.2.2.2.1 (tq_lay hcl) hjN) hi).1
  have hg : cell.slots[f.slot]? = some (tq_v g (tq_av R I J (tq_ty c j) a j)) := by rw [hsl, q4 j hc.1]; rfl
  have hdd : (st.map (tq_v g)) = (st.map (tq_v g)) := rfl
  rcases hf with hf | hf
  · have hw := C.2.2.2.2.2.2.2.1 _ (tq_flin hf).1
    simp only [tq_fw, hT, hown] at hw
    exact W.getf C.1 C.2.1 C.2.2.2.2.2.2.1 hw hi hst (a := tq_ad g a) (by rw [tq_ad_lt ha]; exact q1) (by rw [q3]; exact fun h => by cases h) hg rfl rfl hd (kk H locs ls hJ hq hl)
  · have hw := va_Nw.use (A := tq_xa x) rfl (C.2.2.2.2.2.2.2.2.2.1 _ hf)
    simp only [tq_fnw, hT, hown] at hw
    exact va_Wgetf C.1 C.2.1 C.2.2.2.2.2.2.1 hw hi hst (a := tq_ad g a) (by rw [tq_ad_lt ha]; exact q1) (by rw [q3]; exact fun h => by cases h) hg rfl rfl hd (kk H locs ls hJ hq hl)
end TQ1
end
section
/-! stores: fields, arrays; array reads -/
section TQ2
variable {g : tq_G} {μ : tq_M} {x : tq_X} {k n pc : Nat} {lv : List (Option Value)} {st : List Value} {sh : List tq_S} {R : tq_R} {I : tq_I} {J : Int64}
theorem tq_at.kept {s : tq_S} {a : Nat} {H H1 : Heap} (h : tq_at g R I J s a H) (hq : H1[tq_gs g + a]? = H[tq_gs g + a]?) : tq_at g R I J s a H1 := by
  match s, h with
  | .inl c, h => exact t_OB.kept h hq
  | .inr (t, m), h => exact hq.trans h
/-- one cell changed -/
theorem tq_J.set {R' : tq_R} {I' : tq_I} {J' : Int64} {a : Nat} {s : tq_S} {H H1 : Heap} (hJ : tq_J g sh R I J H) (hs : sh[a]? = some s) (hz : H1.size = H.size) (ho : ∀ q, q ≠ tq_gs g + a → H1[q]? = H[q]?) (hn : tq_at g R' I' J' s a H1)
    (hk : ∀ (b : Nat) (u : tq_S), b ≠ a → sh[b]? = some u → tq_at g R I J u b H → tq_at g R' I' J' u b H) : tq_J g sh R' I' J' H1 := by
  refine ⟨by rw [hz]; exact hJ.1, hJ.2.1, fun b u hu => ?_, fun q hq => ?_⟩
  · by_cases hb : b = a
    · subst hb
      cases hs.symm.trans hu
      exact hn
    · exact tq_at.kept (hk b u hb hu (hJ.2.2.1 b u hu)) (ho _ (by omega))
  · rw [ho q (by omega)]
    exact hJ.2.2.2 q hq
theorem tq_at.cong {R' : tq_R} {I' : tq_I} {J' : Int64} {u : tq_S} {b : Nat} {H : Heap} (hI : ∀ j, I' b j = I b j) (hR : ∀ j, R' b j = R b j) (hl : ∀ c, u = .inl c → ∀ j, tq_ty c j = .long → J' = J) (h : tq_at g R I J u b H) : tq_at g R' I' J' u b H := by
  match u, h with
  | .inl c, h =>
    refine t_OB.to h (fun j _ => ?_)
    have := hl c rfl j
    unfold tq_fv tq_av
    cases hty : tq_ty c j <;> simp_all
  | .inr (t, m), h =>
    have e : tq_arr g R' I' t m b = tq_arr g R I t m b := by
      unfold tq_arr
      simp only [hI, hR]
    show H[_]? = some _
    rw [e]
    exact h
theorem tq_locs {locs : List Loc} {a j : Nat} (hq : ∀ q ∈ locs, tq_gs g ≤ q.base) : ∀ q ∈ locs ++ [(⟨tq_gs g + a, j⟩ : Loc)], tq_gs g ≤ q.base := by
  intro q h
  rcases List.mem_append.mp h with h | h
  · exact hq q h
  · rw [List.mem_singleton.mp h]
    exact Nat.le_add_right _ _
/-- a field's store: the rows common to all kinds -/
theorem EV_put0 (C : tq_C g μ x) {own idx c j pl a : Nat} {v : Value} {R' : tq_R} {I' : tq_I} {J' : Int64} (hown : tq_cn own = μ.1.cls) (hf : (own, idx, c, j, pl) ∈ tq_fl ∨ ((own, idx, c, j, pl) ∈ tq_fn ∧ (tq_T c j).2.2.2 = false)) (hd : decode μ.2.1 pc = .ok (.putfield idx, 3)) (hs : sh[a]? = some (.inl c))
    (hfin : (tq_T c j).2.2.2 = false ∨ (μ.1.name = "<init>" ∧ (tq_T c j).1 = μ.1.cls)) (hnar : narrow (tq_ty c j) (tq_v g v) = tq_v g v) (hfit : fits (tq_ty c j) (tq_v g v) = true)
    (hv : tq_av R' I' J' (tq_ty c j) a j = v) (hoth : ∀ i, i ≠ j → tq_av R' I' J' (tq_ty c i) a i = tq_av R I J (tq_ty c i) a i)
    (hk : ∀ (b : Nat) (u : tq_S) (H : Heap), b ≠ a → sh[b]? = some u → tq_at g R I J u b H → tq_at g R' I' J' u b H)
    (kk : EV g μ x k n (pc + 3) lv st sh R' I' J') : EV g μ x k n pc lv (v :: .ref a :: st) sh R I J := by
  intro H locs ls hJ hq hl
  have ha : a < 1000 := Nat.lt_of_lt_of_le ((List.getElem?_eq_some_iff.mp hs).1) hJ.2.1
  have hO : t_OB (tq_gs g + a) ((tq_gD g).1 c) (tq_nf c) ((tq_gD g).2 c) H (fun k => tq_fv g R I J (tq_ty c k) a k) := hJ.2.2.1 a _ hs
  have hc : j < tq_nf c ∧ c < 13 := by
    rcases hf with hf | hf
    · exact (tq_flin hf).2
    · exact tq_fnin hf.1
  obtain ⟨q, hcl, hN, hT⟩ := tq_cl_lt hc.2
  obtain ⟨cell, q1, q2, q3, q4⟩ := hO
  have hK := C.2.2.2.2.2.2.2.2.1
  have hts := C.2.2.2.2.2.2.2.1
  have hap := va_apart (own := μ.1.cls) hts (tq_lay hcl) (tq_ty c) (tq_tys_ok hcl) (tq_nms hcl) hK (show tq_cl[c]? = some (q.1, q.2.1, q.2.2) from hcl)
  obtain ⟨hS, hfc, kC, hkC, hkind⟩ := hK.1 c q hcl
  have hjN : j < q.2.2 := by rw [hN]; exact hc.1
  obtain ⟨cf, kf, fi, f, hi, hsl⟩ := hS j hjN
  have hst := (u_facts hfc hkC (u_lays hts (tq_lay hcl) hjN) hi).1
  have hlay := hts _ (tq_lay hcl _ (u_in_lay hjN))
  unfold u_lay at hlay
  have hty := tq_tys_ok hcl j hjN
  have fin : ∀ H' : Heap, H'[tq_gs g + a]? = some (cell.setSlot f.slot (tq_v g v)) → H'.size = H.size → (∀ q, q ≠ tq_gs g + a → H'[q]? = H[q]?) → tq_J g sh R' I' J' H' := by
    intro H' e1 e2 e3
    refine tq_J.set hJ hs e2 e3 ?_ (fun b u hb hu h => hk b u H hb hu h)
    rw [hsl] at e1
    have h2 := t_set (V := fun k => tq_fv g R I J (tq_ty c k) a k) (N := tq_nf c) q4 (by rw [← hN]; exact hap) hc.1 (tq_v g v)
    refine t_OB.to (V := updV (fun k => tq_fv g R I J (tq_ty c k) a k) j (tq_v g v)) ⟨_, e1, q2, q3, h2⟩ (fun i _ => ?_)
    by_cases hij : i = j
    · subst hij
      simp only [updV, if_pos, tq_fv, hv]
    · simp only [updV, if_neg hij, tq_fv, hoth i hij]
  by_cases hff : (q.2.1 j).2.2.2 = true
  · rw [if_pos hff] at hlay
    have hT' := hT j
    rcases hfin with h0 | ⟨h1, h2⟩
    · rw [hT', hff] at h0; cases h0
    rcases hf with hf | hf
    · have hcf : (tq_xm x).cls = cf := by
        obtain ⟨_, _, c', _, _, _, -, -, hf', -, -, -, hown2, -⟩ := Cond.laysFinal_spec hlay
        have e1 : c' = cf := by have := hi.symm.trans hf'; simp at this; exact this.1.symm
        rw [← hT', h2] at hown2
        rw [← e1]; exact Option.some.inj (C.2.2.2.2.2.2.1.symm.trans hown2)
      have h6 := u_fits hfc hkC hkind (Or.inr hlay) hi hty hnar hfit
      have hw := hts _ (tq_flin hf).1
      simp only [tq_fw, hT, hown] at hw
      refine W.putFinK C.1 C.2.1 C.2.2.2.2.2.2.1 hw hi hst hcf (C.2.2.2.2.2.1.trans h1) (a := tq_gs g + a) (v := tq_v g v) (by rw [q2]; exact h6) q1 q3 (by rw [hsl]; exact k2_hasslot (q4 j hc.1)) rfl (rest := st.map (tq_v g)) (by show (tq_v g v :: .ref (tq_ad g a) :: _) = _; rw [tq_ad_lt ha]) hd fun H' e1 e2 e3 => ?_
      exact kk H' _ ls (fin H' e1 e2 e3) (tq_locs hq) hl
    · rw [hT', hff] at hf; cases hf.2
  · rw [if_neg hff] at hlay
    have h6 := u_store hfc hkC hkind hlay hi hty hnar hfit
    rcases hf with hf | hf
    · have hw := hts _ (tq_flin hf).1
      simp only [tq_fw, hT, hown] at hw
      refine W.putK C.1 C.2.1 (f := f) ⟨C.2.2.2.2.2.2.1, hw, ⟨_, _, _, hi⟩, hst⟩ (a := tq_gs g + a) (v := tq_v g v) (by rw [q2]; exact h6) q1 q3 (by rw [hsl]; exact k2_hasslot (q4 j hc.1)) rfl (rest := st.map (tq_v g)) (by show (tq_v g v :: .ref (tq_ad g a) :: _) = _; rw [tq_ad_lt ha]) hd fun H' e1 e2 e3 => ?_
      exact kk H' _ ls (fin H' e1 e2 e3) (tq_locs hq) hl
    · have hw := va_Nw.use (A := tq_xa x) rfl (C.2.2.2.2.2.2.2.2.2.1 _ hf.1)
      simp only [tq_fnw, hT, hown] at hw
      refine va_WputK C.1 C.2.1 (f := f) C.2.2.2.2.2.2.1 hw hi hst (a := tq_gs g + a) (v := tq_v g v) (by rw [q2]; exact h6) q1 q3 (by rw [hsl]; exact k2_hasslot (q4 j hc.1)) rfl (rest := st.map (tq_v g)) (by show (tq_v g v :: .ref (tq_ad g a) :: _) = _; rw [tq_ad_lt ha]) hd fun H' e1 e2 e3 => ?_
      exact kk H' _ ls (fin H' e1 e2 e3) (tq_locs hq) hl
theorem tq_nar_bool {v : Int32} (h : v = 0 ∨ v = 1) : narrow .boolean (.int v) = .int v ∧ fits .boolean (.int v) = true := by
  rcases h with rfl | rfl <;> exact ⟨by decide, by decide⟩
/-- an int or boolean field -/
theorem EV_puti (C : tq_C g μ x) {own idx c j pl a : Nat} {v : Int32} (hown : tq_cn own = μ.1.cls) (hf : (own, idx, c, j, pl) ∈ tq_fl ∨ ((own, idx, c, j, pl) ∈ tq_fn ∧ (tq_T c j).2.2.2 = false)) (hd : decode μ.2.1 pc = .ok (.putfield idx, 3)) (hs : sh[a]? = some (.inl c))
    (hfin : (tq_T c j).2.2.2 = false) (hty : tq_ty c j = .int ∨ (tq_ty c j = .boolean ∧ (v = 0 ∨ v = 1)))
    (kk : EV g μ x k n (pc + 3) lv st sh R (tq_u I a j v) J) : EV g μ x k n pc lv (.int v :: .ref a :: st) sh R I J := by
  refine EV_put0 C hown hf hd hs (Or.inl hfin) (v := .int v) (R' := R) (I' := tq_u I a j v) (J' := J) ?_ ?_ ?_ ?_ ?_ kk
  · rcases hty with h | ⟨h, h2⟩
    · rw [h]; exact vp_nar_int v
    · rw [h]; exact (tq_nar_bool h2).1
  · rcases hty with h | ⟨h, h2⟩
    · rw [h]; rfl
    · rw [h]; exact (tq_nar_bool h2).2
  · rcases hty with h | ⟨h, h2⟩ <;> rw [h] <;> simp [tq_av, tq_u]
  · intro i hi
    unfold tq_av
    simp only [tq_u_slot hi]
  · intro b u H hb hu h
    exact tq_at.cong (fun j => tq_u_cell hb) (fun _ => rfl) (fun _ _ _ _ => rfl) h
/-- the long field -/
theorem tq_one_long : ∀ c, c < 13 → ∀ j, j < tq_nf c → tq_ty c j = .long → c = 12 := by decide +kernel
/-- a reference field, in a constructor -/
def tq_uR (R : tq_R) (a k : Nat) (v : Option Nat) : tq_R := fun b j => if b = a ∧ j = k then v else R b j
theorem EV_putr (C : tq_C g μ x) {own idx c j pl a b : Nat} (hown : tq_cn own = μ.1.cls) (hf : (own, idx, c, j, pl) ∈ tq_fl) (hd : decode μ.2.1 pc = .ok (.putfield idx, 3)) (hs : sh[a]? = some (.inl c))
    (hfin : (tq_T c j).2.2.2 = false ∨ (μ.1.name = "<init>" ∧ (tq_T c j).1 = μ.1.cls)) (hty : (∃ t, tq_ty c j = .array t) ∨ ∃ t, tq_ty c j = .object t)
    (kk : EV g μ x k n (pc + 3) lv st sh (tq_uR R a j (some b)) I J) : EV g μ x k n pc lv (.ref b :: .ref a :: st) sh R I J := by
  refine EV_put0 C hown (Or.inl hf) hd hs hfin (v := .ref b) (R' := tq_uR R a j (some b)) (I' := I) (J' := J) ?_ ?_ ?_ ?_ ?_ kk
  · rcases hty with ⟨t, h⟩ | ⟨t, h⟩ <;> rw [h] <;> rfl
  · rcases hty with ⟨t, h⟩ | ⟨t, h⟩ <;> rw [h] <;> rfl
  · rcases hty with ⟨t, h⟩ | ⟨t, h⟩ <;> rw [h] <;> simp [tq_av, tq_uR, tq_ov]
  · intro i hi
    unfold tq_av
    simp only [tq_uR, hi, and_false, if_false]
  · intro e u H he hu h
    exact tq_at.cong (fun j => rfl) (fun j => by simp [tq_uR, he]) (fun _ _ _ _ => rfl) h
/-! arrays -/
theorem tq_in {i : Int32} {j m : Nat} (hi : i.toInt = (j : Int)) (hj : j < m) : ¬ (i < 0 ∨ m ≤ i.toNatClampNeg) ∧ i.toNatClampNeg = j := by
  have h1 : i.toNatClampNeg = j := by
    show i.toInt.toNat = j
    omega
  refine ⟨?_, h1⟩
  rintro (h | h)
  · have := Int32.lt_iff_toInt_lt.mp h
    simp at this
    omega
  · omega
theorem EV_iald (C : tq_C g μ x) {a m j : Nat} {i : Int32} (hd : decode μ.2.1 pc = .ok (.iaload, 1)) (hs : sh[a]? = some (.inr (0, m))) (hi : i.toInt = (j : Int)) (hj : j < m) (kk : EV g μ x k n (pc + 1) lv (.int (I a j) :: st) sh R I J) : EV g μ x k n pc lv (.int i :: .ref a :: st) sh R I J := by
  intro H locs ls hJ hq hl
  have ha : a < 1000 := Nat.lt_of_lt_of_le ((List.getElem?_eq_some_iff.mp hs).1) hJ.2.1
  have hc : H[tq_gs g + a]? = some (arrV (tq_gA g 0) m (fun j => .int (I a j))) := hJ.2.2.1 a _ hs
  have hK := C.2.2.2.2.2.2.2.2.1
  obtain ⟨h1, h2⟩ := tq_in hi hj
  refine W.iald (v := .int (I a j)) (a := tq_ad g a) C.1 C.2.1 (by rw [tq_ad_lt ha]; exact hc) ((hK.2 0 (tq_gA g 0, .int) rfl).1 m _) (fun q => by cases q) (by rw [arrV_size]; exact h1) (by rw [h2, arrV_read _ _ hj]) rfl rfl hd (kk H locs ls hJ hq hl)
theorem EV_zald (C : tq_C g μ x) {a m j : Nat} {i : Int32} (hd : decode μ.2.1 pc = .ok (.baload, 1)) (hs : sh[a]? = some (.inr (1, m))) (hi : i.toInt = (j : Int)) (hj : j < m) (kk : EV g μ x k n (pc + 1) lv (.int (I a j) :: st) sh R I J) : EV g μ x k n pc lv (.int i :: .ref a :: st) sh R I J := by
  intro H locs ls hJ hq hl
  have ha : a < 1000 := Nat.lt_of_lt_of_le ((List.getElem?_eq_some_iff.mp hs).1) hJ.2.1
  have hc : H[tq_gs g + a]? = some (arrV (tq_gA g 1) m (fun j => .int (I a j))) := hJ.2.2.1 a _ hs
  have hK := C.2.2.2.2.2.2.2.2.1
  obtain ⟨h1, h2⟩ := tq_in hi hj
  refine W.zald (v := .int (I a j)) (a := tq_ad g a) C.1 C.2.1 (by rw [tq_ad_lt ha]; exact hc) ((hK.2 1 (tq_gA g 1, .boolean) rfl).1 m _) (fun q => by cases q) (by rw [arrV_size]; exact h1) (by rw [h2, arrV_read _ _ hj]) rfl rfl hd (kk H locs ls hJ hq hl)
theorem EV_aald (C : tq_C g μ x) {a m j b : Nat} {i : Int32} (hd : decode μ.2.1 pc = .ok (.aaload, 1)) (hs : sh[a]? = some (.inr (2, m))) (hi : i.toInt = (j : Int)) (hj : j < m) (hb : R a j = some b) (kk : EV g μ x k n (pc + 1) lv (.ref b :: st) sh R I J) : EV g μ x k n pc lv (.int i :: .ref a :: st) sh R I J := by
  intro H locs ls hJ hq hl
  have ha : a < 1000 := Nat.lt_of_lt_of_le ((List.getElem?_eq_some_iff.mp hs).1) hJ.2.1
  have hc : H[tq_gs g + a]? = some (arrV (tq_gA g 2) m (fun j => va_rf ((R a j).map (tq_ad g)))) := hJ.2.2.1 a _ hs
  have hK := C.2.2.2.2.2.2.2.2.1
  obtain ⟨h1, h2⟩ := tq_in hi hj
  refine W.aald (v := .ref (tq_ad g b)) (a := tq_ad g a) (ty := .object RX8) C.1 C.2.1 (by rw [tq_ad_lt ha]; exact hc) ((hK.2 2 (tq_gA g 2, .object RX8) rfl).1 m _) rfl (fun q => by cases q) (by rw [arrV_size]; exact h1) (by rw [h2, arrV_read _ _ hj, hb]; rfl) rfl rfl hd (kk H locs ls hJ hq hl)
theorem tq_arr_set {t m a j : Nat} {v : Int32} {I : tq_I} (ht : t = 0 ∨ t = 1) (hj : j < m) : (arrV (tq_gA g t) m (fun j => .int (I a j))).setSlot j (.int v) = tq_arr g R (tq_u I a j v) t m a := by
  have e : ∀ cA : ClassId, (arrV cA m (fun j => .int (I a j))).setSlot j (.int v) = arrV cA m (fun q => .int (tq_u I a j v a q)) := by
    intro cA
    rw [arrV_store]
    congr 1
    funext q
    by_cases hq : q = j
    · subst hq; simp [updV, tq_u]
    · simp [updV, tq_u, hq]
  rcases ht with rfl | rfl <;> exact e _
theorem EV_iast (C : tq_C g μ x) {a m j : Nat} {i v : Int32} (hd : decode μ.2.1 pc = .ok (.iastore, 1)) (hs : sh[a]? = some (.inr (0, m))) (hi : i.toInt = (j : Int)) (hj : j < m) (kk : EV g μ x k n (pc + 1) lv st sh R (tq_u I a j v) J) : EV g μ x k n pc lv (.int v :: .int i :: .ref a :: st) sh R I J := by
  intro H locs ls hJ hq hl
  have ha : a < 1000 := Nat.lt_of_lt_of_le ((List.getElem?_eq_some_iff.mp hs).1) hJ.2.1
  have hc : H[tq_gs g + a]? = some (arrV (tq_gA g 0) m (fun j => .int (I a j))) := hJ.2.2.1 a _ hs
  have hK := C.2.2.2.2.2.2.2.2.1
  obtain ⟨h1, h2⟩ := tq_in hi hj
  refine W.iast (x := v) (a := tq_gs g + a) C.1 C.2.1 hc ((hK.2 0 (tq_gA g 0, .int) rfl).1 m _) (fun q => by cases q) (by rw [arrV_size]; exact h1) rfl (rest := st.map (tq_v g)) (by show (Value.int v :: .int i :: .ref (tq_ad g a) :: _) = _; rw [tq_ad_lt ha]) hd fun H1 e z oq => ?_
  rw [h2] at e ⊢
  refine kk H1 _ ls (tq_J.set hJ hs z oq ?_ (fun b u hb hu h => tq_at.cong (fun j => tq_u_cell hb) (fun _ => rfl) (fun _ _ _ _ => rfl) h)) (tq_locs hq) hl
  exact e.trans (congrArg some (tq_arr_set (R := R) (Or.inl rfl) hj))
theorem EV_zast (C : tq_C g μ x) {a m j : Nat} {i v : Int32} (hd : decode μ.2.1 pc = .ok (.bastore, 1)) (hs : sh[a]? = some (.inr (1, m))) (hi : i.toInt = (j : Int)) (hj : j < m) (hv : v = 0 ∨ v = 1) (kk : EV g μ x k n (pc + 1) lv st sh R (tq_u I a j v) J) : EV g μ x k n pc lv (.int v :: .int i :: .ref a :: st) sh R I J := by
  intro H locs ls hJ hq hl
  have ha : a < 1000 := Nat.lt_of_lt_of_le ((List.getElem?_eq_some_iff.mp hs).1) hJ.2.1
  have hc : H[tq_gs g + a]? = some (arrV (tq_gA g 1) m (fun j => .int (I a j))) := hJ.2.2.1 a _ hs
  have hK := C.2.2.2.2.2.2.2.2.1
  obtain ⟨h1, h2⟩ := tq_in hi hj
  refine W.zast (x := v) (a := tq_gs g + a) C.1 C.2.1 hc ((hK.2 1 (tq_gA g 1, .boolean) rfl).1 m _) (fun q => by cases q) (by rw [arrV_size]; exact h1) rfl (rest := st.map (tq_v g)) (by show (Value.int v :: .int i :: .ref (tq_ad g a) :: _) = _; rw [tq_ad_lt ha]) hd fun H1 e z oq => ?_
  rw [h2, (tq_nar_bool hv).1] at e
  rw [h2]
  refine kk H1 _ ls (tq_J.set hJ hs z oq ?_ (fun b u hb hu h => tq_at.cong (fun j => tq_u_cell hb) (fun _ => rfl) (fun _ _ _ _ => rfl) h)) (tq_locs hq) hl
  exact e.trans (congrArg some (tq_arr_set (R := R) (Or.inr rfl) hj))
/-- the outer rows: the script and the static ones -/
theorem EV_oald (C : tq_C g μ x) {o j : Nat} {i : Int32} (hd : decode μ.2.1 pc = .ok (.iaload, 1)) (ho : o ≤ 3) (hi : i.toInt = (j : Int)) (hj : j < tq_oL g o) (kk : EV g μ x k n (pc + 1) lv (.int (tq_oX g o j) :: st) sh R I J) : EV g μ x k n pc lv (.int i :: .ref (1000 + o) :: st) sh R I J := by
  intro H locs ls hJ hq hl
  obtain ⟨cell, c1, c2, c3, c4, c5, c6, c7⟩ := C.2.2.2.2.2.2.2.2.2.2.2.2.2 o ho
  have e : tq_ad g (1000 + o) = tq_go g o := by
    unfold tq_ad
    rw [if_neg (by omega), show 1000 + o - 1000 = o by omega]
  have hc : H[tq_go g o]? = some cell := by rw [hJ.2.2.2 _ (Nat.not_le.mp c7)]; exact c1
  obtain ⟨h1, h2⟩ := tq_in (m := cell.slots.size) hi (Nat.lt_of_lt_of_le hj c4)
  exact W.iald (v := .int (tq_oX g o j)) (a := tq_ad g (1000 + o)) C.1 C.2.1 (by rw [e]; exact hc) c2 c3 h1 (by rw [h2]; exact c6 j hj) rfl rfl hd (kk H locs ls hJ hq hl)
theorem EV_olen (C : tq_C g μ x) {o L : Nat} (hd : decode μ.2.1 pc = .ok (.arraylength, 1)) (ho : o ≤ 3) (hL : tq_oL g o = L) (kk : EV g μ x k n (pc + 1) lv (.int (nI L) :: st) sh R I J) : EV g μ x k n pc lv (.ref (1000 + o) :: st) sh R I J := by
  subst hL
  intro H locs ls hJ hq hl
  obtain ⟨cell, c1, c2, c3, c4, c5, c6, c7⟩ := C.2.2.2.2.2.2.2.2.2.2.2.2.2 o ho
  have e : tq_ad g (1000 + o) = tq_go g o := by
    unfold tq_ad
    rw [if_neg (by omega), show 1000 + o - 1000 = o by omega]
  have hc : H[tq_go g o]? = some cell := by rw [hJ.2.2.2 _ (Nat.not_le.mp c7)]; exact c1
  exact W.alen (n := nI (tq_oL g o)) (a := tq_ad g (1000 + o)) C.1 C.2.1 (by rw [e]; exact hc) c2 c5 rfl rfl hd (kk H locs ls hJ hq hl)
theorem EV_gets (C : tq_C g μ x) {own idx o pl : Nat} (hown : tq_cn own = μ.1.cls) (hf : (own, idx, o, pl) ∈ tq_sl) (ho : 1 ≤ o ∧ o ≤ 3) (hd : decode μ.2.1 pc = .ok (.getstatic idx, 3)) (kk : EV g μ x k n (pc + 3) lv (.ref (1000 + o) :: st) sh R I J) : EV g μ x k n pc lv st sh R I J := by
  intro H locs ls hJ hq hl
  obtain ⟨cf, kf, fi, f, a, cell, h1, h2, h3, h4, h5, h6, h7, h8⟩ := C.2.2.2.2.2.2.2.2.2.2.2.2.1 o ho.1 ho.2
  have e : tq_ad g (1000 + o) = tq_go g o := by
    unfold tq_ad
    rw [if_neg (by omega), show 1000 + o - 1000 = o by omega]
  have hw : Cond.before (.fieldLink (tq_cn own) idx "TerrainTiler$Land" (tq_sn o) "[I") (tq_xa x) (tq_xs x) = true := by
    have := List.all_eq_true.mp tq_sl_ok _ hf
    exact C.2.2.2.2.2.2.2.1 _ (tq_inW pl (of_decide_eq_true this) rfl)
  rw [hown] at hw
  have hk := kk H locs ls hJ hq hl
  have ee : (Value.ref (1000 + o) :: st).map (tq_v g) = Value.ref (tq_go g o) :: st.map (tq_v g) := by
    show Value.ref (tq_ad g (1000 + o)) :: _ = _
    rw [e]
  rw [ee] at hk
  exact W.gets C.1 C.2.1 C.2.2.2.2.2.2.1 hw h1 h2 h3 h4 (by rw [hJ.2.2.2 a (Nat.not_le.mp h8)]; exact h5) (fun e => by rw [e] at h6; cases h6) h7 rfl hd hk
end TQ2
end
section
/-! calls, ends, branches, new cells -/
section TQ3
variable {g : tq_G} {μ : tq_M} {x : tq_X} {k n pc : Nat} {lv : List (Option Value)} {st : List Value} {sh : List tq_S} {R : tq_R} {I : tq_I} {J : Int64}
theorem tq_good {w : Cond} (h : w ∈ tq_ws) : (w.onTables && w.keeps) = true ∨ ∃ ty, w = .arrayClass ty := good_of_word (List.mem_filter.mp h).2
theorem tq_goodIn {μ' : tq_M} {N : Nat} (hm : tq_mok μ' N) : GoodIn tq_ws (.code μ'.1 μ'.2.1 μ'.2.2.1 μ'.2.2.2 :: tq_ws) := by
  intro w hw
  rcases List.mem_cons.mp hw with h | h
  · rw [h]; exact ⟨hm.1, tq_good hm.1⟩
  · exact ⟨h, tq_good h⟩
theorem tq_blind {av : List Value} : FrameBlind (tq_Pc g av sh R I J) := fun a U gg mk h => ⟨h.1, tq_F.same rfl h.2.1, h.2.2⟩
theorem tq_pre {av : List Value} {s : State} {H : Heap} (hF : tq_F g s) (hJ : tq_J g sh R I J H) : PreS s H (tq_Pc g av sh R I J) (av.map (tq_v g)) :=
  ⟨tq_blind, fun U hU hW => ⟨rfl, tq_F.moved hW hF, by rw [hU]; exact hJ⟩⟩
theorem tq_room {d d' mc ms L : Nat} {Rm : Room} (hR : Rm.frames = d ∧ 40 * d ≤ Rm.locals) (hd : d' + 1 ≤ d) (hL : L ≤ 21) : (tq_rm d' mc ms).frames + 1 ≤ Rm.frames ∧ 8 + (L + 11) + (tq_rm d' mc ms).locals ≤ Rm.locals := by
  obtain ⟨h1, h2⟩ := hR
  refine ⟨by rw [h1]; exact hd, ?_⟩
  show 8 + (L + 11) + 40 * d' ≤ _
  omega
theorem tq_cats (st : List Value) : ((st.map (tq_v g)).map fun v => v.category).sum = (st.map fun v => v.category).sum := by
  rw [List.map_map]
  congr 1
  exact List.map_congr_left (fun v _ => tq_v_cat g v)
/-- what a room is to a method of height d -/
def tq_ht (x : tq_X) (d mc ms : Nat) : Prop := (tq_xR x).frames = d ∧ 40 * d ≤ (tq_xR x).locals ∧ (tq_xR x).cells = mc ∧ (tq_xR x).slots = ms
theorem tq_ht.of {d mc ms : Nat} (h : tq_xR x = tq_rm d mc ms) : tq_ht x d mc ms := by
  unfold tq_ht
  rw [h]
  exact ⟨rfl, Nat.le_refl _, rfl, rfl⟩
/-- behind a call -/
theorem EV_run {μ' : tq_M} {mc ms : Nat} {Q : tq_Q} {av : Array Value} {rest st0 : List Value}
    (hr : ∀ (H : Heap) (locs : List Loc) (ls : Array Slot), tq_J g sh R I J H → tq_L g ls μ.2.2.1 lv → va_Run x.1 (tq_gl g) x.2.1 (tq_xR x) (tq_xs x) (tq_xm x) (tq_xa x) (tq_xb x) (tq_xt x) (tq_xc x) H locs k n mc ms (F0 (tq_xm x) pc ls (st0.map (tq_v g))) (rest.map (tq_v g)) (tq_Qc g Q av) (tq_gf g))
    (kk : ∀ (r : Option Value) (sh' : List tq_S) (R' : tq_R) (I' : tq_I) (J' : Int64), Q r sh' R' I' J' → EV g μ x (k + mc) (n + ms) (pc + 3) lv (r.toList ++ rest) sh' R' I' J') : EV g μ x k n pc lv st0 sh R I J := by
  intro H locs ls hJ hq hl T hT X
  obtain ⟨v, st₀, t, T', L, h0, X', hL, e1, e2, ⟨r, sh', R', I', J', hv, hQ, hF', hJ'⟩, stp⟩ := hr H locs ls hJ hl T hT X
  have hv' : v = r.map (tq_v g) := by cases hv; rfl
  have hk := kk r sh' R' I' J' hQ T'.heap (locs ++ L) ls (by rw [e1]; exact hJ') (fun q h => by
    rcases List.mem_append.mp h with h | h
    · exact hq q h
    · exact hL q h) hl T' rfl X'
  obtain ⟨t2, a1, b1⟩ := hk
  refine ⟨t2, stp t2 ?_, b1⟩
  have e : v.toList ++ rest.map (tq_v g) = (r.toList ++ rest).map (tq_v g) := by
    rw [hv', List.map_append]
    cases r <;> rfl
  rw [e]
  exact a1
/-- a method link, plain or to a nest mate -/
def tq_lk (own idx : Nat) (y : MethodName) : Prop := (∃ pl, (own, idx, y, pl) ∈ tq_ml) ∨ ∃ pl, (own, idx, y, pl) ∈ tq_mn
theorem tq_mlin {own idx pl : Nat} {y : MethodName} (h : (own, idx, y, pl) ∈ tq_ml) : .methodLink (tq_cn own) idx y ∈ tq_ws := by
  have := List.all_eq_true.mp tq_ml_ok _ h
  exact tq_inW pl (of_decide_eq_true this) rfl
theorem EV_callS (C : tq_C g μ x) {d mc0 ms0 : Nat} (hR : tq_ht x d mc0 ms0) {μ' : tq_M} {own idx N d' mc ms : Nat} {av rest : List Value} {Q : tq_Q} (hown : tq_cn own = μ.1.cls) (hl : tq_lk own idx μ'.1) (hm : tq_mok μ' N) (hs : tq_stat μ') (ct : CT g μ' d' mc ms av sh R I J Q) (hd : decode μ.2.1 pc = .ok (.invokestatic idx, 3)) (hN : av.length = N) (hh : d' + 1 ≤ d) (hw : (rest.map fun v => v.category).sum ≤ 8) (hc : k + mc ≤ mc0 ∧ n + ms ≤ ms0)
    {st0 : List Value} (hst : st0 = av.reverse ++ rest)
    (kk : ∀ (r : Option Value) (sh' : List tq_S) (R' : tq_R) (I' : tq_I) (J' : Int64), Q r sh' R' I' J' → EV g μ x (k + mc) (n + ms) (pc + 3) lv (r.toList ++ rest) sh' R' I' J') : EV g μ x k n pc lv st0 sh R I J := by
  refine EV_run (mc := mc) (ms := ms) (μ' := μ') (Q := Q) (rest := rest) (av := (av.map (tq_v g)).toArray) ?_ kk
  intro H locs ls hJ hls
  have hts := C.2.2.2.2.2.2.2.1
  have hst' : (F0 (tq_xm x) pc ls (st0.map (tq_v g))).stack = (av.map (tq_v g)).reverse ++ rest.map (tq_v g) := by
    show st0.map (tq_v g) = _
    rw [hst, List.map_append, List.map_reverse]
  have hmr : 2 * (F0 (tq_xm x) pc ls (st0.map (tq_v g))).monitorRoom + ((rest.map (tq_v g)).map fun v => v.category).sum ≤ 8 := by rw [tq_cats]; exact (lv_room hw)
  have hc' : k + mc ≤ (tq_xR x).cells ∧ n + ms ≤ (tq_xR x).slots := by rw [hR.2.2.1, hR.2.2.2]; exact hc
  rcases hl with ⟨pl, hl⟩ | ⟨pl, hl⟩
  · have hlw := hts _ (tq_mlin hl)
    rw [hown] at hlw
    exact va_runS (As := av.map (tq_v g)) ⟨C.1, C.2.1, C.2.2.1, C.2.2.2.2.2.2.1, hts⟩ ct ⟨callB_of N hts (tq_goodIn hm) rfl rfl rfl (hts _ hm.2.1) hlw hm.2.2.2.1 (tq_room ⟨hR.1, hR.2.1⟩ hh hm.2.2.2.2), hts _ hs⟩ (tq_pre C.2.2.2.2.2.2.2.2 hJ) rfl (by rw [List.length_map]; exact hN) hls.1 hst' hmr hd hc'
  · have hlw := C.2.2.2.2.2.2.2.2.2.2.1 _ hl
    simp only [tq_mnw, hown] at hlw
    exact va_runSN (As := av.map (tq_v g)) ⟨C.1, C.2.1, C.2.2.1, C.2.2.2.2.2.2.1, hts⟩ ct ⟨va_cnB N hts (tq_goodIn hm) rfl rfl rfl hlw (hts _ hm.2.1) hm.2.2.2.1 (tq_room ⟨hR.1, hR.2.1⟩ hh hm.2.2.2.2), hts _ hs, trivial⟩ (tq_pre C.2.2.2.2.2.2.2.2 hJ) rfl (by rw [List.length_map]; exact hN) hls.1 hst' hmr hd hc'
theorem EV_callV (C : tq_C g μ x) {d mc0 ms0 : Nat} (hR : tq_ht x d mc0 ms0) {μ' : tq_M} {own idx N d' mc ms b cb : Nat} {av rest : List Value} {Q : tq_Q} (hown : tq_cn own = μ.1.cls) (hl : tq_lk own idx μ'.1) (hm : tq_mok μ' N) (hs : tq_inst μ') (ct : CT g μ' d' mc ms (.ref b :: av) sh R I J Q) (hb : sh[b]? = some (.inl cb)) (hcb : (tq_cl[cb]?).map (fun q => q.1) = some μ'.1.cls) (hd : decode μ.2.1 pc = .ok (.invokevirtual idx, 3)) (hN : av.length = N) (hh : d' + 1 ≤ d) (hw : (rest.map fun v => v.category).sum ≤ 8) (hc : k + mc ≤ mc0 ∧ n + ms ≤ ms0)
    {st0 : List Value} (hst : st0 = av.reverse ++ .ref b :: rest)
    (kk : ∀ (r : Option Value) (sh' : List tq_S) (R' : tq_R) (I' : tq_I) (J' : Int64), Q r sh' R' I' J' → EV g μ x (k + mc) (n + ms) (pc + 3) lv (r.toList ++ rest) sh' R' I' J') : EV g μ x k n pc lv st0 sh R I J := by
  refine EV_run (mc := mc) (ms := ms) (μ' := μ') (Q := Q) (rest := rest) (av := (Value.ref (tq_ad g b) :: av.map (tq_v g)).toArray) ?_ kk
  intro H locs ls hJ hls
  have hts := C.2.2.2.2.2.2.2.1
  have ha : b < 1000 := Nat.lt_of_lt_of_le ((List.getElem?_eq_some_iff.mp hb).1) hJ.2.1
  have hO : t_OB (tq_gs g + b) ((tq_gD g).1 cb) (tq_nf cb) ((tq_gD g).2 cb) H (fun k => tq_fv g R I J (tq_ty cb k) b k) := hJ.2.2.1 b _ hb
  obtain ⟨cell, q1, q2, q3, q4⟩ := hO
  have hst' : (F0 (tq_xm x) pc ls (st0.map (tq_v g))).stack = (av.map (tq_v g)).reverse ++ .ref (tq_ad g b) :: rest.map (tq_v g) := by
    show st0.map (tq_v g) = _
    rw [hst, List.map_append, List.map_reverse]
    rfl
  have hmr : 2 * (F0 (tq_xm x) pc ls (st0.map (tq_v g))).monitorRoom + ((rest.map (tq_v g)).map fun v => v.category).sum ≤ 8 := by rw [tq_cats]; exact (lv_room hw)
  have hc' : k + mc ≤ (tq_xR x).cells ∧ n + ms ≤ (tq_xR x).slots := by rw [hR.2.2.1, hR.2.2.2]; exact hc
  obtain ⟨q, hq1, hq2⟩ := Option.map_eq_some_iff.mp hcb
  have hrecv : ∃ cellB : Cell, H[tq_ad g b]? = some cellB ∧ cellB.vm.isStatics = false ∧ (tq_xs x).vm.findClass μ'.1.cls = some cellB.cls :=
    ⟨cell, by rw [tq_ad_lt ha]; exact q1, by rw [q3]; rfl, by rw [q2, ← hq2]; exact (C.2.2.2.2.2.2.2.2.1.1 cb q hq1).2.1⟩
  have hpre : PreV (tq_xs x) H μ'.1.cls (tq_ad g b) (tq_Pc g (.ref b :: av) sh R I J) (av.map (tq_v g)) :=
    ⟨tq_blind, hrecv, (tq_pre (av := .ref b :: av) C.2.2.2.2.2.2.2.2 hJ).2⟩
  rcases hl with ⟨pl, hl⟩ | ⟨pl, hl⟩
  · have hlw := hts _ (tq_mlin hl)
    rw [hown] at hlw
    exact va_runV (As := av.map (tq_v g)) ⟨C.1, C.2.1, C.2.2.1, C.2.2.2.2.2.2.1, hts⟩ ct ⟨callB_of N hts (tq_goodIn hm) rfl rfl rfl (hts _ hm.2.1) hlw hm.2.2.2.1 (tq_room ⟨hR.1, hR.2.1⟩ hh hm.2.2.2.2), hts _ hs.1, hts _ hs.2⟩ hpre rfl (by rw [List.length_map]; exact hN) hls.1 hst' hmr hd hc'
  · have hlw := C.2.2.2.2.2.2.2.2.2.2.1 _ hl
    simp only [tq_mnw, hown] at hlw
    exact va_runVN (As := av.map (tq_v g)) ⟨C.1, C.2.1, C.2.2.1, C.2.2.2.2.2.2.1, hts⟩ ct ⟨va_cnB N hts (tq_goodIn hm) rfl rfl rfl hlw (hts _ hm.2.1) hm.2.2.2.1 (tq_room ⟨hR.1, hR.2.1⟩ hh hm.2.2.2.2), hts _ hs.1, hts _ hs.2⟩ hpre rfl (by rw [List.length_map]; exact hN) hls.1 hst' hmr hd hc'
theorem EV_callI (C : tq_C g μ x) {d mc0 ms0 : Nat} (hR : tq_ht x d mc0 ms0) {μ' : tq_M} {own idx N d' mc ms b : Nat} {av rest : List Value} {Q : tq_Q} (hown : tq_cn own = μ.1.cls) (hl : tq_lk own idx μ'.1) (hm : tq_mok μ' N) (hs : tq_ctor μ') (hvoid : μ'.2.2.2 = none) (ct : CT g μ' d' mc ms (.ref b :: av) sh R I J Q) (hd : decode μ.2.1 pc = .ok (.invokespecial idx, 3)) (hN : av.length = N) (hh : d' + 1 ≤ d) (hw : (rest.map fun v => v.category).sum ≤ 8) (hc : k + mc ≤ mc0 ∧ n + ms ≤ ms0)
    {st0 : List Value} (hst : st0 = av.reverse ++ .ref b :: rest)
    (kk : ∀ (r : Option Value) (sh' : List tq_S) (R' : tq_R) (I' : tq_I) (J' : Int64), Q r sh' R' I' J' → EV g μ x (k + mc) (n + ms) (pc + 3) lv (r.toList ++ rest) sh' R' I' J') : EV g μ x k n pc lv st0 sh R I J := by
  refine EV_run (mc := mc) (ms := ms) (μ' := μ') (Q := Q) (rest := rest) (av := (Value.ref (tq_ad g b) :: av.map (tq_v g)).toArray) ?_ kk
  intro H locs ls hJ hls
  have hts := C.2.2.2.2.2.2.2.1
  have hst' : (F0 (tq_xm x) pc ls (st0.map (tq_v g))).stack = (av.map (tq_v g)).reverse ++ .ref (tq_ad g b) :: rest.map (tq_v g) := by
    show st0.map (tq_v g) = _
    rw [hst, List.map_append, List.map_reverse]
    rfl
  have hmr : 2 * (F0 (tq_xm x) pc ls (st0.map (tq_v g))).monitorRoom + ((rest.map (tq_v g)).map fun v => v.category).sum ≤ 8 := by rw [tq_cats]; exact (lv_room hw)
  have hc' : k + mc ≤ (tq_xR x).cells ∧ n + ms ≤ (tq_xR x).slots := by rw [hR.2.2.1, hR.2.2.2]; exact hc
  have hpre : PreS (tq_xs x) H (tq_Pc g (.ref b :: av) sh R I J) (.ref (tq_ad g b) :: av.map (tq_v g)) := tq_pre (av := .ref b :: av) C.2.2.2.2.2.2.2.2 hJ
  obtain ⟨y', cc', nL', ret'⟩ := μ'
  dsimp only at hvoid
  subst hvoid
  rcases hl with ⟨pl, hl⟩ | ⟨pl, hl⟩
  · have hlw := hts _ (tq_mlin hl)
    rw [hown] at hlw
    exact va_runI (As := av.map (tq_v g)) ⟨C.1, C.2.1, C.2.2.1, C.2.2.2.2.2.2.1, hts⟩ ct ⟨callB_of N hts (tq_goodIn hm) rfl rfl rfl (hts _ hm.2.1) hlw hm.2.2.2.1 (tq_room ⟨hR.1, hR.2.1⟩ hh hm.2.2.2.2), hs.2, hts _ hs.1⟩ hpre rfl (by rw [List.length_map]; exact hN) hls.1 hst' hmr hd hc'
  · have hlw := C.2.2.2.2.2.2.2.2.2.2.1 _ hl
    simp only [tq_mnw, hown] at hlw
    exact va_runIN (As := av.map (tq_v g)) ⟨C.1, C.2.1, C.2.2.1, C.2.2.2.2.2.2.1, hts⟩ ct ⟨va_cnB N hts (tq_goodIn hm) rfl rfl rfl hlw (hts _ hm.2.1) hm.2.2.2.1 (tq_room ⟨hR.1, hR.2.1⟩ hh hm.2.2.2.2), hs.2, hts _ hs.1⟩ hpre rfl (by rw [List.length_map]; exact hN) hls.1 hst' hmr hd hc'
/-! ends -/
def tq_end (g : tq_G) (x : tq_X) (Q : tq_Q) (mc ms : Nat) : Prop := tq_xZ x = MQ (tq_xb x) (tq_Qc g Q) (tq_xa x) (tq_xs x) mc ms (tq_gf g)
theorem EV_iret (C : tq_C g μ x) {Q : tq_Q} {mc ms : Nat} (hZ : tq_end g x Q mc ms) {v : Int32} (hr : μ.2.2.2 = some .int) (hd : decode μ.2.1 pc = .ok (.ireturn, 1)) (h1 : k ≤ mc) (h2 : n ≤ ms) (hQ : Q (some (.int v)) sh R I J) : EV g μ x k n pc lv [.int v] sh R I J := by
  intro H locs ls hJ hq hl
  rw [hZ]
  refine W.widen h1 h2 ?_
  exact W.iret C.1 C.2.1 (C.2.2.2.1.trans hr) (fun t ht hW => ⟨some (.int v), sh, R, I, J, rfl, hQ, tq_F.moved hW C.2.2.2.2.2.2.2.2, by rw [ht]; exact hJ⟩) hq hd C.2.2.2.2.1
theorem EV_zret (C : tq_C g μ x) {Q : tq_Q} {mc ms : Nat} (hZ : tq_end g x Q mc ms) {v : Int32} (hr : μ.2.2.2 = some .boolean) (hv : v = 0 ∨ v = 1) (hd : decode μ.2.1 pc = .ok (.ireturn, 1)) (h1 : k ≤ mc) (h2 : n ≤ ms) (hQ : Q (some (.int v)) sh R I J) : EV g μ x k n pc lv [.int v] sh R I J := by
  intro H locs ls hJ hq hl
  rw [hZ]
  refine W.widen h1 h2 ?_
  exact W.zret C.1 C.2.1 (C.2.2.2.1.trans hr) (tq_nar_bool hv).1 (fun t ht hW => ⟨some (.int v), sh, R, I, J, rfl, hQ, tq_F.moved hW C.2.2.2.2.2.2.2.2, by rw [ht]; exact hJ⟩) hq hd C.2.2.2.2.1
theorem EV_vret (C : tq_C g μ x) {Q : tq_Q} {mc ms : Nat} (hZ : tq_end g x Q mc ms) (hr : μ.2.2.2 = none) (hd : decode μ.2.1 pc = .ok (.return_, 1)) (h1 : k ≤ mc) (h2 : n ≤ ms) (hQ : Q none sh R I J) : EV g μ x k n pc lv [] sh R I J := by
  intro H locs ls hJ hq hl
  rw [hZ]
  refine W.widen h1 h2 ?_
  exact W.vret C.1 C.2.1 (C.2.2.2.1.trans hr) (fun t ht hW => ⟨none, sh, R, I, J, rfl, hQ, tq_F.moved hW C.2.2.2.2.2.2.2.2, by rw [ht]; exact hJ⟩) hq hd C.2.2.2.2.1
theorem EV_lret (C : tq_C g μ x) {Q : tq_Q} {mc ms : Nat} (hZ : tq_end g x Q mc ms) {v : Int64} (hr : μ.2.2.2 = some .long) (hd : decode μ.2.1 pc = .ok (.lreturn, 1)) (h1 : k ≤ mc) (h2 : n ≤ ms) (hQ : Q (some (.long v)) sh R I J) : EV g μ x k n pc lv [.long v] sh R I J := by
  intro H locs ls hJ hq hl
  rw [hZ]
  refine W.widen h1 h2 ?_
  exact W.lret C.1 C.2.1 (C.2.2.2.1.trans hr) (fun t ht hW => ⟨some (.long v), sh, R, I, J, rfl, hQ, tq_F.moved hW C.2.2.2.2.2.2.2.2, by rw [ht]; exact hJ⟩) hq hd C.2.2.2.2.1
/-! branches -/
theorem EV_if_eq (C : tq_C g μ x) {v : Int32} {off : Int} {tgt : Nat} (hd : decode μ.2.1 pc = .ok (.ifCond .eq off, 3)) (ht : (pc : Int) + off = (tgt : Int)) (k1 : v = 0 → EV g μ x k n tgt lv st sh R I J) (k2 : ¬ v = 0 → EV g μ x k n (pc + 3) lv st sh R I J) : EV g μ x k n pc lv (.int v :: st) sh R I J := fun H locs ls hJ hq hl => lv_if_eq C.1 C.2.1 hd ht (fun h => k1 h H locs ls hJ hq hl) (fun h => k2 h H locs ls hJ hq hl)
theorem EV_if_ne (C : tq_C g μ x) {v : Int32} {off : Int} {tgt : Nat} (hd : decode μ.2.1 pc = .ok (.ifCond .ne off, 3)) (ht : (pc : Int) + off = (tgt : Int)) (k1 : ¬ v = 0 → EV g μ x k n tgt lv st sh R I J) (k2 : v = 0 → EV g μ x k n (pc + 3) lv st sh R I J) : EV g μ x k n pc lv (.int v :: st) sh R I J := fun H locs ls hJ hq hl => lv_if_ne C.1 C.2.1 hd ht (fun h => k1 h H locs ls hJ hq hl) (fun h => k2 h H locs ls hJ hq hl)
theorem EV_if_lt (C : tq_C g μ x) {v : Int32} {off : Int} {tgt : Nat} (hd : decode μ.2.1 pc = .ok (.ifCond .lt off, 3)) (ht : (pc : Int) + off = (tgt : Int)) (k1 : v < 0 → EV g μ x k n tgt lv st sh R I J) (k2 : ¬ v < 0 → EV g μ x k n (pc + 3) lv st sh R I J) : EV g μ x k n pc lv (.int v :: st) sh R I J := fun H locs ls hJ hq hl => lv_if_lt C.1 C.2.1 hd ht (fun h => k1 h H locs ls hJ hq hl) (fun h => k2 h H locs ls hJ hq hl)
theorem EV_if_ge (C : tq_C g μ x) {v : Int32} {off : Int} {tgt : Nat} (hd : decode μ.2.1 pc = .ok (.ifCond .ge off, 3)) (ht : (pc : Int) + off = (tgt : Int)) (k1 : 0 ≤ v → EV g μ x k n tgt lv st sh R I J) (k2 : ¬ 0 ≤ v → EV g μ x k n (pc + 3) lv st sh R I J) : EV g μ x k n pc lv (.int v :: st) sh R I J := fun H locs ls hJ hq hl => lv_if_ge C.1 C.2.1 hd ht (fun h => k1 h H locs ls hJ hq hl) (fun h => k2 h H locs ls hJ hq hl)
theorem EV_if_gt (C : tq_C g μ x) {v : Int32} {off : Int} {tgt : Nat} (hd : decode μ.2.1 pc = .ok (.ifCond .gt off, 3)) (ht : (pc : Int) + off = (tgt : Int)) (k1 : 0 < v → EV g μ x k n tgt lv st sh R I J) (k2 : ¬ 0 < v → EV g μ x k n (pc + 3) lv st sh R I J) : EV g μ x k n pc lv (.int v :: st) sh R I J := fun H locs ls hJ hq hl => lv_if_gt C.1 C.2.1 hd ht (fun h => k1 h H locs ls hJ hq hl) (fun h => k2 h H locs ls hJ hq hl)
theorem EV_if_le (C : tq_C g μ x) {v : Int32} {off : Int} {tgt : Nat} (hd : decode μ.2.1 pc = .ok (.ifCond .le off, 3)) (ht : (pc : Int) + off = (tgt : Int)) (k1 : v ≤ 0 → EV g μ x k n tgt lv st sh R I J) (k2 : ¬ v ≤ 0 → EV g μ x k n (pc + 3) lv st sh R I J) : EV g μ x k n pc lv (.int v :: st) sh R I J := fun H locs ls hJ hq hl => lv_if_le C.1 C.2.1 hd ht (fun h => k1 h H locs ls hJ hq hl) (fun h => k2 h H locs ls hJ hq hl)
theorem EV_icmp_eq (C : tq_C g μ x) {u v : Int32} {off : Int} {tgt : Nat} (hd : decode μ.2.1 pc = .ok (.if_icmp .eq off, 3)) (ht : (pc : Int) + off = (tgt : Int)) (k1 : u = v → EV g μ x k n tgt lv st sh R I J) (k2 : ¬ u = v → EV g μ x k n (pc + 3) lv st sh R I J) : EV g μ x k n pc lv (.int v :: .int u :: st) sh R I J := fun H locs ls hJ hq hl => lv_icmp_eq C.1 C.2.1 hd ht (fun h => k1 h H locs ls hJ hq hl) (fun h => k2 h H locs ls hJ hq hl)
theorem EV_icmp_ne (C : tq_C g μ x) {u v : Int32} {off : Int} {tgt : Nat} (hd : decode μ.2.1 pc = .ok (.if_icmp .ne off, 3)) (ht : (pc : Int) + off = (tgt : Int)) (k1 : ¬ u = v → EV g μ x k n tgt lv st sh R I J) (k2 : u = v → EV g μ x k n (pc + 3) lv st sh R I J) : EV g μ x k n pc lv (.int v :: .int u :: st) sh R I J := fun H locs ls hJ hq hl => lv_icmp_ne C.1 C.2.1 hd ht (fun h => k1 h H locs ls hJ hq hl) (fun h => k2 h H locs ls hJ hq hl)
theorem EV_icmp_lt (C : tq_C g μ x) {u v : Int32} {off : Int} {tgt : Nat} (hd : decode μ.2.1 pc = .ok (.if_icmp .lt off, 3)) (ht : (pc : Int) + off = (tgt : Int)) (k1 : u < v → EV g μ x k n tgt lv st sh R I J) (k2 : ¬ u < v → EV g μ x k n (pc + 3) lv st sh R I J) : EV g μ x k n pc lv (.int v :: .int u :: st) sh R I J := fun H locs ls hJ hq hl => lv_icmp_lt C.1 C.2.1 hd ht (fun h => k1 h H locs ls hJ hq hl) (fun h => k2 h H locs ls hJ hq hl)
theorem EV_icmp_ge (C : tq_C g μ x) {u v : Int32} {off : Int} {tgt : Nat} (hd : decode μ.2.1 pc = .ok (.if_icmp .ge off, 3)) (ht : (pc : Int) + off = (tgt : Int)) (k1 : v ≤ u → EV g μ x k n tgt lv st sh R I J) (k2 : ¬ v ≤ u → EV g μ x k n (pc + 3) lv st sh R I J) : EV g μ x k n pc lv (.int v :: .int u :: st) sh R I J := fun H locs ls hJ hq hl => lv_icmp_ge C.1 C.2.1 hd ht (fun h => k1 h H locs ls hJ hq hl) (fun h => k2 h H locs ls hJ hq hl)
theorem EV_icmp_gt (C : tq_C g μ x) {u v : Int32} {off : Int} {tgt : Nat} (hd : decode μ.2.1 pc = .ok (.if_icmp .gt off, 3)) (ht : (pc : Int) + off = (tgt : Int)) (k1 : v < u → EV g μ x k n tgt lv st sh R I J) (k2 : ¬ v < u → EV g μ x k n (pc + 3) lv st sh R I J) : EV g μ x k n pc lv (.int v :: .int u :: st) sh R I J := fun H locs ls hJ hq hl => lv_icmp_gt C.1 C.2.1 hd ht (fun h => k1 h H locs ls hJ hq hl) (fun h => k2 h H locs ls hJ hq hl)
theorem EV_icmp_le (C : tq_C g μ x) {u v : Int32} {off : Int} {tgt : Nat} (hd : decode μ.2.1 pc = .ok (.if_icmp .le off, 3)) (ht : (pc : Int) + off = (tgt : Int)) (k1 : u ≤ v → EV g μ x k n tgt lv st sh R I J) (k2 : ¬ u ≤ v → EV g μ x k n (pc + 3) lv st sh R I J) : EV g μ x k n pc lv (.int v :: .int u :: st) sh R I J := fun H locs ls hJ hq hl => lv_icmp_le C.1 C.2.1 hd ht (fun h => k1 h H locs ls hJ hq hl) (fun h => k2 h H locs ls hJ hq hl)
theorem EV_ifnull (C : tq_C g μ x) {a : Nat} {off : Int} (hd : decode μ.2.1 pc = .ok (.ifnull off, 3)) (kk : EV g μ x k n (pc + 3) lv st sh R I J) : EV g μ x k n pc lv (.ref a :: st) sh R I J := fun H locs ls hJ hq hl => lv_ifnull C.1 C.2.1 hd (kk H locs ls hJ hq hl)
theorem EV_ifnonnull (C : tq_C g μ x) {a : Nat} {off : Int} {tgt : Nat} (hd : decode μ.2.1 pc = .ok (.ifnonnull off, 3)) (ht : (pc : Int) + off = (tgt : Int)) (kk : EV g μ x k n tgt lv st sh R I J) : EV g μ x k n pc lv (.ref a :: st) sh R I J := fun H locs ls hJ hq hl => lv_ifnonnull C.1 C.2.1 hd ht (kk H locs ls hJ hq hl)
theorem EV_goto (C : tq_C g μ x) {off : Int} {tgt : Nat} (hd : decode μ.2.1 pc = .ok (.goto off, 3)) (ht : (pc : Int) + off = (tgt : Int)) (kk : EV g μ x k n tgt lv st sh R I J) : EV g μ x k n pc lv st sh R I J := fun H locs ls hJ hq hl => lv_goto C.1 C.2.1 hd ht (kk H locs ls hJ hq hl)
theorem EV_lookup (C : tq_C g μ x) {v : Int32} {dflt : Int} {ps : Array (Int × Int)} {len : Nat} {off : Int} {tgt : Nat} (hd : decode μ.2.1 pc = .ok (.lookupswitch dflt ps, len)) (hp : (ps.toList.zip (ps.toList.drop 1)).all (fun (a, next) => a.1 < next.1) = true) (ho : Op.lookupswitch.offset ps.toList dflt v.toInt = off) (ht : (pc : Int) + off = (tgt : Int)) (kk : EV g μ x k n tgt lv st sh R I J) : EV g μ x k n pc lv (.int v :: st) sh R I J := fun H locs ls hJ hq hl => lv_lookup C.1 C.2.1 hd hp ho ht (kk H locs ls hJ hq hl)
theorem EV_tableOut (C : tq_C g μ x) {v : Int32} {dflt lo hi : Int} {offs : Array Int} {len : Nat} {tgt : Nat} (hd : decode μ.2.1 pc = .ok (.tableswitch dflt lo hi offs, len)) (h : v.toInt < lo ∨ hi < v.toInt) (ht : (pc : Int) + dflt = (tgt : Int)) (kk : EV g μ x k n tgt lv st sh R I J) : EV g μ x k n pc lv (.int v :: st) sh R I J := fun H locs ls hJ hq hl => lv_tableOut C.1 C.2.1 hd h ht (kk H locs ls hJ hq hl)
theorem EV_tableIn (C : tq_C g μ x) {v : Int32} {dflt lo hi : Int} {offs : Array Int} {len : Nat} {off : Int} {tgt : Nat} (hd : decode μ.2.1 pc = .ok (.tableswitch dflt lo hi offs, len)) (h1 : ¬ v.toInt < lo) (h2 : ¬ hi < v.toInt) (ho : offs[(v.toInt - lo).toNat]? = some off) (ht : (pc : Int) + off = (tgt : Int)) (kk : EV g μ x k n tgt lv st sh R I J) : EV g μ x k n pc lv (.int v :: st) sh R I J := fun H locs ls hJ hq hl => lv_tableIn C.1 C.2.1 hd h1 h2 ho ht (kk H locs ls hJ hq hl)
theorem EV_idiv (C : tq_C g μ x) {u v : Int32} (hd : decode μ.2.1 pc = .ok (.idiv, 1)) (hv : ¬ v = 0) (kk : EV g μ x k n (pc + 1) lv (.int (u / v) :: st) sh R I J) : EV g μ x k n pc lv (.int v :: .int u :: st) sh R I J := fun H locs ls hJ hq hl => lv_idiv C.1 C.2.1 hd hv (kk H locs ls hJ hq hl)
theorem EV_irem (C : tq_C g μ x) {u v : Int32} (hd : decode μ.2.1 pc = .ok (.irem, 1)) (hv : ¬ v = 0) (kk : EV g μ x k n (pc + 1) lv (.int (tq_rem u v) :: st) sh R I J) : EV g μ x k n pc lv (.int v :: .int u :: st) sh R I J := fun H locs ls hJ hq hl => lv_irem C.1 C.2.1 hd hv (kk H locs ls hJ hq hl)
theorem EV_lcmp (C : tq_C g μ x) {u v : Int64} (hd : decode μ.2.1 pc = .ok (.lcmp, 1)) (kk : EV g μ x k n (pc + 1) lv (.int (lg_cmp u v) :: st) sh R I J) : EV g μ x k n pc lv (.long v :: .long u :: st) sh R I J := fun H locs ls hJ hq hl => W.lcmp C.1 C.2.1 hd (kk H locs ls hJ hq hl)
end TQ3
end
section
/-! blocks of plain instructions, run by computation -/
abbrev tq_K : Type := List (Option Value) × List Value × tq_I × Int64
/-- an instruction, with its field's class, slot and link's place, or its constant -/
abbrev tq_E : Type := Instr × Nat × Nat × Nat × Int32
def tq_ld (lv : List (Option Value)) (st : List Value) (I : tq_I) (J : Int64) (f : Nat) : Option tq_K := match lv[f]? with
  | some (some (.int w)) => some (lv, .int w :: st, I, J)
  | _ => none
def tq_ldr (lv : List (Option Value)) (st : List Value) (I : tq_I) (J : Int64) (f : Nat) : Option tq_K := match lv[f]? with
  | some (some (.ref w)) => some (lv, .ref w :: st, I, J)
  | _ => none
def tq_ldl (lv : List (Option Value)) (st : List Value) (I : tq_I) (J : Int64) (f : Nat) : Option tq_K := match lv[f]? with
  | some (some (.long w)) => some (lv, .long w :: st, I, J)
  | _ => none
def tq_sti (nL : Nat) (lv : List (Option Value)) (st : List Value) (I : tq_I) (J : Int64) (f : Nat) : Option tq_K := match st with
  | .int w :: r => match Nat.ble (f + 1) nL, tq_lg lv f with
    | true, false => some (lv.set f (some (.int w)), r, I, J)
    | _, _ => none
  | _ => none
def tq_str (nL : Nat) (lv : List (Option Value)) (st : List Value) (I : tq_I) (J : Int64) (f : Nat) : Option tq_K := match st with
  | .ref w :: r => match Nat.ble (f + 1) nL, tq_lg lv f with
    | true, false => some (lv.set f (some (.ref w)), r, I, J)
    | _, _ => none
  | _ => none
def tq_stl (nL : Nat) (lv : List (Option Value)) (st : List Value) (I : tq_I) (J : Int64) (f : Nat) : Option tq_K := match st with
  | .long w :: r => match Nat.ble (f + 2) nL, tq_lg lv f with
    | true, false => some ((lv.set (f + 1) none).set f (some (.long w)), r, I, J)
    | _, _ => none
  | _ => none
def tq_inc (nL : Nat) (lv : List (Option Value)) (st : List Value) (I : tq_I) (J : Int64) (f : Nat) (v : Int32) : Option tq_K := match lv[f]? with
  | some (some (.int w)) => match Nat.ble (f + 1) nL, tq_lg lv f with
    | true, false => some (lv.set f (some (.int (w + v))), st, I, J)
    | _, _ => none
  | _ => none
def tq_b2 (o : Int32 → Int32 → Int32) (lv : List (Option Value)) (st : List Value) (I : tq_I) (J : Int64) : Option tq_K := match st with
  | .int b :: .int a :: r => some (lv, .int (o a b) :: r, I, J)
  | _ => none
def tq_l2 (o : Int64 → Int64 → Int64) (lv : List (Option Value)) (st : List Value) (I : tq_I) (J : Int64) : Option tq_K := match st with
  | .long b :: .long a :: r => some (lv, .long (o a b) :: r, I, J)
  | _ => none
def tq_gf1 (sh : List tq_S) (R : tq_R) (c j : Nat) (lv : List (Option Value)) (st : List Value) (I : tq_I) (J : Int64) : Option tq_K := match st with
  | .ref a :: r => match sh[a]? with
    | some (.inl c') => match Nat.beq c' c with
      | true => some (lv, tq_av R I J (tq_ty c j) a j :: r, I, J)
      | false => none
    | _ => none
  | _ => none
def tq_isI (c j : Nat) : Bool := match tq_ty c j with
  | .int => !(tq_T c j).2.2.2
  | _ => false
def tq_pf1 (sh : List tq_S) (c j : Nat) (lv : List (Option Value)) (st : List Value) (I : tq_I) (J : Int64) : Option tq_K := match st with
  | .int w :: .ref a :: r => match sh[a]? with
    | some (.inl c') => match Nat.beq c' c, tq_isI c j with
      | true, true => some (lv, r, tq_u I a j w, J)
      | _, _ => none
    | _ => none
  | _ => none
def tq_c1 (v : Value) : Bool := Nat.beq v.category 1
def tq_dup (lv : List (Option Value)) (st : List Value) (I : tq_I) (J : Int64) : Option tq_K := match st with
  | a :: r => match tq_c1 a with
    | true => some (lv, a :: a :: r, I, J)
    | false => none
  | _ => none
def tq_dup2 (lv : List (Option Value)) (st : List Value) (I : tq_I) (J : Int64) : Option tq_K := match st with
  | a :: b :: r => match tq_c1 a, tq_c1 b with
    | true, true => some (lv, a :: b :: a :: b :: r, I, J)
    | _, _ => none
  | _ => none
def tq_pop (lv : List (Option Value)) (st : List Value) (I : tq_I) (J : Int64) : Option tq_K := match st with
  | a :: r => match tq_c1 a with
    | true => some (lv, r, I, J)
    | false => none
  | _ => none
def tq_i2l (lv : List (Option Value)) (st : List Value) (I : tq_I) (J : Int64) : Option tq_K := match st with
  | .int a :: r => some (lv, .long a.toInt64 :: r, I, J)
  | _ => none
def tq_neg (lv : List (Option Value)) (st : List Value) (I : tq_I) (J : Int64) : Option tq_K := match st with
  | .int a :: r => some (lv, .int (-a) :: r, I, J)
  | _ => none
/-- one plain instruction -/
def tq_st (nL : Nat) (sh : List tq_S) (R : tq_R) (i : Instr) (c j : Nat) (v : Int32) (lv : List (Option Value)) (st : List Value) (I : tq_I) (J : Int64) : Option tq_K := match i with
  | .iconst _ => some (lv, .int v :: st, I, J)
  | .bipush _ => some (lv, .int v :: st, I, J)
  | .sipush _ => some (lv, .int v :: st, I, J)
  | .ldc _ => some (lv, .int v :: st, I, J)
  | .ldc_w _ => some (lv, .int v :: st, I, J)
  | .iload_n f => tq_ld lv st I J f.val
  | .iload f => tq_ld lv st I J f
  | .aload_n f => tq_ldr lv st I J f.val
  | .lload_n f => tq_ldl lv st I J f.val
  | .lload f => tq_ldl lv st I J f
  | .istore_n f => tq_sti nL lv st I J f.val
  | .istore f => tq_sti nL lv st I J f
  | .astore_n f => tq_str nL lv st I J f.val
  | .lstore_n f => tq_stl nL lv st I J f.val
  | .lstore f => tq_stl nL lv st I J f
  | .iinc f _ => tq_inc nL lv st I J f v
  | .iadd => tq_b2 (fun a b => a + b) lv st I J
  | .isub => tq_b2 (fun a b => a - b) lv st I J
  | .imul => tq_b2 (fun a b => a * b) lv st I J
  | .iand => tq_b2 (fun a b => a &&& b) lv st I J
  | .ior => tq_b2 (fun a b => a ||| b) lv st I J
  | .ixor => tq_b2 (fun a b => a ^^^ b) lv st I J
  | .ishl => tq_b2 (fun a b => a <<< (b &&& 31)) lv st I J
  | .ishr => tq_b2 (fun a b => a >>> (b &&& 31)) lv st I J
  | .iushr => tq_b2 tq_ush lv st I J
  | .ineg => tq_neg lv st I J
  | .ladd => tq_l2 (fun a b => a + b) lv st I J
  | .lmul => tq_l2 (fun a b => a * b) lv st I J
  | .i2l => tq_i2l lv st I J
  | .dup => tq_dup lv st I J
  | .dup2 => tq_dup2 lv st I J
  | .pop => tq_pop lv st I J
  | .goto _ => some (lv, st, I, J)
  | .getfield _ => tq_gf1 sh R c j lv st I J
  | .putfield _ => tq_pf1 sh c j lv st I J
  | _ => none
def tq_len (i : Instr) : Nat := match i with
  | .bipush _ => 2
  | .sipush _ => 3
  | .ldc _ => 2
  | .ldc_w _ => 3
  | .iload _ => 2
  | .lload _ => 2
  | .istore _ => 2
  | .lstore _ => 2
  | .iinc _ _ => 3
  | .goto _ => 3
  | .getfield _ => 3
  | .putfield _ => 3
  | _ => 1
def tq_ok1 (own : Nat) (i : Instr) (c j pl : Nat) (v : Int32) : Bool := match i with
  | .iconst m => decide (Int32.ofInt m = v)
  | .bipush m => decide ((Int8.ofInt m).toInt32 = v)
  | .sipush m => decide ((Int16.ofInt m).toInt32 = v)
  | .iinc _ m => decide (Int32.ofInt m = v)
  | .ldc idx => decide ((own, idx, v, pl) ∈ tq_kc)
  | .ldc_w idx => decide ((own, idx, v, pl) ∈ tq_kc)
  | .getfield idx => decide ((own, idx, c, j, pl) ∈ tq_fl) || decide ((own, idx, c, j, pl) ∈ tq_fn)
  | .putfield idx => decide ((own, idx, c, j, pl) ∈ tq_fl) || decide ((own, idx, c, j, pl) ∈ tq_fn)
  | _ => true
def tq_nx (pc : Nat) (i : Instr) : Option Nat := match i with
  | .goto off => if 0 ≤ (pc : Int) + off then some ((pc : Int) + off).toNat else none
  | _ => some (pc + tq_len i)
def tq_bk (own : Nat) (cc : ByteArray) : List tq_E → Nat → Option Nat
  | [], pc => some pc
  | e :: t, pc => match decode cc pc with
    | .ok (i, len) => if i = e.1 ∧ len = tq_len e.1 ∧ tq_ok1 own e.1 e.2.1 e.2.2.1 e.2.2.2.1 e.2.2.2.2 = true then (match tq_nx pc e.1 with | some pc' => tq_bk own cc t pc' | none => none) else none
    | .error _ => none
def tq_px (nL : Nat) (sh : List tq_S) (R : tq_R) : List tq_E → List (Option Value) → List Value → tq_I → Int64 → Option tq_K
  | [], lv, st, I, J => some (lv, st, I, J)
  | e :: t, lv, st, I, J => match tq_st nL sh R e.1 e.2.1 e.2.2.1 e.2.2.2.2 lv st I J with
    | some (lv', st', I', J') => tq_px nL sh R t lv' st' I' J'
    | none => none
section TQ4
variable {g : tq_G} {μ : tq_M} {x : tq_X} {k n pc : Nat} {lv lv' : List (Option Value)} {st st' : List Value} {sh : List tq_S} {R : tq_R} {I I' : tq_I} {J J' : Int64}
theorem tq_kcin {own idx pl : Nat} {v : Int32} (h : (own, idx, v, pl) ∈ tq_kc) : .constant (tq_cn own) idx v ∈ tq_ws := by
  have := List.all_eq_true.mp tq_kc_ok _ h
  exact tq_inW pl (of_decide_eq_true this) rfl
theorem tq_ble {a b : Nat} (h : Nat.ble (a + 1) b = true) : a < b := Nat.le_of_ble_eq_true h
set_option maxHeartbeats 4000000 in
theorem EV_st (C : tq_C g μ x) {own : Nat} (hown : tq_cn own = μ.1.cls) {i : Instr} {c j pl pc' : Nat} {v : Int32} (hd : decode μ.2.1 pc = .ok (i, tq_len i)) (hok : tq_ok1 own i c j pl v = true) (hn : tq_nx pc i = some pc') (hs : tq_st μ.2.2.1 sh R i c j v lv st I J = some (lv', st', I', J')) (kk : EV g μ x k n pc' lv' st' sh R I' J') : EV g μ x k n pc lv st sh R I J := by
  cases i with
  | iconst m =>
    cases hs; cases hn
    exact fun H locs ls hJ hq hl => lv_iconst C.1 C.2.1 hd (of_decide_eq_true hok) (kk H locs ls hJ hq hl)
  | bipush m =>
    cases hs; cases hn
    exact fun H locs ls hJ hq hl => lv_bipush C.1 C.2.1 hd (of_decide_eq_true hok) (kk H locs ls hJ hq hl)
  | sipush m =>
    cases hs; cases hn
    exact fun H locs ls hJ hq hl => lv_sipush C.1 C.2.1 hd (of_decide_eq_true hok) (kk H locs ls hJ hq hl)
  | ldc m =>
    cases hs; cases hn
    have hw := C.2.2.2.2.2.2.2.1 _ (tq_kcin (of_decide_eq_true hok))
    rw [hown] at hw
    exact fun H locs ls hJ hq hl => lv_ldc C.1 C.2.1 C.2.2.2.2.2.2.1 hw hd (kk H locs ls hJ hq hl)
  | ldc_w m =>
    cases hs; cases hn
    have hw := C.2.2.2.2.2.2.2.1 _ (tq_kcin (of_decide_eq_true hok))
    rw [hown] at hw
    exact fun H locs ls hJ hq hl => lv_ldcw C.1 C.2.1 C.2.2.2.2.2.2.1 hw hd (kk H locs ls hJ hq hl)
  | iload_n f =>
    cases hn
    simp only [tq_st, tq_ld] at hs
    split at hs
    · rename_i w hw
      cases hs
      exact fun H locs ls hJ hq hl => lv_iload_n C.1 C.2.1 hd rfl (hl.2.2 _ _ hw) (kk H locs ls hJ hq hl)
    · cases hs
  | iload f =>
    cases hn
    simp only [tq_st, tq_ld] at hs
    split at hs
    · rename_i w hw
      cases hs
      exact fun H locs ls hJ hq hl => lv_iload C.1 C.2.1 hd (hl.2.2 _ _ hw) (kk H locs ls hJ hq hl)
    · cases hs
  | aload_n f =>
    cases hn
    simp only [tq_st, tq_ldr] at hs
    split at hs
    · rename_i w hw
      cases hs
      exact fun H locs ls hJ hq hl => lv_aload_n C.1 C.2.1 hd rfl (hl.2.2 _ _ hw) (kk H locs ls hJ hq hl)
    · cases hs
  | lload_n f =>
    cases hn
    simp only [tq_st, tq_ldl] at hs
    split at hs
    · rename_i w hw
      cases hs
      exact fun H locs ls hJ hq hl => lv_lload_n C.1 C.2.1 hd rfl (hl.2.2 _ _ hw) (kk H locs ls hJ hq hl)
    · cases hs
  | lload f =>
    cases hn
    simp only [tq_st, tq_ldl] at hs
    split at hs
    · rename_i w hw
      cases hs
      exact fun H locs ls hJ hq hl => lv_lload C.1 C.2.1 hd (hl.2.2 _ _ hw) (kk H locs ls hJ hq hl)
    · cases hs
  | istore_n f =>
    cases hn
    simp only [tq_st, tq_sti] at hs
    split at hs
    · split at hs
      · rename_i h1 h2
        cases hs
        exact EV_istore_n C hd (tq_ble h1) h2 kk
      · cases hs
    · cases hs
  | istore f =>
    cases hn
    simp only [tq_st, tq_sti] at hs
    split at hs
    · split at hs
      · rename_i h1 h2
        cases hs
        exact EV_istore C hd (tq_ble h1) h2 kk
      · cases hs
    · cases hs
  | astore_n f =>
    cases hn
    simp only [tq_st, tq_str] at hs
    split at hs
    · split at hs
      · rename_i h1 h2
        cases hs
        exact EV_astore_n C hd (tq_ble h1) h2 kk
      · cases hs
    · cases hs
  | lstore_n f =>
    cases hn
    simp only [tq_st, tq_stl] at hs
    split at hs
    · split at hs
      · rename_i h1 h2
        cases hs
        exact EV_lstore_n C hd (tq_ble h1) h2 kk
      · cases hs
    · cases hs
  | lstore f =>
    cases hn
    simp only [tq_st, tq_stl] at hs
    split at hs
    · split at hs
      · rename_i h1 h2
        cases hs
        exact EV_lstore C hd (tq_ble h1) h2 kk
      · cases hs
    · cases hs
  | iinc f m =>
    cases hn
    simp only [tq_st, tq_inc] at hs
    split at hs
    · split at hs
      · rename_i hw _ _ h1 h2
        cases hs
        exact EV_iinc C hd hw (of_decide_eq_true hok) (tq_ble h1) h2 kk
      · cases hs
    · cases hs
  | iadd =>
    cases hn
    simp only [tq_st, tq_b2] at hs
    split at hs
    · cases hs
      exact fun H locs ls hJ hq hl => lv_iadd C.1 C.2.1 hd (kk H locs ls hJ hq hl)
    · cases hs
  | isub =>
    cases hn
    simp only [tq_st, tq_b2] at hs
    split at hs
    · cases hs
      exact fun H locs ls hJ hq hl => lv_isub C.1 C.2.1 hd (kk H locs ls hJ hq hl)
    · cases hs
  | imul =>
    cases hn
    simp only [tq_st, tq_b2] at hs
    split at hs
    · cases hs
      exact fun H locs ls hJ hq hl => lv_imul C.1 C.2.1 hd (kk H locs ls hJ hq hl)
    · cases hs
  | iand =>
    cases hn
    simp only [tq_st, tq_b2] at hs
    split at hs
    · cases hs
      exact fun H locs ls hJ hq hl => lv_iand C.1 C.2.1 hd (kk H locs ls hJ hq hl)
    · cases hs
  | ior =>
    cases hn
    simp only [tq_st, tq_b2] at hs
    split at hs
    · cases hs
      exact fun H locs ls hJ hq hl => lv_ior C.1 C.2.1 hd (kk H locs ls hJ hq hl)
    · cases hs
  | ixor =>
    cases hn
    simp only [tq_st, tq_b2] at hs
    split at hs
    · cases hs
      exact fun H locs ls hJ hq hl => lv_ixor C.1 C.2.1 hd (kk H locs ls hJ hq hl)
    · cases hs
  | ishl =>
    cases hn
    simp only [tq_st, tq_b2] at hs
    split at hs
    · cases hs
      exact fun H locs ls hJ hq hl => lv_ishl C.1 C.2.1 hd (kk H locs ls hJ hq hl)
    · cases hs
  | ishr =>
    cases hn
    simp only [tq_st, tq_b2] at hs
    split at hs
    · cases hs
      exact fun H locs ls hJ hq hl => lv_ishr C.1 C.2.1 hd (kk H locs ls hJ hq hl)
    · cases hs
  | iushr =>
    cases hn
    simp only [tq_st, tq_b2] at hs
    split at hs
    · cases hs
      exact fun H locs ls hJ hq hl => lv_iushr C.1 C.2.1 hd rfl (kk H locs ls hJ hq hl)
    · cases hs
  | ineg =>
    cases hn
    simp only [tq_st, tq_neg] at hs
    split at hs
    · cases hs
      exact fun H locs ls hJ hq hl => lv_ineg C.1 C.2.1 hd (kk H locs ls hJ hq hl)
    · cases hs
  | ladd =>
    cases hn
    simp only [tq_st, tq_l2] at hs
    split at hs
    · cases hs
      exact fun H locs ls hJ hq hl => lv_ladd C.1 C.2.1 hd (kk H locs ls hJ hq hl)
    · cases hs
  | lmul =>
    cases hn
    simp only [tq_st, tq_l2] at hs
    split at hs
    · cases hs
      exact fun H locs ls hJ hq hl => lv_lmul C.1 C.2.1 hd (kk H locs ls hJ hq hl)
    · cases hs
  | i2l =>
    cases hn
    simp only [tq_st, tq_i2l] at hs
    split at hs
    · cases hs
      exact fun H locs ls hJ hq hl => lv_i2l C.1 C.2.1 hd rfl (kk H locs ls hJ hq hl)
    · cases hs
  | dup =>
    cases hn
    simp only [tq_st, tq_dup] at hs
    split at hs
    · split at hs
      · rename_i h1
        cases hs
        exact fun H locs ls hJ hq hl => lv_dup C.1 C.2.1 hd (by rw [tq_v_cat]; exact Nat.eq_of_beq_eq_true h1) (kk H locs ls hJ hq hl)
      · cases hs
    · cases hs
  | dup2 =>
    cases hn
    simp only [tq_st, tq_dup2] at hs
    split at hs
    · split at hs
      · rename_i h1 h2
        cases hs
        exact fun H locs ls hJ hq hl => lv_dup2_11 C.1 C.2.1 hd (by rw [tq_v_cat]; exact Nat.eq_of_beq_eq_true h1) (by rw [tq_v_cat]; exact Nat.eq_of_beq_eq_true h2) (kk H locs ls hJ hq hl)
      · cases hs
    · cases hs
  | pop =>
    cases hn
    simp only [tq_st, tq_pop] at hs
    split at hs
    · split at hs
      · rename_i h1
        cases hs
        exact fun H locs ls hJ hq hl => lv_pop C.1 C.2.1 hd (by rw [tq_v_cat]; exact Nat.eq_of_beq_eq_true h1) (kk H locs ls hJ hq hl)
      · cases hs
    · cases hs
  | goto off =>
    cases hs
    simp only [tq_nx] at hn
    split at hn
    · rename_i h0
      cases hn
      exact EV_goto C hd (by omega) kk
    · cases hn
  | getfield idx =>
    cases hn
    simp only [tq_st, tq_gf1] at hs
    split at hs
    · split at hs
      · split at hs
        · rename_i hsh _ h1
          cases hs
          have hc := Nat.eq_of_beq_eq_true h1
          subst hc
          have hf := (Bool.or_eq_true _ _).mp hok
          exact EV_get C hown (hf.imp of_decide_eq_true of_decide_eq_true) hd hsh kk
        · cases hs
      · cases hs
    · cases hs
  | putfield idx =>
    cases hn
    simp only [tq_st, tq_pf1] at hs
    split at hs
    · split at hs
      · split at hs
        · rename_i hsh _ _ h1 h2
          cases hs
          have hc := Nat.eq_of_beq_eq_true h1
          subst hc
          have hf := (Bool.or_eq_true _ _).mp hok
          unfold tq_isI at h2
          split at h2
          · rename_i hty
            have hfin := (Bool.not_eq_true' _).mp h2
            exact EV_puti C hown (hf.imp of_decide_eq_true (fun h => ⟨of_decide_eq_true h, hfin⟩)) hd hsh hfin (Or.inl hty) kk
          · cases h2
        · cases hs
      · cases hs
    · cases hs
  | _ => cases hs
/-- A BLOCK -/
theorem EV_blk (C : tq_C g μ x) {own : Nat} (hown : tq_cn own = μ.1.cls) (is : List tq_E) {pc' : Nat} (hb : tq_bk own μ.2.1 is pc = some pc') (hs : tq_px μ.2.2.1 sh R is lv st I J = some (lv', st', I', J')) (kk : EV g μ x k n pc' lv' st' sh R I' J') : EV g μ x k n pc lv st sh R I J := by
  induction is generalizing pc lv st I J with
  | nil =>
    cases hb; cases hs
    exact kk
  | cons e t ih =>
    simp only [tq_bk] at hb
    split at hb
    · rename_i i len hd
      split at hb
      · rename_i hc
        obtain ⟨rfl, rfl, hok⟩ := hc
        split at hb
        · rename_i p1 hp1
          simp only [tq_px] at hs
          split at hs
          · rename_i lv1 st1 I1 J1 hs1
            exact EV_st C hown hd hok hp1 hs1 (ih hb hs)
          · cases hs
        · cases hb
      · cases hb
    · cases hb
end TQ4
end
section
/-! new cells; the copy; the library's own methods; the long field -/
section TQ5
variable {g : tq_G} {μ : tq_M} {x : tq_X} {k n pc : Nat} {lv : List (Option Value)} {st : List Value} {sh : List tq_S} {R : tq_R} {I : tq_I} {J : Int64}
/-- a fresh cell's places -/
def tq_z (I : tq_I) (a : Nat) : tq_I := fun b j => if b = a then 0 else I b j
def tq_zR (R : tq_R) (a : Nat) : tq_R := fun b j => if b = a then none else R b j
theorem tq_J.push {H H1 : Heap} {s : tq_S} (hJ : tq_J g sh R I J H) (hlen : sh.length < 1000) (hz : H1.size = H.size + 1) (ho : ∀ q, q < H.size → H1[q]? = H[q]?) (hn : tq_at g (tq_zR R sh.length) (tq_z I sh.length) J s sh.length H1) : tq_J g (sh ++ [s]) (tq_zR R sh.length) (tq_z I sh.length) J H1 := by
  refine ⟨by rw [hz, hJ.1, List.length_append]; simp; omega, by rw [List.length_append]; simp; omega, fun a u hu => ?_, fun q hq => by rw [ho q (by rw [hJ.1]; omega)]; exact hJ.2.2.2 q hq⟩
  by_cases hl : a < sh.length
  · rw [List.getElem?_append_left hl] at hu
    have hne : a ≠ sh.length := by omega
    refine tq_at.kept (H := H) ?_ (ho _ (by rw [hJ.1]; omega))
    exact tq_at.cong (fun j => by simp [tq_z, hne]) (fun j => by simp [tq_zR, hne]) (fun _ _ _ _ => rfl) (hJ.2.2.1 a u hu)
  · rw [List.getElem?_append_right (by omega)] at hu
    have h1 : a - sh.length < 1 := (List.getElem?_eq_some_iff.mp hu).1
    have h2 : a = sh.length := by omega
    subst h2
    rw [Nat.sub_self] at hu
    cases hu
    exact hn
theorem tq_kkin {own idx c pl : Nat} (h : (own, idx, c, pl) ∈ tq_kk) : .classLink (tq_cn own) idx (tq_cn c) ∈ tq_ws := by
  have := List.all_eq_true.mp tq_kk_ok _ h
  exact tq_inW pl (of_decide_eq_true this) rfl
theorem tq_ini : ∀ c, c < 13 → lw_tbl.any (fun w => decide (w = .instantiable (tq_cn c) (tq_nf c))) = true ∧ lw_tbl.any (fun w => decide (w = .initialized (tq_cn c))) = true := by decide +kernel
theorem tq_anyin {w : Cond} (h : lw_tbl.any (fun v => decide (v = w)) = true) (hg : goodWord w = true) : w ∈ tq_ws := by
  obtain ⟨v, hv, he⟩ := List.any_eq_true.mp h
  cases of_decide_eq_true he
  exact List.mem_filter.mpr ⟨hv, hg⟩
theorem tq_cn_cl : ∀ c, c < 13 → (tq_cl[c]?).map (fun q => q.1) = some (tq_cn c) := by decide +kernel
theorem tq_default : ∀ (R : tq_R) (I : tq_I) (J : Int64) (ty : FieldType) (a j : Nat), (ty = .int ∨ ty = .boolean ∨ (ty = .long ∧ J = 0) ∨ (∃ t, ty = .array t) ∨ ∃ t, ty = .object t) → defaultValue ty = tq_fv g (tq_zR R a) (tq_z I a) J ty a j := by
  intro R I J ty a j h
  rcases h with h | h | ⟨h, h2⟩ | ⟨t, h⟩ | ⟨t, h⟩ <;> subst h
  · simp [tq_fv, tq_av, tq_z, tq_v, defaultValue]
  · simp [tq_fv, tq_av, tq_z, tq_v, defaultValue]
  · subst h2; simp [tq_fv, tq_av, tq_z, tq_v, defaultValue]
  · simp [tq_fv, tq_av, tq_zR, tq_v, tq_ov, defaultValue]
  · simp [tq_fv, tq_av, tq_zR, tq_v, tq_ov, defaultValue]
def tq_plain (ty : FieldType) : Bool := match ty with
  | .int => true
  | .boolean => true
  | .array _ => true
  | .object _ => true
  | .long => true
  | _ => false
theorem tq_plain_all : ∀ c, c < 13 → ∀ j, j < tq_nf c → tq_plain (tq_ty c j) = true := by decide +kernel
theorem EV_new (C : tq_C g μ x) {d mc0 ms0 : Nat} (hR : tq_ht x d mc0 ms0) {own idx c pl : Nat} (hown : tq_cn own = μ.1.cls) (hf : (own, idx, c, pl) ∈ tq_kk) (hc : c < 13) (hJ0 : J = 0) (hlen : sh.length < 1000) (hd : decode μ.2.1 pc = .ok (.new idx, 3)) (h1 : k + 1 ≤ mc0) (h2 : n + tq_nf c ≤ ms0)
    (kk : EV g μ x (k + 1) (n + tq_nf c) (pc + 3) lv (.ref sh.length :: st) (sh ++ [.inl c]) (tq_zR R sh.length) (tq_z I sh.length) J) : EV g μ x k n pc lv st sh R I J := by
  intro H locs ls hJ hq hl
  have hts := C.2.2.2.2.2.2.2.1
  have hw := hts _ (tq_kkin hf)
  rw [hown] at hw
  have hi := tq_ini c hc
  obtain ⟨q, hcl, hN, hT⟩ := tq_cl_lt hc
  have hcn : q.1 = tq_cn c := by
    have := tq_cn_cl c hc
    rw [hcl] at this
    exact Option.some.inj this
  have hKn := C.2.2.2.2.2.2.2.2.1.1 c q hcl
  refine W.newcK C.1 C.2.1 C.2.2.2.2.2.2.1 hw (hts _ (tq_anyin hi.1 rfl)) (hts _ (tq_anyin hi.2 rfl)) rfl hd (by rw [hR.2.2.1]; exact h1) (by rw [hR.2.2.2]; exact h2) (by rw [← hcn]; exact hKn.2.1) hJ.1 fun H1 kC hkC e1 z1 o1 => ?_
  have hb := u_born (H := H1) (tq_ty c) hts (tq_lay hcl) hKn hkC e1 (tq_tys_ok hcl)
  rw [hN] at hb
  have hat : tq_at g (tq_zR R sh.length) (tq_z I sh.length) J (.inl c) sh.length H1 := by
    refine t_OB.to hb (fun j hj => tq_default R I J _ sh.length j ?_)
    have hp := tq_plain_all c hc j hj
    unfold tq_plain at hp
    split at hp
    · rename_i h; exact Or.inl h
    · rename_i h; exact Or.inr (Or.inl h)
    · rename_i t h; exact Or.inr (Or.inr (Or.inr (Or.inl ⟨t, h⟩)))
    · rename_i t h; exact Or.inr (Or.inr (Or.inr (Or.inr ⟨t, h⟩)))
    · rename_i h; exact Or.inr (Or.inr (Or.inl ⟨h, hJ0⟩))
    · cases hp
  have hJ1 := tq_J.push (s := .inl c) hJ hlen (by rw [hJ.1]; exact z1) (by rw [hJ.1]; exact o1) hat
  have hk := kk H1 locs ls hJ1 hq hl
  have ee : (Value.ref sh.length :: st).map (tq_v g) = Value.ref (tq_gs g + sh.length) :: st.map (tq_v g) := by
    show Value.ref (tq_ad g sh.length) :: _ = _
    rw [tq_ad_lt hlen]
  rw [ee] at hk
  exact hk
theorem tq_arrw (t : Nat) (ht : t = 0 ∨ t = 1) : .arrayClass (if t = 0 then .int else .boolean) ∈ tq_ws := by
  rcases ht with rfl | rfl
  · exact tq_anyin (by decide +kernel) rfl
  · exact tq_anyin (by decide +kernel) rfl
theorem tq_newa0 {ty : FieldType} {s : State} {cA cB : ClassId} (h : s.vm.findClass ("[" ++ ty.toString) = some cA) (hA : va_RA s cB ty) (hty : ∀ C, ty ≠ .object C) : cA = cB := by
  have h2 : s.vm.findClass ("[" ++ ty.toString) = some cB := by
    cases ty with
    | object C => exact absurd rfl (hty C)
    | _ => exact hA
  exact Option.some.inj (h.symm.trans h2)
theorem EV_newi (C : tq_C g μ x) {d mc0 ms0 : Nat} (hR : tq_ht x d mc0 ms0) {v : Int32} {m : Nat} (hv : v.toInt = (m : Int)) (hm : m ≤ 100000) (hlen : sh.length < 1000) (hd : decode μ.2.1 pc = .ok (.newarray .int, 2)) (h1 : k + 1 ≤ mc0) (h2 : n + m ≤ ms0)
    (kk : EV g μ x (k + 1) (n + m) (pc + 2) lv (.ref sh.length :: st) (sh ++ [.inr (0, m)]) (tq_zR R sh.length) (tq_z I sh.length) J) : EV g μ x k n pc lv (.int v :: st) sh R I J := by
  intro H locs ls hJ hq hl
  have hts := C.2.2.2.2.2.2.2.1
  obtain ⟨e1, e2⟩ := tq_in (m := m + 1) hv (Nat.lt_succ_self m)
  refine va_newaK (atype := .int) C.1 C.2.1 (hts _ (tq_arrw 0 (Or.inl rfl))) rfl hd (rest := st.map (tq_v g)) rfl (fun h => e1 (Or.inl h)) e2 (by show m * 4 ≤ _; omega) (by rw [hR.2.2.1]; exact h1) (by rw [hR.2.2.2]; exact h2) hJ.1 fun H1 cA f1 z1 o1 hAr hNm => ?_
  have hcA : cA = tq_gA g 0 := tq_newa0 (ty := .int) hNm (C.2.2.2.2.2.2.2.2.1.2 0 (tq_gA g 0, .int) rfl).2 (fun C h => by cases h)
  have hat : tq_at g (tq_zR R sh.length) (tq_z I sh.length) J (.inr (0, m)) sh.length H1 := by
    show H1[_]? = some (arrV (tq_gA g 0) m (fun j => .int (tq_z I sh.length sh.length j)))
    rw [f1, hcA]
    simp [tq_z, defaultValue, newarray.typeOf]
  have hk := kk H1 locs ls (tq_J.push (s := .inr (0, m)) hJ hlen (by rw [hJ.1]; exact z1) (by rw [hJ.1]; exact o1) hat) hq hl
  have ee : (Value.ref sh.length :: st).map (tq_v g) = Value.ref (tq_gs g + sh.length) :: st.map (tq_v g) := by
    show Value.ref (tq_ad g sh.length) :: _ = _
    rw [tq_ad_lt hlen]
  rw [ee] at hk
  exact hk
theorem EV_newz (C : tq_C g μ x) {d mc0 ms0 : Nat} (hR : tq_ht x d mc0 ms0) {v : Int32} {m : Nat} (hv : v.toInt = (m : Int)) (hm : m ≤ 100000) (hlen : sh.length < 1000) (hd : decode μ.2.1 pc = .ok (.newarray .boolean, 2)) (h1 : k + 1 ≤ mc0) (h2 : n + m ≤ ms0)
    (kk : EV g μ x (k + 1) (n + m) (pc + 2) lv (.ref sh.length :: st) (sh ++ [.inr (1, m)]) (tq_zR R sh.length) (tq_z I sh.length) J) : EV g μ x k n pc lv (.int v :: st) sh R I J := by
  intro H locs ls hJ hq hl
  have hts := C.2.2.2.2.2.2.2.1
  obtain ⟨e1, e2⟩ := tq_in (m := m + 1) hv (Nat.lt_succ_self m)
  refine va_newaK (atype := .boolean) C.1 C.2.1 (hts _ (tq_arrw 1 (Or.inr rfl))) rfl hd (rest := st.map (tq_v g)) rfl (fun h => e1 (Or.inl h)) e2 (by show m * 1 ≤ _; omega) (by rw [hR.2.2.1]; exact h1) (by rw [hR.2.2.2]; exact h2) hJ.1 fun H1 cA f1 z1 o1 hAr hNm => ?_
  have hcA : cA = tq_gA g 1 := tq_newa0 (ty := .boolean) hNm (C.2.2.2.2.2.2.2.2.1.2 1 (tq_gA g 1, .boolean) rfl).2 (fun C h => by cases h)
  have hat : tq_at g (tq_zR R sh.length) (tq_z I sh.length) J (.inr (1, m)) sh.length H1 := by
    show H1[_]? = some (arrV (tq_gA g 1) m (fun j => .int (tq_z I sh.length sh.length j)))
    rw [f1, hcA]
    simp [tq_z, defaultValue, newarray.typeOf]
  have hk := kk H1 locs ls (tq_J.push (s := .inr (1, m)) hJ hlen (by rw [hJ.1]; exact z1) (by rw [hJ.1]; exact o1) hat) hq hl
  have ee : (Value.ref sh.length :: st).map (tq_v g) = Value.ref (tq_gs g + sh.length) :: st.map (tq_v g) := by
    show Value.ref (tq_ad g sh.length) :: _ = _
    rw [tq_ad_lt hlen]
  rw [ee] at hk
  exact hk
theorem EV_newr (C : tq_C g μ x) {d mc0 ms0 : Nat} (hR : tq_ht x d mc0 ms0) {own idx pl : Nat} (hown : tq_cn own = μ.1.cls) (hf : (own, idx, 8, pl) ∈ tq_kk) {v : Int32} {m : Nat} (hv : v.toInt = (m : Int)) (hm : m ≤ 100000) (hlen : sh.length < 1000) (hd : decode μ.2.1 pc = .ok (.anewarray idx, 3)) (h1 : k + 1 ≤ mc0) (h2 : n + m ≤ ms0)
    (kk : EV g μ x (k + 1) (n + m) (pc + 3) lv (.ref sh.length :: st) (sh ++ [.inr (2, m)]) (tq_zR R sh.length) (tq_z I sh.length) J) : EV g μ x k n pc lv (.int v :: st) sh R I J := by
  intro H locs ls hJ hq hl
  have hts := C.2.2.2.2.2.2.2.1
  have hw := hts _ (tq_kkin hf)
  rw [hown] at hw
  obtain ⟨e1, e2⟩ := tq_in (m := m + 1) hv (Nat.lt_succ_self m)
  subst e2
  refine W.anew C.1 C.2.1 C.2.2.2.2.2.2.1 hw (va_AO.use C.2.2.2.2.2.2.2.2.2.2.2.1) rfl hd (rest := st.map (tq_v g)) rfl (fun h => e1 (Or.inl h)) (by omega) (by rw [hR.2.2.1]; exact h1) (by rw [hR.2.2.2]; exact h2) fun cA kA comp f1 f2 f3 f4 => ?_
  generalize hH1 : H.push ({ cls := cA, slots := Array.replicate v.toNatClampNeg .null, vm := .none } : Cell) = H1
  have z1 : H1.size = H.size + 1 := by rw [← hH1, Array.size_push]
  have g1 : H1[H.size]? = some (arrV cA v.toNatClampNeg (fun _ => .null)) := by rw [← hH1, Array.getElem?_push_size, ← arrV_new]
  have o1 : ∀ q : Nat, q < H.size → H1[q]? = H[q]? := fun q hq => by rw [← hH1, Array.getElem?_push, if_neg (Nat.ne_of_lt hq)]
  have hcA : cA = tq_gA g 2 := by
    obtain ⟨kA', comp', k1, k2, k3, k4⟩ := (C.2.2.2.2.2.2.2.2.1.2 2 (tq_gA g 2, .object RX8) rfl).2
    exact Option.some.inj (f1.symm.trans k4)
  have hat : tq_at g (tq_zR R sh.length) (tq_z I sh.length) J (.inr (2, v.toNatClampNeg)) sh.length H1 := by
    show H1[_]? = some (arrV (tq_gA g 2) v.toNatClampNeg (fun j => va_rf ((tq_zR R sh.length sh.length j).map (tq_ad g))))
    rw [← hJ.1, g1, hcA]
    simp [tq_zR, va_rf]
  have hk := kk H1 locs ls (tq_J.push (s := .inr (2, v.toNatClampNeg)) hJ hlen z1 o1 hat) hq hl
  have ee : (Value.ref sh.length :: st).map (tq_v g) = Value.ref H.size :: st.map (tq_v g) := by
    show Value.ref (tq_ad g sh.length) :: _ = _
    rw [tq_ad_lt hlen, hJ.1]
  rw [ee] at hk
  exact hk
theorem EV_aast (C : tq_C g μ x) {a m j b : Nat} {i : Int32} (hd : decode μ.2.1 pc = .ok (.aastore, 1)) (hs : sh[a]? = some (.inr (2, m))) (hb : sh[b]? = some (.inl 8)) (hi : i.toInt = (j : Int)) (hj : j < m) (kk : EV g μ x k n (pc + 1) lv st sh (tq_uR R a j (some b)) I J) : EV g μ x k n pc lv (.ref b :: .int i :: .ref a :: st) sh R I J := by
  intro H locs ls hJ hq hl
  have ha : a < 1000 := Nat.lt_of_lt_of_le ((List.getElem?_eq_some_iff.mp hs).1) hJ.2.1
  have hb' : b < 1000 := Nat.lt_of_lt_of_le ((List.getElem?_eq_some_iff.mp hb).1) hJ.2.1
  have hc : H[tq_gs g + a]? = some (arrV (tq_gA g 2) m (fun j => va_rf ((R a j).map (tq_ad g)))) := hJ.2.2.1 a _ hs
  obtain ⟨cellV, g1, g2, g3, -⟩ : t_OB (tq_gs g + b) ((tq_gD g).1 8) (tq_nf 8) ((tq_gD g).2 8) H (fun k => tq_fv g R I J (tq_ty 8 k) b k) := hJ.2.2.1 b _ hb
  have hK := C.2.2.2.2.2.2.2.2.1
  obtain ⟨h1, h2⟩ := tq_in hi hj
  have hcls := (hK.1 8 (RX8, TX8, 3) rfl).2
  obtain ⟨kA, comp, k1, k2, k3, -⟩ := (hK.2 2 (tq_gA g 2, .object RX8) rfl).2
  have hcomp : comp = (tq_gD g).1 8 := Option.some.inj (k3.symm.trans hcls.1)
  subst hcomp
  obtain ⟨kC, hkC, -⟩ := hcls.2
  refine W.aast (a := tq_gs g + a) (v := tq_gs g + b) C.1 C.2.1 hc (fun q h => by cases h) (fun h => by cases h) k1 k2 rfl hkC ⟨fun h => h1 (Or.inl h), by rw [arrV_size, h2]; exact hj⟩ g1 (fun q h => by rw [g3] at h; cases h) (by rw [g2]; exact hkC) (by rw [g2]; exact va_assign hcls) rfl (rest := st.map (tq_v g)) (by show (Value.ref (tq_ad g b) :: .int i :: .ref (tq_ad g a) :: _) = _; rw [tq_ad_lt ha, tq_ad_lt hb']) hd fun H1 e z oq => ?_
  rw [h2] at e ⊢
  refine kk H1 _ ls (tq_J.set hJ hs z oq ?_ (fun b u hb hu h => tq_at.cong (fun j => rfl) (fun j => by simp [tq_uR, hb]) (fun _ _ _ _ => rfl) h)) (tq_locs hq) hl
  show H1[_]? = some (arrV (tq_gA g 2) m (fun q => va_rf ((tq_uR R a j (some b) a q).map (tq_ad g))))
  rw [e, arrV_store]
  congr 2
  funext q
  by_cases hq : q = j
  · subst hq; simp [updV, tq_uR, va_rf, tq_ad_lt hb']
  · simp [updV, tq_uR, hq]
/-! the long field of class 12 -/
theorem EV_putl (C : tq_C g μ x) {own idx j pl a : Nat} {v : Int64} (hown : tq_cn own = μ.1.cls) (hf : (own, idx, 12, j, pl) ∈ tq_fl) (hd : decode μ.2.1 pc = .ok (.putfield idx, 3)) (hs : sh[a]? = some (.inl 12)) (hone : ∀ b, b ≠ a → sh[b]? ≠ some (.inl 12)) (hfin : (tq_T 12 j).2.2.2 = false) (hty : tq_ty 12 j = .long) (hot : ∀ i, i ≠ j → tq_ty 12 i ≠ .long) (hshape : ∀ (b c : Nat), sh[b]? = some (.inl c) → c < 13) (hlong : ∀ (c i : Nat), c < 12 → tq_ty c i ≠ .long)
    (kk : EV g μ x k n (pc + 3) lv st sh R I v) : EV g μ x k n pc lv (.long v :: .ref a :: st) sh R I J := by
  refine EV_put0 C hown (Or.inl hf) hd hs (Or.inl hfin) (v := .long v) (R' := R) (I' := I) (J' := v) ?_ ?_ ?_ ?_ ?_ kk
  · rw [hty]; rfl
  · rw [hty]; rfl
  · rw [hty]; rfl
  · intro i hi
    have := hot i hi
    unfold tq_av
    cases h : tq_ty 12 i <;> simp_all
  · intro b u H hb hu h
    refine tq_at.cong (fun j => rfl) (fun j => rfl) ?_ h
    intro c hc i hi
    subst hc
    have h13 := hshape b c hu
    have hne : c ≠ 12 := fun e => hone b hb (by rw [hu, e])
    exact absurd hi (hlong c i (by omega))
/-! the constructor of Object -/
theorem tq_objw : .instanceMethod objectInit ∈ tq_ws ∧ .code objectInit ⟨#[0xb1]⟩ 1 none ∈ tq_ws := ⟨tq_anyin (by decide +kernel) rfl, tq_anyin (by decide +kernel) rfl⟩
theorem EV_obj (C : tq_C g μ x) {d mc0 ms0 : Nat} (hR : tq_ht x d mc0 ms0) {own idx pl a : Nat} (hown : tq_cn own = μ.1.cls) (hl0 : (own, idx, objectInit, pl) ∈ tq_ml) (hd : decode μ.2.1 pc = .ok (.invokespecial idx, 3)) (hh : 1 ≤ d) (hw : (st.map fun v => v.category).sum ≤ 8) (kk : EV g μ x k n (pc + 3) lv st sh R I J) : EV g μ x k n pc lv (.ref a :: st) sh R I J := by
  intro H locs ls hJ hq hl
  have hts := C.2.2.2.2.2.2.2.1
  have hlw := hts _ (tq_mlin hl0)
  rw [hown] at hlw
  refine W.objInit C.1 C.2.1 C.2.2.2.2.2.2.1 hlw (hts _ tq_objw.1) (hts _ tq_objw.2) rfl (by rw [C.2.2.1]; exact hl.1) (a := tq_ad g a) (rest := st.map (tq_v g)) rfl hd (by rw [hR.1]; exact hh) ?_ (kk H locs ls hJ hq hl)
  show 2 * 0 + ((st.map (tq_v g)).map fun v => v.category).sum + 12 ≤ _
  have := hR.2.1
  rw [tq_cats]
  omega
/-! Math -/
theorem tq_mthw : .static Lib.Math.max.name ∈ tq_ws ∧ .static Lib.Math.min.name ∈ tq_ws ∧ .static Lib.Math.abs.name ∈ tq_ws ∧ .initialized "java/lang/Math" ∈ tq_ws ∧ .code Lib.Math.max.name Lib.Math.max.code 2 (some .int) ∈ tq_ws ∧ .code Lib.Math.min.name Lib.Math.min.code 2 (some .int) ∈ tq_ws ∧ .code Lib.Math.abs.name Lib.Math.abs.code 1 (some .int) ∈ tq_ws :=
  ⟨tq_anyin (by decide +kernel) rfl, tq_anyin (by decide +kernel) rfl, tq_anyin (by decide +kernel) rfl, tq_anyin (by decide +kernel) rfl, tq_anyin (by decide +kernel) rfl, tq_anyin (by decide +kernel) rfl, tq_anyin (by decide +kernel) rfl⟩
theorem EV_max (C : tq_C g μ x) {d mc0 ms0 : Nat} (hR : tq_ht x d mc0 ms0) {own idx pl : Nat} {u v : Int32} (hown : tq_cn own = μ.1.cls) (hl0 : (own, idx, Lib.Math.max.name, pl) ∈ tq_ml) (hd : decode μ.2.1 pc = .ok (.invokestatic idx, 3)) (hh : 1 ≤ d) (hw : (st.map fun v => v.category).sum ≤ 8) (hc : k ≤ mc0) (hs : n ≤ ms0) (kk : EV g μ x k n (pc + 3) lv (.int (if u < v then v else u) :: st) sh R I J) : EV g μ x k n pc lv (.int v :: .int u :: st) sh R I J := by
  intro H locs ls hJ hq hl
  have hts := C.2.2.2.2.2.2.2.1
  have hlw := hts _ (tq_mlin hl0)
  rw [hown] at hlw
  have h40 := hR.2.1
  exact va_mmax C.1 C.2.1 (by rw [C.2.2.1]; exact hl.1.symm) C.2.2.2.2.2.2.1 hlw (hts _ tq_mthw.1) (hts _ tq_mthw.2.2.2.1) (hts _ tq_mthw.2.2.2.2.1) (by rw [hR.1]; exact hh) (by rw [tq_cats]; omega) (by rw [hR.2.2.1]; exact hc) (by rw [hR.2.2.2]; exact hs) hd (kk H locs ls hJ hq hl)
theorem EV_min (C : tq_C g μ x) {d mc0 ms0 : Nat} (hR : tq_ht x d mc0 ms0) {own idx pl : Nat} {u v : Int32} (hown : tq_cn own = μ.1.cls) (hl0 : (own, idx, Lib.Math.min.name, pl) ∈ tq_ml) (hd : decode μ.2.1 pc = .ok (.invokestatic idx, 3)) (hh : 1 ≤ d) (hw : (st.map fun v => v.category).sum ≤ 8) (hc : k ≤ mc0) (hs : n ≤ ms0) (kk : EV g μ x k n (pc + 3) lv (.int (if v < u then v else u) :: st) sh R I J) : EV g μ x k n pc lv (.int v :: .int u :: st) sh R I J := by
  intro H locs ls hJ hq hl
  have hts := C.2.2.2.2.2.2.2.1
  have hlw := hts _ (tq_mlin hl0)
  rw [hown] at hlw
  have h40 := hR.2.1
  exact va_mmin C.1 C.2.1 (by rw [C.2.2.1]; exact hl.1.symm) C.2.2.2.2.2.2.1 hlw (hts _ tq_mthw.2.1) (hts _ tq_mthw.2.2.2.1) (hts _ tq_mthw.2.2.2.2.2.1) (by rw [hR.1]; exact hh) (by rw [tq_cats]; omega) (by rw [hR.2.2.1]; exact hc) (by rw [hR.2.2.2]; exact hs) hd (kk H locs ls hJ hq hl)
theorem EV_abs (C : tq_C g μ x) {d mc0 ms0 : Nat} (hR : tq_ht x d mc0 ms0) {own idx pl : Nat} {u : Int32} (hown : tq_cn own = μ.1.cls) (hl0 : (own, idx, Lib.Math.abs.name, pl) ∈ tq_ml) (hd : decode μ.2.1 pc = .ok (.invokestatic idx, 3)) (hh : 1 ≤ d) (hw : (st.map fun v => v.category).sum ≤ 8) (hc : k ≤ mc0) (hs : n ≤ ms0) (kk : EV g μ x k n (pc + 3) lv (.int (if 0 ≤ u then u else 0 - u) :: st) sh R I J) : EV g μ x k n pc lv (.int u :: st) sh R I J := by
  intro H locs ls hJ hq hl
  have hts := C.2.2.2.2.2.2.2.1
  have hlw := hts _ (tq_mlin hl0)
  rw [hown] at hlw
  have h40 := hR.2.1
  exact va_mabs C.1 C.2.1 (by rw [C.2.2.1]; exact hl.1.symm) C.2.2.2.2.2.2.1 hlw (hts _ tq_mthw.2.2.1) (hts _ tq_mthw.2.2.2.1) (hts _ tq_mthw.2.2.2.2.2.2) (by rw [hR.1]; exact hh) (by rw [tq_cats]; omega) (by rw [hR.2.2.1]; exact hc) (by rw [hR.2.2.2]; exact hs) hd (kk H locs ls hJ hq hl)
end TQ5
end
section
/-! System.arraycopy between int rows -/
def tq_cp (I : tq_I) (a sp b dp n : Nat) : tq_I := fun c j => if c = b ∧ dp ≤ j ∧ j < dp + n then I a (sp + (j - dp)) else I c j
theorem tq_cpyw : .native arraycopyName ∈ tq_ws ∧ .static arraycopyName ∈ tq_ws ∧ .initialized "java/lang/System" ∈ tq_ws := ⟨tq_anyin (by decide +kernel) rfl, tq_anyin (by decide +kernel) rfl, tq_anyin (by decide +kernel) rfl⟩
section TQ6
variable {g : tq_G} {μ : tq_M} {x : tq_X} {k n pc : Nat} {lv : List (Option Value)} {st : List Value} {sh : List tq_S} {R : tq_R} {I : tq_I} {J : Int64}
theorem EV_copy (C : tq_C g μ x) {d mc0 ms0 : Nat} (hR : tq_ht x d mc0 ms0) {own idx pl a b ma mb : Nat} {sp dp z : Int32} {sp' dp' z' : Nat} (hown : tq_cn own = μ.1.cls) (hl0 : (own, idx, arraycopyName, pl) ∈ tq_ml) (hd : decode μ.2.1 pc = .ok (.invokestatic idx, 3)) (hh : 2 ≤ d) (hw : (st.map fun v => v.category).sum ≤ 8)
    (ha : sh[a]? = some (.inr (0, ma))) (hb : sh[b]? = some (.inr (0, mb))) (h1 : sp.toInt = (sp' : Int)) (h2 : dp.toInt = (dp' : Int)) (h3 : z.toInt = (z' : Int)) (h4 : sp' + z' ≤ ma) (h5 : dp' + z' ≤ mb)
    (kk : EV g μ x k n (pc + 3) lv st sh R (tq_cp I a sp' b dp' z') J) : EV g μ x k n pc lv (.int z :: .int dp :: .ref b :: .int sp :: .ref a :: st) sh R I J := by
  intro H locs ls hJ hq hl
  have hts := C.2.2.2.2.2.2.2.1
  have hlw := hts _ (tq_mlin hl0)
  rw [hown] at hlw
  have hK := C.2.2.2.2.2.2.2.2.1
  have ha' : a < 1000 := Nat.lt_of_lt_of_le ((List.getElem?_eq_some_iff.mp ha).1) hJ.2.1
  have hb' : b < 1000 := Nat.lt_of_lt_of_le ((List.getElem?_eq_some_iff.mp hb).1) hJ.2.1
  have hc0 : H[tq_gs g + a]? = some (vp_cell (tq_gA g 0) (ma, .inl (I a))) := hJ.2.2.1 a _ ha
  have hc1 : H[tq_gs g + b]? = some (vp_cell (tq_gA g 0) (mb, .inl (I b))) := hJ.2.2.1 b _ hb
  obtain ⟨-, k0, hk0, cm0, hkk0⟩ := (hK.2 0 (tq_gA g 0, .int) rfl).1 ma (fun j => .int (I a j))
  obtain ⟨-, k1, hk1, cm1, hkk1⟩ := (hK.2 0 (tq_gA g 0, .int) rfl).1 mb (fun j => .int (I b j))
  obtain ⟨n1, e1⟩ := tq_in (m := sp' + 1) h1 (Nat.lt_succ_self _)
  obtain ⟨n2, e2⟩ := tq_in (m := dp' + 1) h2 (Nat.lt_succ_self _)
  obtain ⟨n3, e3⟩ := tq_in (m := z' + 1) h3 (Nat.lt_succ_self _)
  have h40 := hR.2.1
  have hnf : nativeFrameWords "java/lang/System" "arraycopy" 5 ≤ 40 := by decide
  have hnw : 2 * 0 + ((st.map (tq_v g)).map fun v => v.category).sum + (nativeFrameWords "java/lang/System" "arraycopy" 5 + 11) ≤ (tq_xR x).locals := by
    rw [tq_cats]
    omega
  intro T hT X
  obtain ⟨vm', X', step⟩ := X.arraycopy C.1 C.2.2.2.2.2.2.1 hlw (hts _ tq_cpyw.1) (hts _ tq_cpyw.2.1) (hts _ tq_cpyw.2.2) (src := tq_gs g + a) (dst := tq_gs g + b) (cs := vp_cell (tq_gA g 0) (ma, .inl (I a))) (cd := vp_cell (tq_gA g 0) (mb, .inl (I b))) (srcPos := sp) (destPos := dp) (n := z) (by rw [hT]; exact hc0) (by rw [hT]; exact hc1)
    (fun _ h => by cases h) (fun _ h => by cases h) (fun h => by cases h) (fun h => by cases h) hk0 hk1 hkk0 hkk1 (by simp [refKind]) (fun h => n1 (Or.inl h)) (fun h => n2 (Or.inl h)) (fun h => n3 (Or.inl h))
    (by rw [h1, h3]; show ¬ _ > ((arrV (tq_gA g 0) ma (fun j => .int (I a j))).slots.size : Int); rw [arrV_size]; omega)
    (by rw [h2, h3]; show ¬ _ > ((arrV (tq_gA g 0) mb (fun j => .int (I b j))).slots.size : Int); rw [arrV_size]; omega)
    (fun vm₁ _ i hi => by
      have e : (vp_cell (tq_gA g 0) (ma, .inl (I a))).slots.getD (sp.toNatClampNeg + i) .null = .int (I a (sp.toNatClampNeg + i)) := by
        show (arrV (tq_gA g 0) ma (fun j => .int (I a j))).slots.getD _ _ = _
        rw [Array.getD_eq_getD_getElem?, arrV_read _ _ (by omega)]
        rfl
      refine ⟨?_, ?_⟩
      · rw [e]
        rfl
      · rw [e]
        exact trivial)
    (g := F0 (tq_xm x) pc ls (.int z :: .int dp :: .ref (tq_gs g + b) :: .int sp :: .ref (tq_gs g + a) :: st.map (tq_v g))) rfl (by rw [C.2.2.1]; exact hl.1) (rest := st.map (tq_v g)) rfl (by rw [C.2.1]; exact hd) (by rw [hR.1]; omega) hnw
  have ec : copied (vp_cell (tq_gA g 0) (ma, .inl (I a))) (vp_cell (tq_gA g 0) (mb, .inl (I b))) sp dp z = vp_cell (tq_gA g 0) (mb, .inl (va_cpy (I a) (I b) sp.toNatClampNeg dp.toNatClampNeg z.toNatClampNeg)) := va_copied (fun z => .int z) (tq_gA g 0) (tq_gA g 0) (I a) (I b) (by rw [e1, e3]; exact h4)
  rw [ec, e1, e2, e3] at X' step
  have hlb : tq_gs g + b < H.size := (Array.getElem?_eq_some_iff.mp hc1).1
  generalize hcell : vp_cell (tq_gA g 0) (mb, .inl (va_cpy (I a) (I b) sp' dp' z')) = cell at X' step
  have hheap : ((T.setVm vm').setCell (tq_gs g + b) cell).heap = H.setIfInBounds (tq_gs g + b) cell := by rw [← hT]; rfl
  have oq : ∀ q : Nat, q ≠ tq_gs g + b → (H.setIfInBounds (tq_gs g + b) cell)[q]? = H[q]? := fun q hq => by simp [Array.getElem?_setIfInBounds, Ne.symm hq]
  have hat : tq_at g R (tq_cp I a sp' b dp' z') J (.inr (0, mb)) b (H.setIfInBounds (tq_gs g + b) cell) := by
    show (H.setIfInBounds (tq_gs g + b) cell)[_]? = some (arrV (tq_gA g 0) mb (fun j => .int (tq_cp I a sp' b dp' z' b j)))
    rw [Array.getElem?_setIfInBounds, if_pos rfl, if_pos hlb, ← hcell, vp_cell_i]
    congr 2
    funext q
    simp only [va_cpy, tq_cp, true_and]
  have hJ1 : tq_J g sh R (tq_cp I a sp' b dp' z') J (H.setIfInBounds (tq_gs g + b) cell) := tq_J.set hJ hb (by simp) oq hat (fun e u he hu h => tq_at.cong (fun j => by simp [tq_cp, he]) (fun j => rfl) (fun _ _ _ _ => rfl) h)
  obtain ⟨t, a1, b1⟩ := kk _ _ ls hJ1 (fun q hq' => by
      rcases List.mem_append.mp hq' with h | h
      · exact hq q h
      · obtain ⟨w, -, hw⟩ := List.mem_map.mp h
        rw [← hw]
        exact Nat.le_add_right _ _) hl _ hheap X'
  refine ⟨t, ?_, b1⟩
  have es : (Value.int z :: .int dp :: .ref b :: .int sp :: .ref a :: st).map (tq_v g) = .int z :: .int dp :: .ref (tq_gs g + b) :: .int sp :: .ref (tq_gs g + a) :: st.map (tq_v g) := by
    show Value.int z :: .int dp :: .ref (tq_ad g b) :: .int sp :: .ref (tq_ad g a) :: _ = _
    rw [tq_ad_lt ha', tq_ad_lt hb']
  rw [es]
  exact step t a1
end TQ6
end
section
/-! the layout of the cells, in the order in which they are made -/
def tq_SC : List tq_S := [.inl 11, .inl 8, .inl 3, .inr (0, 121), .inr (0, 100), .inl 6, .inr (0, 6), .inr (0, 6), .inr (0, 6), .inl 10, .inr (0, 6), .inr (0, 96), .inl 1, .inr (0, 100), .inr (0, 700), .inr (0, 100), .inr (0, 100), .inl 2, .inr (2, 5), .inl 8, .inl 3, .inr (0, 121), .inr (0, 100), .inl 6, .inr (0, 6), .inr (0, 6), .inr (0, 6), .inl 10, .inr (0, 6), .inr (0, 96), .inl 1, .inr (0, 100), .inr (0, 700), .inr (0, 100), .inr (0, 100), .inl 8, .inl 3, .inr (0, 121), .inr (0, 100), .inl 6, .inr (0, 6), .inr (0, 6), .inr (0, 6), .inl 10, .inr (0, 6), .inr (0, 96), .inl 1, .inr (0, 100), .inr (0, 700), .inr (0, 100), .inr (0, 100), .inl 8, .inl 3, .inr (0, 121), .inr (0, 100), .inl 6, .inr (0, 6), .inr (0, 6), .inr (0, 6), .inl 10, .inr (0, 6), .inr (0, 96), .inl 1, .inr (0, 100), .inr (0, 700), .inr (0, 100), .inr (0, 100), .inl 8, .inl 3, .inr (0, 121), .inr (0, 100), .inl 6, .inr (0, 6), .inr (0, 6), .inr (0, 6), .inl 10, .inr (0, 6), .inr (0, 96), .inl 1, .inr (0, 100), .inr (0, 700), .inr (0, 100), .inr (0, 100), .inl 8, .inl 3, .inr (0, 121), .inr (0, 100), .inl 6, .inr (0, 6), .inr (0, 6), .inr (0, 6), .inl 10, .inr (0, 6), .inr (0, 96), .inl 1, .inr (0, 100), .inr (0, 700), .inr (0, 100), .inr (0, 100), .inl 5, .inr (0, 121), .inr (0, 121), .inl 7, .inr (0, 4), .inr (0, 4), .inr (0, 4), .inr (0, 7), .inl 9, .inr (0, 384), .inr (0, 384), .inr (0, 384), .inl 0, .inr (0, 150), .inl 0, .inr (0, 150), .inl 4, .inr (0, 121)]
def tq_SR : List tq_S := [.inl 12, .inr (0, 8058), .inr (0, 150), .inr (0, 150), .inr (1, 121), .inr (0, 8), .inr (0, 8), .inr (0, 5), .inr (0, 4), .inr (0, 4), .inr (0, 16), .inr (0, 800), .inr (0, 800), .inr (0, 121)]
def tq_rt : List (List (Option Nat)) := [[some 1, some 17, some 99, some 102, some 107, some 111, some 113, some 115], [some 2, some 5, some 12], [none, none, some 3, some 4], [], [], [some 6, some 7, some 8, some 9], [], [], [], [some 10, some 11], [], [], [some 13, some 14, some 15, some 16], [], [], [], [], [some 18], [some 19, some 35, some 51, some 67, some 83], [some 20, some 23, some 30], [none, none, some 21, some 22], [], [], [some 24, some 25, some 26, some 27], [], [], [], [some 28, some 29], [], [], [some 31, some 32, some 33, some 34], [], [], [], [], [some 36, some 39, some 46], [none, none, some 37, some 38], [], [], [some 40, some 41, some 42, some 43], [], [], [], [some 44, some 45], [], [], [some 47, some 48, some 49, some 50], [], [], [], [], [some 52, some 55, some 62], [none, none, some 53, some 54], [], [], [some 56, some 57, some 58, some 59], [], [], [], [some 60, some 61], [], [], [some 63, some 64, some 65, some 66], [], [], [], [], [some 68, some 71, some 78], [none, none, some 69, some 70], [], [], [some 72, some 73, some 74, some 75], [], [], [], [some 76, some 77], [], [], [some 79, some 80, some 81, some 82], [], [], [], [], [some 84, some 87, some 94], [none, none, some 85, some 86], [], [], [some 88, some 89, some 90, some 91], [], [], [], [some 92, some 93], [], [], [some 95, some 96, some 97, some 98], [], [], [], [], [some 100, some 101], [], [], [some 103, some 104, some 105, none, some 106], [], [], [], [], [some 108, some 109, some 110], [], [], [], [some 112], [], [some 114], [], [some 116], [], [some 118, none, some 119, none, some 120, none, some 121, some 122, some 123, some 124, none, some 125, some 126, none, some 127, none, some 128, some 129, none, none, some 130, none, none, none, none, none], [], [], [], [], [], [], [], [], [], [], [], [], []]
def tq_RR : tq_R := fun a k => ((tq_rt[a]?).getD [])[k]?.getD none
/-! numbers -/
theorem tq_mul (a b : Nat) : nI a * nI b = nI (a * b) := by
  unfold nI
  exact (Int32.ofNat_mul a b).symm
theorem tq_sub_nI {a b : Nat} (h : b ≤ a) : nI a - nI b = nI (a - b) := by
  have e : nI a = nI (a - b) + nI b := by rw [nI_add, Nat.sub_add_cancel h]
  rw [e, Int32.add_sub_cancel]
theorem tq_toI {i : Int32} (j : Nat) (h : i = nI j) (hj : j < 2 ^ 31) : i.toInt = (j : Int) := by rw [h]; exact nI_toInt hj
theorem tq_eqI {a : Int32} {j : Nat} (h : a.toInt = (j : Int)) (hj : j < 2 ^ 31) : a = nI j := Int32.toInt_inj.mp (by rw [h, nI_toInt hj])
theorem tq_div_nI {a b : Nat} (ha : a < 2 ^ 31) (hb : b < 2 ^ 31) : nI a / nI b = nI (a / b) := by
  refine tq_eqI ?_ (Nat.lt_of_le_of_lt (Nat.div_le_self a b) ha)
  rw [Int32.toInt_div_of_ne_left, nI_toInt ha, nI_toInt hb]
  · rw [← Int.ofNat_tdiv]
  · intro h
    have := congrArg Int32.toInt h
    rw [nI_toInt ha] at this
    have e : (Int32.minValue).toInt = -2147483648 := by decide
    omega
theorem tq_rem_nI {a b : Nat} (ha : a < 2 ^ 31) (hb : b < 2 ^ 31) : tq_rem (nI a) (nI b) = nI (a % b) := by
  unfold tq_rem
  have h := Nat.div_add_mod a b
  have hm : b * (a / b) = a / b * b := Nat.mul_comm _ _
  rw [tq_div_nI ha hb, tq_mul, tq_sub_nI (by omega)]
  congr 1
  omega
/-- a truth as an int -/
def tq_b (p : Prop) [Decidable p] : Int32 := if p then 1 else 0
theorem tq_b0 {p : Prop} [Decidable p] : tq_b p = 0 ↔ ¬ p := by
  unfold tq_b
  by_cases h : p <;> simp [h]
theorem tq_b1 {p : Prop} [Decidable p] : tq_b p = 1 ↔ p := by
  unfold tq_b
  by_cases h : p <;> simp [h]
theorem tq_b01 {p : Prop} [Decidable p] : tq_b p = 0 ∨ tq_b p = 1 := by
  unfold tq_b
  by_cases h : p <;> simp [h]
theorem tq_bt {p : Prop} [Decidable p] (h : p) : tq_b p = 1 := if_pos h
theorem tq_bf {p : Prop} [Decidable p] (h : ¬ p) : tq_b p = 0 := if_neg h
/-! contracts that say the answer and the stores outright -/
def tq_ret (sh : List tq_S) (R : tq_R) (r : Option Value) (I : tq_I) (J : Int64) : tq_Q := fun r' sh' R' I' J' => r' = r ∧ sh' = sh ∧ R' = R ∧ I' = I ∧ J' = J
section TQ7
variable {g : tq_G} {μ : tq_M} {x : tq_X} {k n pc : Nat} {lv : List (Option Value)} {st : List Value} {sh : List tq_S} {R : tq_R} {I I' : tq_I} {J J' : Int64}
theorem EV_cS (C : tq_C g μ x) {d mc0 ms0 : Nat} (hR : tq_ht x d mc0 ms0) {μ' : tq_M} {own idx N d' : Nat} {av rest : List Value} {r : Option Value} (hown : tq_cn own = μ.1.cls) (hl : tq_lk own idx μ'.1) (hm : tq_mok μ' N) (hs : tq_stat μ') (ct : CT g μ' d' 0 0 av sh R I J (tq_ret sh R r I' J')) (hd : decode μ.2.1 pc = .ok (.invokestatic idx, 3)) (hN : av.length = N) (hh : d' + 1 ≤ d) (hw : (rest.map fun v => v.category).sum ≤ 8)
    {st0 : List Value} (hst : st0 = av.reverse ++ rest) (hc : k ≤ mc0 ∧ n ≤ ms0) (kk : EV g μ x k n (pc + 3) lv (r.toList ++ rest) sh R I' J') : EV g μ x k n pc lv st0 sh R I J :=
  EV_callS C hR hown hl hm hs ct hd hN hh hw hc hst (fun r1 sh1 R1 I1 J1 h => by obtain ⟨rfl, rfl, rfl, rfl, rfl⟩ := h; exact kk)
theorem EV_cV (C : tq_C g μ x) {d mc0 ms0 : Nat} (hR : tq_ht x d mc0 ms0) {μ' : tq_M} {own idx N d' b cb : Nat} {av rest : List Value} {r : Option Value} (hown : tq_cn own = μ.1.cls) (hl : tq_lk own idx μ'.1) (hm : tq_mok μ' N) (hs : tq_inst μ') (ct : CT g μ' d' 0 0 (.ref b :: av) sh R I J (tq_ret sh R r I' J')) (hb : sh[b]? = some (.inl cb)) (hcb : (tq_cl[cb]?).map (fun q => q.1) = some μ'.1.cls) (hd : decode μ.2.1 pc = .ok (.invokevirtual idx, 3)) (hN : av.length = N) (hh : d' + 1 ≤ d) (hw : (rest.map fun v => v.category).sum ≤ 8)
    {st0 : List Value} (hst : st0 = av.reverse ++ .ref b :: rest) (hc : k ≤ mc0 ∧ n ≤ ms0) (kk : EV g μ x k n (pc + 3) lv (r.toList ++ rest) sh R I' J') : EV g μ x k n pc lv st0 sh R I J :=
  EV_callV C hR hown hl hm hs ct hb hcb hd hN hh hw hc hst (fun r1 sh1 R1 I1 J1 h => by obtain ⟨rfl, rfl, rfl, rfl, rfl⟩ := h; exact kk)
end TQ7
theorem CT.ret {g : tq_G} {μ : tq_M} {d N : Nat} {av : List Value} {sh : List tq_S} {R : tq_R} {I I' : tq_I} {J J' : Int64} {r : Option Value} (hm : tq_mok μ N) (hl : (tq_en av).length ≤ μ.2.2.1)
    (body : ∀ x : tq_X, tq_C g μ x → tq_ht x d 0 0 → tq_end g x (tq_ret sh R r I' J') 0 0 → EV g μ x 0 0 0 (tq_en av) [] sh R I J) : CT g μ d 0 0 av sh R I J (tq_ret sh R r I' J') :=
  CT.of hm hl (fun x C hR hZ => body x C (tq_ht.of hR) hZ)
/-- the locals, lengthened -/
theorem EV_lv {g : tq_G} {μ : tq_M} {x : tq_X} {k n pc : Nat} {lv lv' : List (Option Value)} {st : List Value} {sh : List tq_S} {R : tq_R} {I : tq_I} {J : Int64} (h : ∀ (i : Nat) (v : Value), lv'[i]? = some (some v) → lv[i]? = some (some v)) (kk : EV g μ x k n pc lv' st sh R I J) : EV g μ x k n pc lv st sh R I J :=
  fun H locs ls hJ hq hl => kk H locs ls hJ hq ⟨hl.1, hl.2.1, fun i v hv => hl.2.2 i v (h i v hv)⟩
theorem tq_pad (lv : List (Option Value)) (n : Nat) : ∀ (i : Nat) (v : Value), (lv ++ List.replicate n none)[i]? = some (some v) → lv[i]? = some (some v) := by
  intro i v h
  by_cases hl : i < lv.length
  · rwa [List.getElem?_append_left hl] at h
  · rw [List.getElem?_append_right (by omega), List.getElem?_replicate] at h
    split at h <;> cases h
theorem tq_r0 {p : Prop} [Decidable p] (h : ¬ p) : some (Value.int (nI 0)) = some (.int (tq_b p)) := by rw [tq_bf h]; rfl
theorem tq_r1 {p : Prop} [Decidable p] (h : p) : some (Value.int (nI 1)) = some (.int (tq_b p)) := by rw [tq_bt h]; rfl
theorem tq_some {a b : Int32} (h : a = b) : some (Value.int a) = some (.int b) := by rw [h]
theorem EV_en {g : tq_G} {μ : tq_M} {x : tq_X} {k n pc : Nat} {lv lv' : List (Option Value)} {st : List Value} {sh : List tq_S} {R : tq_R} {I : tq_I} {J : Int64} (z : Nat) (h : lv ++ List.replicate z none = lv') (kk : EV g μ x k n pc lv' st sh R I J) : EV g μ x k n pc lv st sh R I J := by
  subst h
  exact EV_lv (tq_pad lv z) kk
/-- n rounds of a loop, from i on -/
def tq_it {α : Type} (f : Nat → α → α) : Nat → Nat → α → α
  | 0, _, a => a
  | n + 1, i, a => tq_it f n (i + 1) (f i a)
theorem tq_its {α : Type} (f : Nat → α → α) (n i : Nat) (a : α) : tq_it f (n + 1) i a = tq_it f n (i + 1) (f i a) := rfl
theorem tq_somel {a b : Int64} (h : a = b) : some (Value.long a) = some (.long b) := by rw [h]
/-- fewer locals known -/
def tq_le : List (Option Value) → List (Option Value) → Prop
  | [], _ => True
  | none :: t, _ :: u => tq_le t u
  | none :: t, [] => tq_le t []
  | some v :: t, some w :: u => v = w ∧ tq_le t u
  | some _ :: _, none :: _ => False
  | some _ :: _, [] => False
theorem tq_le_get : ∀ (l u : List (Option Value)), tq_le l u → ∀ (i : Nat) (v : Value), l[i]? = some (some v) → u[i]? = some (some v)
  | [], _, _, i, v, h => by simp at h
  | none :: t, _ :: u, hl, i, v, h => by
    match i, h with
    | 0, h => simp at h
    | i + 1, h => exact tq_le_get t u hl i v (by simpa using h)
  | none :: t, [], hl, i, v, h => by
    match i, h with
    | 0, h => simp at h
    | i + 1, h => exact absurd (tq_le_get t [] hl i v (by simpa using h)) (by simp)
  | some w :: t, some z :: u, hl, i, v, h => by
    obtain ⟨rfl, hl⟩ := hl
    match i, h with
    | 0, h => simpa using h
    | i + 1, h => exact tq_le_get t u hl i v (by simpa using h)
theorem EV_fg {g : tq_G} {μ : tq_M} {x : tq_X} {k n pc : Nat} {lv lv' : List (Option Value)} {st : List Value} {sh : List tq_S} {R : tq_R} {I : tq_I} {J : Int64} (h : tq_le lv' lv) (kk : EV g μ x k n pc lv' st sh R I J) : EV g μ x k n pc lv st sh R I J := EV_lv (tq_le_get lv' lv h) kk
/-- an int as a natural -/
def tq_N (x : Int32) : Nat := x.toInt.toNat
theorem tq_N_nI {n : Nat} (h : n < 2 ^ 31) : tq_N (nI n) = n := by
  unfold tq_N
  rw [nI_toInt h]
  rfl
theorem tq_nIN {x : Int32} (h : 0 ≤ x.toInt) : x = nI (tq_N x) := by
  have h2 : x.toInt < 2 ^ 31 := Int32.toInt_lt x
  exact tq_eqI (by unfold tq_N; omega) (by unfold tq_N; omega)
theorem tq_ix {x y : Int32} (m : Nat) (hx : 0 ≤ x.toInt) (hx2 : x.toInt ≤ 1000) (hy : 0 ≤ y.toInt) (hy2 : y.toInt ≤ 1000) (hm : m ≤ 1000) : (y * nI m + x).toInt = ((tq_N y * m + tq_N x : Nat) : Int) := by
  have e1 := tq_nIN hx
  have e2 := tq_nIN hy
  have h1 : tq_N x ≤ 1000 := by unfold tq_N; omega
  have h2 : tq_N y ≤ 1000 := by unfold tq_N; omega
  have h3 : tq_N y * m ≤ 1000 * 1000 := Nat.mul_le_mul h2 hm
  have e : y * nI m + x = nI (tq_N y * m + tq_N x) := by
    conv => lhs; rw [e1, e2, tq_mul, nI_add]
  rw [e]
  exact nI_toInt (by omega)
theorem tq_inc1 (a : Nat) : nI a - nI 1 + nI 1 = nI (a + 1) - nI 1 := by
  rw [← nI_add a 1, Int32.sub_add_cancel, Int32.add_sub_cancel]
theorem tq_dec1 (a : Nat) : nI a = nI (a + 1) - nI 1 := by
  rw [← nI_add a 1, Int32.add_sub_cancel]
theorem tq_m1 {a : Nat} (h : a < 2 ^ 31) : (nI a - nI 1).toInt = (a : Int) - 1 := by
  match a, h with
  | 0, _ => decide
  | a + 1, h =>
    rw [← tq_dec1, nI_toInt (by omega)]
    omega
theorem tq_itP {α : Type} {f : Nat → α → α} (P : α → Prop) (h : ∀ i a, P a → P (f i a)) : ∀ (n i : Nat) (a : α), P a → P (tq_it f n i a)
  | 0, _, _, ha => ha
  | n + 1, i, a, ha => tq_itP P h n (i + 1) (f i a) (h i a ha)
/-- a loop leaves a cell as it was -/
theorem tq_itF {f : Nat → tq_I → tq_I} {c : Nat} (h : ∀ i a j, f i a c j = a c j) (n i : Nat) (a : tq_I) (j : Nat) : tq_it f n i a c j = a c j := tq_itP (fun b => b c j = a c j) (fun i b hb => by rw [h]; exact hb) n i a rfl
theorem tq_itF2 {α : Type} {f : Nat → α × tq_I → α × tq_I} {c : Nat} (h : ∀ i a j, (f i a).2 c j = a.2 c j) (n i : Nat) (a : α × tq_I) (j : Nat) : (tq_it f n i a).2 c j = a.2 c j := tq_itP (fun b => b.2 c j = a.2 c j) (fun i b hb => by rw [h]; exact hb) n i a rfl
theorem EV_ste {g : tq_G} {μ : tq_M} {x : tq_X} {k n pc : Nat} {lv : List (Option Value)} {st st' : List Value} {sh : List tq_S} {R : tq_R} {I : tq_I} {J : Int64} (h : st = st') (kk : EV g μ x k n pc lv st' sh R I J) : EV g μ x k n pc lv st sh R I J := h ▸ kk
theorem EV_lve {g : tq_G} {μ : tq_M} {x : tq_X} {k n pc : Nat} {lv lv' : List (Option Value)} {st : List Value} {sh : List tq_S} {R : tq_R} {I : tq_I} {J : Int64} (h : lv = lv') (kk : EV g μ x k n pc lv' st sh R I J) : EV g μ x k n pc lv st sh R I J := h ▸ kk
/-- a search: the first round that answers, else d -/
def tq_sr (f : Nat → Option Int32) : Nat → Nat → Int32 → Int32
  | 0, _, d => d
  | n + 1, i, d => match f i with
    | some v => v
    | none => tq_sr f n (i + 1) d
theorem tq_sr_some {f : Nat → Option Int32} {n i : Nat} {d v : Int32} (h : f i = some v) : tq_sr f (n + 1) i d = v := by simp only [tq_sr, h]
theorem tq_sr_none {f : Nat → Option Int32} {n i : Nat} {d : Int32} (h : f i = none) : tq_sr f (n + 1) i d = tq_sr f n (i + 1) d := by simp only [tq_sr, h]
theorem tq_dn {a : Nat} (h : 1 ≤ a) : nI a + (-1) = nI (a - 1) := by
  have e : (-1 : Int32) = - nI 1 := by decide
  rw [e, ← Int32.sub_eq_add_neg, tq_sub_nI h]
end
section
/-! TerrainTiler: its small helpers; Land -/
set_option maxRecDepth 20000 in
theorem c_X11_isWithin (g : tq_G) (rest : List tq_S) (I : tq_I) (J : Int64) (v lo hi : Int32)  : CT g mX11_isWithin 0 0 0 [.int v, .int lo, .int hi] (tq_SC ++ rest) tq_RR I J (tq_ret (tq_SC ++ rest) tq_RR (some (.int (tq_b (lo.toInt ≤ v.toInt ∧ v.toInt ≤ hi.toInt)))) I J) := by
  refine CT.ret kX11_isWithin (Nat.le_of_ble_eq_true rfl) (fun x0 C hR hZ => ?_)
  refine EV_en (lv' := [some (.int v), some (.int lo), some (.int hi)]) 0 rfl ?_
  refine EV_blk (own := 11) C rfl [(.iload_n 0, 0, 0, 0, 0), (.iload_n 1, 0, 0, 0, 0)] (pc' := 2) (by decide +kernel) (lv' := [some (.int v), some (.int lo), some (.int hi)]) (st' := [.int lo, .int v]) (I' := I) (J' := J) rfl ?_
  refine EV_icmp_lt (off := 12) (tgt := 14) C (by decide +kernel) (by decide) (fun h1 => ?_) (fun h1 => ?_)
  · skip
    refine EV_blk (own := 11) C rfl [(.iconst 0, 0, 0, 0, (nI 0))] (pc' := 15) (by decide +kernel) (lv' := [some (.int v), some (.int lo), some (.int hi)]) (st' := [.int (nI 0)]) (I' := I) (J' := J) rfl ?_
    exact EV_zret C hZ rfl (by decide) (by decide +kernel) (Nat.le_refl _) (Nat.le_refl _) ⟨tq_r0 (by simp (disch := omega) only [Int32.lt_iff_toInt_lt, Int32.le_iff_toInt_le, Int32.toInt_zero, nI_toInt] at h1 ⊢; omega), rfl, rfl, rfl, rfl⟩
  · skip
    refine EV_blk (own := 11) C rfl [(.iload_n 0, 0, 0, 0, 0), (.iload_n 2, 0, 0, 0, 0)] (pc' := 7) (by decide +kernel) (lv' := [some (.int v), some (.int lo), some (.int hi)]) (st' := [.int hi, .int v]) (I' := I) (J' := J) rfl ?_
    refine EV_icmp_gt (off := 7) (tgt := 14) C (by decide +kernel) (by decide) (fun h2 => ?_) (fun h2 => ?_)
    · skip
      refine EV_blk (own := 11) C rfl [(.iconst 0, 0, 0, 0, (nI 0))] (pc' := 15) (by decide +kernel) (lv' := [some (.int v), some (.int lo), some (.int hi)]) (st' := [.int (nI 0)]) (I' := I) (J' := J) rfl ?_
      exact EV_zret C hZ rfl (by decide) (by decide +kernel) (Nat.le_refl _) (Nat.le_refl _) ⟨tq_r0 (by simp (disch := omega) only [Int32.lt_iff_toInt_lt, Int32.le_iff_toInt_le, Int32.toInt_zero, nI_toInt] at h1 h2 ⊢; omega), rfl, rfl, rfl, rfl⟩
    · skip
      refine EV_blk (own := 11) C rfl [(.iconst 1, 0, 0, 0, (nI 1)), (.goto 4, 0, 0, 0, 0)] (pc' := 15) (by decide +kernel) (lv' := [some (.int v), some (.int lo), some (.int hi)]) (st' := [.int (nI 1)]) (I' := I) (J' := J) rfl ?_
      exact EV_zret C hZ rfl (by decide) (by decide +kernel) (Nat.le_refl _) (Nat.le_refl _) ⟨tq_r1 (by simp (disch := omega) only [Int32.lt_iff_toInt_lt, Int32.le_iff_toInt_le, Int32.toInt_zero, nI_toInt] at h1 h2 ⊢; omega), rfl, rfl, rfl, rfl⟩
set_option maxRecDepth 20000 in
theorem c_X11_isTerrain (g : tq_G) (rest : List tq_S) (I : tq_I) (J : Int64) (t : Int32)  : CT g mX11_isTerrain 1 0 0 [.int t] (tq_SC ++ rest) tq_RR I J (tq_ret (tq_SC ++ rest) tq_RR (some (.int (tq_b ((nI 0).toInt ≤ t.toInt ∧ t.toInt ≤ (nI 5).toInt)))) I J) := by
  refine CT.ret kX11_isTerrain (Nat.le_of_ble_eq_true rfl) (fun x0 C hR hZ => ?_)
  refine EV_en (lv' := [some (.int t)]) 0 rfl ?_
  refine EV_blk (own := 11) C rfl [(.iload_n 0, 0, 0, 0, 0), (.iconst 0, 0, 0, 0, (nI 0)), (.iconst 5, 0, 0, 0, (nI 5))] (pc' := 3) (by decide +kernel) (lv' := [some (.int t)]) (st' := [.int (nI 5), .int (nI 0), .int t]) (I' := I) (J' := J) rfl ?_
  refine EV_cS (own := 11) (idx := 69) (μ' := mX11_isWithin) (av := [.int t, .int (nI 0), .int (nI 5)]) (rest := []) C hR rfl (Or.inl ⟨400, by decide⟩) kX11_isWithin sX11_isWithin (c_X11_isWithin g rest I J t (nI 0) (nI 5) ) (by decide +kernel) rfl (by decide) (Nat.le_of_ble_eq_true rfl) rfl ⟨Nat.zero_le _, Nat.zero_le _⟩ ?_
  exact EV_zret C hZ rfl tq_b01 (by decide +kernel) (Nat.le_refl _) (Nat.le_refl _) ⟨tq_some rfl, rfl, rfl, rfl, rfl⟩
set_option maxRecDepth 20000 in
theorem c_X11_cellIndex (g : tq_G) (rest : List tq_S) (I : tq_I) (J : Int64) (x y : Nat)  : CT g mX11_cellIndex 0 0 0 [.int (nI x), .int (nI y)] (tq_SC ++ rest) tq_RR I J (tq_ret (tq_SC ++ rest) tq_RR (some (.int (nI (y * 10 + x)))) I J) := by
  refine CT.ret kX11_cellIndex (Nat.le_of_ble_eq_true rfl) (fun x0 C hR hZ => ?_)
  refine EV_en (lv' := [some (.int (nI x)), some (.int (nI y))]) 0 rfl ?_
  refine EV_blk (own := 11) C rfl [(.iload_n 1, 0, 0, 0, 0), (.bipush 10, 0, 0, 0, (nI 10)), (.imul, 0, 0, 0, 0), (.iload_n 0, 0, 0, 0, 0), (.iadd, 0, 0, 0, 0)] (pc' := 6) (by decide +kernel) (lv' := [some (.int (nI x)), some (.int (nI y))]) (st' := [.int (((nI y) * (nI 10)) + (nI x))]) (I' := I) (J' := J) rfl ?_
  exact EV_iret C hZ rfl (by decide +kernel) (Nat.le_refl _) (Nat.le_refl _) ⟨tq_some (by simp only [nI_add, tq_mul]), rfl, rfl, rfl, rfl⟩
set_option maxRecDepth 20000 in
theorem c_X11_cornerIndex (g : tq_G) (rest : List tq_S) (I : tq_I) (J : Int64) (x y : Nat)  : CT g mX11_cornerIndex 0 0 0 [.int (nI x), .int (nI y)] (tq_SC ++ rest) tq_RR I J (tq_ret (tq_SC ++ rest) tq_RR (some (.int (nI (y * 11 + x)))) I J) := by
  refine CT.ret kX11_cornerIndex (Nat.le_of_ble_eq_true rfl) (fun x0 C hR hZ => ?_)
  refine EV_en (lv' := [some (.int (nI x)), some (.int (nI y))]) 0 rfl ?_
  refine EV_blk (own := 11) C rfl [(.iload_n 1, 0, 0, 0, 0), (.bipush 11, 0, 0, 0, (nI 11)), (.imul, 0, 0, 0, 0), (.iload_n 0, 0, 0, 0, 0), (.iadd, 0, 0, 0, 0)] (pc' := 6) (by decide +kernel) (lv' := [some (.int (nI x)), some (.int (nI y))]) (st' := [.int (((nI y) * (nI 11)) + (nI x))]) (I' := I) (J' := J) rfl ?_
  exact EV_iret C hZ rfl (by decide +kernel) (Nat.le_refl _) (Nat.le_refl _) ⟨tq_some (by simp only [nI_add, tq_mul]), rfl, rfl, rfl, rfl⟩
abbrev tq_cell (I : tq_I) (x y : Int32) : Prop := 0 ≤ x.toInt ∧ x.toInt < (I 2 0).toInt ∧ 0 ≤ y.toInt ∧ y.toInt < (I 2 1).toInt
abbrev tq_corner (I : tq_I) (x y : Int32) : Prop := 0 ≤ x.toInt ∧ x.toInt ≤ (I 2 0).toInt ∧ 0 ≤ y.toInt ∧ y.toInt ≤ (I 2 1).toInt
set_option maxRecDepth 20000 in
theorem c_X3_isCell (g : tq_G) (rest : List tq_S) (I : tq_I) (J : Int64) (x y : Int32)  : CT g mX3_isCell 0 0 0 [.ref 2, .int x, .int y] (tq_SC ++ rest) tq_RR I J (tq_ret (tq_SC ++ rest) tq_RR (some (.int (tq_b (tq_cell I x y)))) I J) := by
  refine CT.ret kX3_isCell (Nat.le_of_ble_eq_true rfl) (fun x0 C hR hZ => ?_)
  refine EV_en (lv' := [some (.ref 2), some (.int x), some (.int y)]) 0 rfl ?_
  refine EV_blk (own := 3) C rfl [(.iload_n 1, 0, 0, 0, 0)] (pc' := 1) (by decide +kernel) (lv' := [some (.ref 2), some (.int x), some (.int y)]) (st' := [.int x]) (I' := I) (J' := J) rfl ?_
  refine EV_if_lt (off := 27) (tgt := 28) C (by decide +kernel) (by decide) (fun h1 => ?_) (fun h1 => ?_)
  · skip
    refine EV_blk (own := 3) C rfl [(.iconst 0, 0, 0, 0, (nI 0))] (pc' := 29) (by decide +kernel) (lv' := [some (.ref 2), some (.int x), some (.int y)]) (st' := [.int (nI 0)]) (I' := I) (J' := J) rfl ?_
    exact EV_zret C hZ rfl (by decide) (by decide +kernel) (Nat.le_refl _) (Nat.le_refl _) ⟨tq_r0 (by simp (disch := omega) only [Int32.lt_iff_toInt_lt, Int32.le_iff_toInt_le, Int32.toInt_zero, nI_toInt] at h1 ⊢; omega), rfl, rfl, rfl, rfl⟩
  · skip
    refine EV_blk (own := 3) C rfl [(.iload_n 1, 0, 0, 0, 0), (.aload_n 0, 0, 0, 0, 0), (.getfield 18, 3, 0, 95, 0)] (pc' := 9) (by decide +kernel) (lv' := [some (.ref 2), some (.int x), some (.int y)]) (st' := [.int (I 2 0), .int x]) (I' := I) (J' := J) rfl ?_
    refine EV_icmp_ge (off := 19) (tgt := 28) C (by decide +kernel) (by decide) (fun h2 => ?_) (fun h2 => ?_)
    · skip
      refine EV_blk (own := 3) C rfl [(.iconst 0, 0, 0, 0, (nI 0))] (pc' := 29) (by decide +kernel) (lv' := [some (.ref 2), some (.int x), some (.int y)]) (st' := [.int (nI 0)]) (I' := I) (J' := J) rfl ?_
      exact EV_zret C hZ rfl (by decide) (by decide +kernel) (Nat.le_refl _) (Nat.le_refl _) ⟨tq_r0 (by simp (disch := omega) only [Int32.lt_iff_toInt_lt, Int32.le_iff_toInt_le, Int32.toInt_zero, nI_toInt] at h1 h2 ⊢; omega), rfl, rfl, rfl, rfl⟩
    · skip
      refine EV_blk (own := 3) C rfl [(.iload_n 2, 0, 0, 0, 0)] (pc' := 13) (by decide +kernel) (lv' := [some (.ref 2), some (.int x), some (.int y)]) (st' := [.int y]) (I' := I) (J' := J) rfl ?_
      refine EV_if_lt (off := 15) (tgt := 28) C (by decide +kernel) (by decide) (fun h3 => ?_) (fun h3 => ?_)
      · skip
        refine EV_blk (own := 3) C rfl [(.iconst 0, 0, 0, 0, (nI 0))] (pc' := 29) (by decide +kernel) (lv' := [some (.ref 2), some (.int x), some (.int y)]) (st' := [.int (nI 0)]) (I' := I) (J' := J) rfl ?_
        exact EV_zret C hZ rfl (by decide) (by decide +kernel) (Nat.le_refl _) (Nat.le_refl _) ⟨tq_r0 (by simp (disch := omega) only [Int32.lt_iff_toInt_lt, Int32.le_iff_toInt_le, Int32.toInt_zero, nI_toInt] at h1 h2 h3 ⊢; omega), rfl, rfl, rfl, rfl⟩
      · skip
        refine EV_blk (own := 3) C rfl [(.iload_n 2, 0, 0, 0, 0), (.aload_n 0, 0, 0, 0, 0), (.getfield 22, 3, 1, 99, 0)] (pc' := 21) (by decide +kernel) (lv' := [some (.ref 2), some (.int x), some (.int y)]) (st' := [.int (I 2 1), .int y]) (I' := I) (J' := J) rfl ?_
        refine EV_icmp_ge (off := 7) (tgt := 28) C (by decide +kernel) (by decide) (fun h4 => ?_) (fun h4 => ?_)
        · skip
          refine EV_blk (own := 3) C rfl [(.iconst 0, 0, 0, 0, (nI 0))] (pc' := 29) (by decide +kernel) (lv' := [some (.ref 2), some (.int x), some (.int y)]) (st' := [.int (nI 0)]) (I' := I) (J' := J) rfl ?_
          exact EV_zret C hZ rfl (by decide) (by decide +kernel) (Nat.le_refl _) (Nat.le_refl _) ⟨tq_r0 (by simp (disch := omega) only [Int32.lt_iff_toInt_lt, Int32.le_iff_toInt_le, Int32.toInt_zero, nI_toInt] at h1 h2 h3 h4 ⊢; omega), rfl, rfl, rfl, rfl⟩
        · skip
          refine EV_blk (own := 3) C rfl [(.iconst 1, 0, 0, 0, (nI 1)), (.goto 4, 0, 0, 0, 0)] (pc' := 29) (by decide +kernel) (lv' := [some (.ref 2), some (.int x), some (.int y)]) (st' := [.int (nI 1)]) (I' := I) (J' := J) rfl ?_
          exact EV_zret C hZ rfl (by decide) (by decide +kernel) (Nat.le_refl _) (Nat.le_refl _) ⟨tq_r1 (by simp (disch := omega) only [Int32.lt_iff_toInt_lt, Int32.le_iff_toInt_le, Int32.toInt_zero, nI_toInt] at h1 h2 h3 h4 ⊢; omega), rfl, rfl, rfl, rfl⟩
set_option maxRecDepth 20000 in
theorem c_X3_isCorner (g : tq_G) (rest : List tq_S) (I : tq_I) (J : Int64) (x y : Int32)  : CT g mX3_isCorner 0 0 0 [.ref 2, .int x, .int y] (tq_SC ++ rest) tq_RR I J (tq_ret (tq_SC ++ rest) tq_RR (some (.int (tq_b (tq_corner I x y)))) I J) := by
  refine CT.ret kX3_isCorner (Nat.le_of_ble_eq_true rfl) (fun x0 C hR hZ => ?_)
  refine EV_en (lv' := [some (.ref 2), some (.int x), some (.int y)]) 0 rfl ?_
  refine EV_blk (own := 3) C rfl [(.iload_n 1, 0, 0, 0, 0)] (pc' := 1) (by decide +kernel) (lv' := [some (.ref 2), some (.int x), some (.int y)]) (st' := [.int x]) (I' := I) (J' := J) rfl ?_
  refine EV_if_lt (off := 27) (tgt := 28) C (by decide +kernel) (by decide) (fun h1 => ?_) (fun h1 => ?_)
  · skip
    refine EV_blk (own := 3) C rfl [(.iconst 0, 0, 0, 0, (nI 0))] (pc' := 29) (by decide +kernel) (lv' := [some (.ref 2), some (.int x), some (.int y)]) (st' := [.int (nI 0)]) (I' := I) (J' := J) rfl ?_
    exact EV_zret C hZ rfl (by decide) (by decide +kernel) (Nat.le_refl _) (Nat.le_refl _) ⟨tq_r0 (by simp (disch := omega) only [Int32.lt_iff_toInt_lt, Int32.le_iff_toInt_le, Int32.toInt_zero, nI_toInt] at h1 ⊢; omega), rfl, rfl, rfl, rfl⟩
  · skip
    refine EV_blk (own := 3) C rfl [(.iload_n 1, 0, 0, 0, 0), (.aload_n 0, 0, 0, 0, 0), (.getfield 18, 3, 0, 95, 0)] (pc' := 9) (by decide +kernel) (lv' := [some (.ref 2), some (.int x), some (.int y)]) (st' := [.int (I 2 0), .int x]) (I' := I) (J' := J) rfl ?_
    refine EV_icmp_gt (off := 19) (tgt := 28) C (by decide +kernel) (by decide) (fun h2 => ?_) (fun h2 => ?_)
    · skip
      refine EV_blk (own := 3) C rfl [(.iconst 0, 0, 0, 0, (nI 0))] (pc' := 29) (by decide +kernel) (lv' := [some (.ref 2), some (.int x), some (.int y)]) (st' := [.int (nI 0)]) (I' := I) (J' := J) rfl ?_
      exact EV_zret C hZ rfl (by decide) (by decide +kernel) (Nat.le_refl _) (Nat.le_refl _) ⟨tq_r0 (by simp (disch := omega) only [Int32.lt_iff_toInt_lt, Int32.le_iff_toInt_le, Int32.toInt_zero, nI_toInt] at h1 h2 ⊢; omega), rfl, rfl, rfl, rfl⟩
    · skip
      refine EV_blk (own := 3) C rfl [(.iload_n 2, 0, 0, 0, 0)] (pc' := 13) (by decide +kernel) (lv' := [some (.ref 2), some (.int x), some (.int y)]) (st' := [.int y]) (I' := I) (J' := J) rfl ?_
      refine EV_if_lt (off := 15) (tgt := 28) C (by decide +kernel) (by decide) (fun h3 => ?_) (fun h3 => ?_)
      · skip
        refine EV_blk (own := 3) C rfl [(.iconst 0, 0, 0, 0, (nI 0))] (pc' := 29) (by decide +kernel) (lv' := [some (.ref 2), some (.int x), some (.int y)]) (st' := [.int (nI 0)]) (I' := I) (J' := J) rfl ?_
        exact EV_zret C hZ rfl (by decide) (by decide +kernel) (Nat.le_refl _) (Nat.le_refl _) ⟨tq_r0 (by simp (disch := omega) only [Int32.lt_iff_toInt_lt, Int32.le_iff_toInt_le, Int32.toInt_zero, nI_toInt] at h1 h2 h3 ⊢; omega), rfl, rfl, rfl, rfl⟩
      · skip
        refine EV_blk (own := 3) C rfl [(.iload_n 2, 0, 0, 0, 0), (.aload_n 0, 0, 0, 0, 0), (.getfield 22, 3, 1, 99, 0)] (pc' := 21) (by decide +kernel) (lv' := [some (.ref 2), some (.int x), some (.int y)]) (st' := [.int (I 2 1), .int y]) (I' := I) (J' := J) rfl ?_
        refine EV_icmp_gt (off := 7) (tgt := 28) C (by decide +kernel) (by decide) (fun h4 => ?_) (fun h4 => ?_)
        · skip
          refine EV_blk (own := 3) C rfl [(.iconst 0, 0, 0, 0, (nI 0))] (pc' := 29) (by decide +kernel) (lv' := [some (.ref 2), some (.int x), some (.int y)]) (st' := [.int (nI 0)]) (I' := I) (J' := J) rfl ?_
          exact EV_zret C hZ rfl (by decide) (by decide +kernel) (Nat.le_refl _) (Nat.le_refl _) ⟨tq_r0 (by simp (disch := omega) only [Int32.lt_iff_toInt_lt, Int32.le_iff_toInt_le, Int32.toInt_zero, nI_toInt] at h1 h2 h3 h4 ⊢; omega), rfl, rfl, rfl, rfl⟩
        · skip
          refine EV_blk (own := 3) C rfl [(.iconst 1, 0, 0, 0, (nI 1)), (.goto 4, 0, 0, 0, 0)] (pc' := 29) (by decide +kernel) (lv' := [some (.ref 2), some (.int x), some (.int y)]) (st' := [.int (nI 1)]) (I' := I) (J' := J) rfl ?_
          exact EV_zret C hZ rfl (by decide) (by decide +kernel) (Nat.le_refl _) (Nat.le_refl _) ⟨tq_r1 (by simp (disch := omega) only [Int32.lt_iff_toInt_lt, Int32.le_iff_toInt_le, Int32.toInt_zero, nI_toInt] at h1 h2 h3 h4 ⊢; omega), rfl, rfl, rfl, rfl⟩
set_option maxRecDepth 20000 in
theorem c_X3_terrainAt (g : tq_G) (rest : List tq_S) (I : tq_I) (J : Int64) (x y : Nat) (hx : x ≤ 10) (hy : y ≤ 10) : CT g mX3_terrainAt 1 0 0 [.ref 2, .int (nI x), .int (nI y)] (tq_SC ++ rest) tq_RR I J (tq_ret (tq_SC ++ rest) tq_RR (some (.int (I 3 (y * 11 + x)))) I J) := by
  refine CT.ret kX3_terrainAt (Nat.le_of_ble_eq_true rfl) (fun x0 C hR hZ => ?_)
  refine EV_en (lv' := [some (.ref 2), some (.int (nI x)), some (.int (nI y))]) 0 rfl ?_
  refine EV_blk (own := 3) C rfl [(.aload_n 0, 0, 0, 0, 0), (.getfield 9, 3, 2, 103, 0), (.iload_n 1, 0, 0, 0, 0), (.iload_n 2, 0, 0, 0, 0)] (pc' := 6) (by decide +kernel) (lv' := [some (.ref 2), some (.int (nI x)), some (.int (nI y))]) (st' := [.int (nI y), .int (nI x), .ref 3]) (I' := I) (J' := J) rfl ?_
  refine EV_cS (own := 3) (idx := 31) (μ' := mX11_cornerIndex) (av := [.int (nI x), .int (nI y)]) (rest := [.ref 3]) C hR rfl (Or.inr ⟨458, by decide⟩) kX11_cornerIndex sX11_cornerIndex (c_X11_cornerIndex g rest I J x y ) (by decide +kernel) rfl (by decide) (Nat.le_of_ble_eq_true rfl) rfl ⟨Nat.zero_le _, Nat.zero_le _⟩ ?_
  refine EV_iald (j := (y * 11 + x)) C (by decide +kernel) rfl (nI_toInt (by omega)) (by omega) ?_
  exact EV_iret C hZ rfl (by decide +kernel) (Nat.le_refl _) (Nat.le_refl _) ⟨rfl, rfl, rfl, rfl, rfl⟩
set_option maxRecDepth 20000 in
theorem c_X3_pathAt (g : tq_G) (rest : List tq_S) (I : tq_I) (J : Int64) (x y : Nat) (hx : x ≤ 9) (hy : y ≤ 9) : CT g mX3_pathAt 1 0 0 [.ref 2, .int (nI x), .int (nI y)] (tq_SC ++ rest) tq_RR I J (tq_ret (tq_SC ++ rest) tq_RR (some (.int (I 4 (y * 10 + x)))) I J) := by
  refine CT.ret kX3_pathAt (Nat.le_of_ble_eq_true rfl) (fun x0 C hR hZ => ?_)
  refine EV_en (lv' := [some (.ref 2), some (.int (nI x)), some (.int (nI y))]) 0 rfl ?_
  refine EV_blk (own := 3) C rfl [(.aload_n 0, 0, 0, 0, 0), (.getfield 15, 3, 3, 106, 0), (.iload_n 1, 0, 0, 0, 0), (.iload_n 2, 0, 0, 0, 0)] (pc' := 6) (by decide +kernel) (lv' := [some (.ref 2), some (.int (nI x)), some (.int (nI y))]) (st' := [.int (nI y), .int (nI x), .ref 4]) (I' := I) (J' := J) rfl ?_
  refine EV_cS (own := 3) (idx := 35) (μ' := mX11_cellIndex) (av := [.int (nI x), .int (nI y)]) (rest := [.ref 4]) C hR rfl (Or.inr ⟨445, by decide⟩) kX11_cellIndex sX11_cellIndex (c_X11_cellIndex g rest I J x y ) (by decide +kernel) rfl (by decide) (Nat.le_of_ble_eq_true rfl) rfl ⟨Nat.zero_le _, Nat.zero_le _⟩ ?_
  refine EV_iald (j := (y * 10 + x)) C (by decide +kernel) rfl (nI_toInt (by omega)) (by omega) ?_
  exact EV_iret C hZ rfl (by decide +kernel) (Nat.le_refl _) (Nat.le_refl _) ⟨rfl, rfl, rfl, rfl, rfl⟩
def f_countPaths1 (I : tq_I) (w h : Nat) (y : Nat) (i : Nat) (a : Int32) : Int32 := (a + (I 4 (y * 10 + i)))
set_option maxRecDepth 20000 in
theorem lp_countPaths1 {g : tq_G} {rest : List tq_S} {x0 : tq_X} (C : tq_C g mX3_countPaths x0) (hR : tq_ht x0 2 0 0) (I : tq_I) (J : Int64) (w h : Nat) (y : Nat) (hw : I 2 0 = nI w) (hw10 : w ≤ 10) (hy : y ≤ 9) : ∀ (n i : Nat) (a : Int32), i + n = w → EV g mX3_countPaths x0 0 0 37 [some (.ref 2), some (.int (tq_it (f_countPaths1 I w h y) n i a)), some (.int (nI y)), some (.int (nI (i + n)))] [] (tq_SC ++ rest) tq_RR I J → EV g mX3_countPaths x0 0 0 14 [some (.ref 2), some (.int a), some (.int (nI y)), some (.int (nI i))] [] (tq_SC ++ rest) tq_RR I J := by
  intro n
  induction n with
  | zero =>
    intro i a hi kk
    rw [Nat.add_zero] at kk
    refine EV_blk (own := 3) C rfl [(.iload_n 3, 0, 0, 0, 0), (.aload_n 0, 0, 0, 0, 0), (.getfield 18, 3, 0, 95, 0)] (pc' := 19) (by decide +kernel) (lv' := [some (.ref 2), some (.int a), some (.int (nI y)), some (.int (nI i))]) (st' := [.int (I 2 0), .int (nI i)]) (I' := I) (J' := J) rfl ?_
    refine EV_icmp_ge (off := 18) (tgt := 37) C (by decide +kernel) (by decide) (fun h1 => ?_) (fun h1 => ?_)
    · skip
      exact kk
    · skip
      exact absurd h1 (by simp (disch := omega) only [Int32.lt_iff_toInt_lt, Int32.le_iff_toInt_le, Int32.toInt_zero, nI_toInt, tq_m1, hw]; omega)
  | succ n ih =>
    intro i a hi kk
    rw [show i + (n + 1) = (i + 1) + n by omega] at kk
    refine EV_blk (own := 3) C rfl [(.iload_n 3, 0, 0, 0, 0), (.aload_n 0, 0, 0, 0, 0), (.getfield 18, 3, 0, 95, 0)] (pc' := 19) (by decide +kernel) (lv' := [some (.ref 2), some (.int a), some (.int (nI y)), some (.int (nI i))]) (st' := [.int (I 2 0), .int (nI i)]) (I' := I) (J' := J) rfl ?_
    refine EV_icmp_ge (off := 18) (tgt := 37) C (by decide +kernel) (by decide) (fun h1 => ?_) (fun h1 => ?_)
    · skip
      exact absurd h1 (by simp (disch := omega) only [Int32.lt_iff_toInt_lt, Int32.le_iff_toInt_le, Int32.toInt_zero, nI_toInt, tq_m1, hw]; omega)
    · skip
      refine EV_blk (own := 3) C rfl [(.iload_n 1, 0, 0, 0, 0), (.aload_n 0, 0, 0, 0, 0), (.iload_n 3, 0, 0, 0, 0), (.iload_n 2, 0, 0, 0, 0)] (pc' := 26) (by decide +kernel) (lv' := [some (.ref 2), some (.int a), some (.int (nI y)), some (.int (nI i))]) (st' := [.int (nI y), .int (nI i), .ref 2, .int a]) (I' := I) (J' := J) rfl ?_
      refine EV_cV (own := 3) (idx := 38) (μ' := mX3_pathAt) (b := 2) (cb := 3) (av := [.int (nI i), .int (nI y)]) (rest := [.int a]) C hR rfl (Or.inl ⟨441, by decide⟩) kX3_pathAt sX3_pathAt (c_X3_pathAt g rest I J i y (by omega) (by omega)) rfl rfl (by decide +kernel) rfl (by decide) (Nat.le_of_ble_eq_true rfl) rfl ⟨Nat.zero_le _, Nat.zero_le _⟩ ?_
      refine EV_blk (own := 3) C rfl [(.iadd, 0, 0, 0, 0), (.istore_n 1, 0, 0, 0, 0), (.iinc 3 1, 0, 0, 0, (nI 1)), (.goto (-20), 0, 0, 0, 0)] (pc' := 14) (by decide +kernel) (lv' := [some (.ref 2), some (.int (a + (I 4 (y * 10 + i)))), some (.int (nI y)), some (.int ((nI i) + (nI 1)))]) (st' := []) (I' := I) (J' := J) rfl ?_
      rw [show ((nI i) + (nI 1)) = (nI (i + 1)) from by simp (disch := omega) only [nI_add, tq_mul] <;> exact congrArg nI (by omega)]
      rw [tq_its, show (f_countPaths1 I w h y) i a = (a + (I 4 (y * 10 + i))) from by simp only [f_countPaths1, if_neg h1]] at kk
      exact ih (i + 1) (a + (I 4 (y * 10 + i))) (by omega) kk
def f_countPaths2 (I : tq_I) (w h : Nat) (i : Nat) (a : Int32) : Int32 := (tq_it (f_countPaths1 I w h i) w 0 a)
set_option maxRecDepth 20000 in
theorem lp_countPaths2 {g : tq_G} {rest : List tq_S} {x0 : tq_X} (C : tq_C g mX3_countPaths x0) (hR : tq_ht x0 2 0 0) (I : tq_I) (J : Int64) (w h : Nat) (hw : I 2 0 = nI w) (hh : I 2 1 = nI h) (hw10 : w ≤ 10) (hh10 : h ≤ 10) : ∀ (n i : Nat) (a : Int32), i + n = h → EV g mX3_countPaths x0 0 0 43 [some (.ref 2), some (.int (tq_it (f_countPaths2 I w h) n i a)), some (.int (nI (i + n))), none] [] (tq_SC ++ rest) tq_RR I J → EV g mX3_countPaths x0 0 0 4 [some (.ref 2), some (.int a), some (.int (nI i)), none] [] (tq_SC ++ rest) tq_RR I J := by
  intro n
  induction n with
  | zero =>
    intro i a hi kk
    rw [Nat.add_zero] at kk
    refine EV_blk (own := 3) C rfl [(.iload_n 2, 0, 0, 0, 0), (.aload_n 0, 0, 0, 0, 0), (.getfield 22, 3, 1, 99, 0)] (pc' := 9) (by decide +kernel) (lv' := [some (.ref 2), some (.int a), some (.int (nI i)), none]) (st' := [.int (I 2 1), .int (nI i)]) (I' := I) (J' := J) rfl ?_
    refine EV_icmp_ge (off := 34) (tgt := 43) C (by decide +kernel) (by decide) (fun h1 => ?_) (fun h1 => ?_)
    · skip
      exact kk
    · skip
      exact absurd h1 (by simp (disch := omega) only [Int32.lt_iff_toInt_lt, Int32.le_iff_toInt_le, Int32.toInt_zero, nI_toInt, tq_m1, hh]; omega)
  | succ n ih =>
    intro i a hi kk
    rw [show i + (n + 1) = (i + 1) + n by omega] at kk
    refine EV_blk (own := 3) C rfl [(.iload_n 2, 0, 0, 0, 0), (.aload_n 0, 0, 0, 0, 0), (.getfield 22, 3, 1, 99, 0)] (pc' := 9) (by decide +kernel) (lv' := [some (.ref 2), some (.int a), some (.int (nI i)), none]) (st' := [.int (I 2 1), .int (nI i)]) (I' := I) (J' := J) rfl ?_
    refine EV_icmp_ge (off := 34) (tgt := 43) C (by decide +kernel) (by decide) (fun h1 => ?_) (fun h1 => ?_)
    · skip
      exact absurd h1 (by simp (disch := omega) only [Int32.lt_iff_toInt_lt, Int32.le_iff_toInt_le, Int32.toInt_zero, nI_toInt, tq_m1, hh]; omega)
    · skip
      refine EV_blk (own := 3) C rfl [(.iconst 0, 0, 0, 0, (nI 0)), (.istore_n 3, 0, 0, 0, 0)] (pc' := 14) (by decide +kernel) (lv' := [some (.ref 2), some (.int a), some (.int (nI i)), some (.int (nI 0))]) (st' := []) (I' := I) (J' := J) rfl ?_
      refine lp_countPaths1 C hR I J w h i hw hw10 (by omega) w 0 a (by omega) ?_
      refine EV_blk (own := 3) C rfl [(.iinc 2 1, 0, 0, 0, (nI 1)), (.goto (-36), 0, 0, 0, 0)] (pc' := 4) (by decide +kernel) (lv' := [some (.ref 2), some (.int (tq_it (f_countPaths1 I w h i) w 0 a)), some (.int ((nI i) + (nI 1))), some (.int (nI ((0 + w))))]) (st' := []) (I' := I) (J' := J) rfl ?_
      refine EV_fg (lv' := [some (.ref 2), some (.int (tq_it (f_countPaths1 I w h i) w 0 a)), some (.int ((nI i) + (nI 1))), none]) ⟨rfl, rfl, rfl, trivial⟩ ?_
      rw [show ((nI i) + (nI 1)) = (nI (i + 1)) from by simp (disch := omega) only [nI_add, tq_mul] <;> exact congrArg nI (by omega)]
      rw [tq_its, show (f_countPaths2 I w h) i a = (tq_it (f_countPaths1 I w h i) w 0 a) from by simp only [f_countPaths2, if_neg h1]] at kk
      exact ih (i + 1) (tq_it (f_countPaths1 I w h i) w 0 a) (by omega) kk
def r_X3_countPaths (I : tq_I) (w h : Nat) : Int32 := (tq_it (f_countPaths2 I w h) h 0 (nI 0))
set_option maxRecDepth 20000 in
theorem c_X3_countPaths (g : tq_G) (rest : List tq_S) (I : tq_I) (J : Int64) (w h : Nat) (hw : I 2 0 = nI w) (hh : I 2 1 = nI h) (hw10 : w ≤ 10) (hh10 : h ≤ 10) : CT g mX3_countPaths 2 0 0 [.ref 2] (tq_SC ++ rest) tq_RR I J (tq_ret (tq_SC ++ rest) tq_RR (some (.int (r_X3_countPaths I w h))) I J) := by
  refine CT.ret kX3_countPaths (Nat.le_of_ble_eq_true rfl) (fun x0 C hR hZ => ?_)
  refine EV_en (lv' := [some (.ref 2), none, none, none]) 3 rfl ?_
  refine EV_blk (own := 3) C rfl [(.iconst 0, 0, 0, 0, (nI 0)), (.istore_n 1, 0, 0, 0, 0), (.iconst 0, 0, 0, 0, (nI 0)), (.istore_n 2, 0, 0, 0, 0)] (pc' := 4) (by decide +kernel) (lv' := [some (.ref 2), some (.int (nI 0)), some (.int (nI 0)), none]) (st' := []) (I' := I) (J' := J) rfl ?_
  refine lp_countPaths2 C hR I J w h hw hh hw10 hh10 h 0 (nI 0) (by omega) ?_
  refine EV_blk (own := 3) C rfl [(.iload_n 1, 0, 0, 0, 0)] (pc' := 44) (by decide +kernel) (lv' := [some (.ref 2), some (.int (tq_it (f_countPaths2 I w h) h 0 (nI 0))), some (.int (nI ((0 + h)))), none]) (st' := [.int (tq_it (f_countPaths2 I w h) h 0 (nI 0))]) (I' := I) (J' := J) rfl ?_
  exact EV_iret C hZ rfl (by decide +kernel) (Nat.le_refl _) (Nat.le_refl _) ⟨tq_some (by simp only [r_X3_countPaths]), rfl, rfl, rfl, rfl⟩
set_option maxRecDepth 20000 in
theorem cI_X11_cellIndex (g : tq_G) (rest : List tq_S) (I : tq_I) (J : Int64) (x y : Int32)  : CT g mX11_cellIndex 0 0 0 [.int x, .int y] (tq_SC ++ rest) tq_RR I J (tq_ret (tq_SC ++ rest) tq_RR (some (.int ((y * (nI 10)) + x))) I J) := by
  refine CT.ret kX11_cellIndex (Nat.le_of_ble_eq_true rfl) (fun x0 C hR hZ => ?_)
  refine EV_en (lv' := [some (.int x), some (.int y)]) 0 rfl ?_
  refine EV_blk (own := 11) C rfl [(.iload_n 1, 0, 0, 0, 0), (.bipush 10, 0, 0, 0, (nI 10)), (.imul, 0, 0, 0, 0), (.iload_n 0, 0, 0, 0, 0), (.iadd, 0, 0, 0, 0)] (pc' := 6) (by decide +kernel) (lv' := [some (.int x), some (.int y)]) (st' := [.int ((y * (nI 10)) + x)]) (I' := I) (J' := J) rfl ?_
  exact EV_iret C hZ rfl (by decide +kernel) (Nat.le_refl _) (Nat.le_refl _) ⟨rfl, rfl, rfl, rfl, rfl⟩
def r_X3_leadsTo (I : tq_I) (x y b : Int32) : Int32 := (if (tq_b (tq_cell I x y)) = 0 then b else (if (I 4 (tq_N y * 10 + tq_N x)) = (nI 1) then (nI 1) else (nI 0)))
set_option maxRecDepth 20000 in
theorem c_X3_leadsTo (g : tq_G) (rest : List tq_S) (I : tq_I) (J : Int64) (x y b : Int32) (hw10 : (I 2 0).toInt ≤ 10) (hh10 : (I 2 1).toInt ≤ 10) (hb : b = 0 ∨ b = 1) : CT g mX3_leadsTo 1 0 0 [.ref 2, .int x, .int y, .int b] (tq_SC ++ rest) tq_RR I J (tq_ret (tq_SC ++ rest) tq_RR (some (.int (r_X3_leadsTo I x y b))) I J) := by
  refine CT.ret kX3_leadsTo (Nat.le_of_ble_eq_true rfl) (fun x0 C hR hZ => ?_)
  refine EV_en (lv' := [some (.ref 2), some (.int x), some (.int y), some (.int b)]) 0 rfl ?_
  refine EV_blk (own := 3) C rfl [(.aload_n 0, 0, 0, 0, 0), (.iload_n 1, 0, 0, 0, 0), (.iload_n 2, 0, 0, 0, 0)] (pc' := 3) (by decide +kernel) (lv' := [some (.ref 2), some (.int x), some (.int y), some (.int b)]) (st' := [.int y, .int x, .ref 2]) (I' := I) (J' := J) rfl ?_
  refine EV_cV (own := 3) (idx := 58) (μ' := mX3_isCell) (b := 2) (cb := 3) (av := [.int x, .int y]) (rest := []) C hR rfl (Or.inl ⟨570, by decide⟩) kX3_isCell sX3_isCell (c_X3_isCell g rest I J x y ) rfl rfl (by decide +kernel) rfl (by decide) (Nat.le_of_ble_eq_true rfl) rfl ⟨Nat.zero_le _, Nat.zero_le _⟩ ?_
  refine EV_if_eq (off := 25) (tgt := 31) C (by decide +kernel) (by decide) (fun h1 => ?_) (fun h1 => ?_)
  · skip
    refine EV_blk (own := 3) C rfl [(.iload_n 3, 0, 0, 0, 0)] (pc' := 32) (by decide +kernel) (lv' := [some (.ref 2), some (.int x), some (.int y), some (.int b)]) (st' := [.int b]) (I' := I) (J' := J) rfl ?_
    exact EV_zret C hZ rfl (by first | decide | exact hb) (by decide +kernel) (Nat.le_refl _) (Nat.le_refl _) ⟨tq_some (by simp only [r_X3_leadsTo, if_pos h1]), rfl, rfl, rfl, rfl⟩
  · skip
    have h0 := tq_b1.mp (tq_b01.resolve_left h1)
    refine EV_blk (own := 3) C rfl [(.aload_n 0, 0, 0, 0, 0), (.getfield 15, 3, 3, 106, 0), (.iload_n 1, 0, 0, 0, 0), (.iload_n 2, 0, 0, 0, 0)] (pc' := 15) (by decide +kernel) (lv' := [some (.ref 2), some (.int x), some (.int y), some (.int b)]) (st' := [.int y, .int x, .ref 4]) (I' := I) (J' := J) rfl ?_
    refine EV_cS (own := 3) (idx := 35) (μ' := mX11_cellIndex) (av := [.int x, .int y]) (rest := [.ref 4]) C hR rfl (Or.inr ⟨445, by decide⟩) kX11_cellIndex sX11_cellIndex (cI_X11_cellIndex g rest I J x y ) (by decide +kernel) rfl (by decide) (Nat.le_of_ble_eq_true rfl) rfl ⟨Nat.zero_le _, Nat.zero_le _⟩ ?_
    refine EV_iald (j := (tq_N y * 10 + tq_N x)) C (by decide +kernel) rfl (tq_ix 10 h0.1 (by omega) h0.2.2.1 (by omega) (by decide)) (by unfold tq_N; omega) ?_
    refine EV_blk (own := 3) C rfl [(.iconst 1, 0, 0, 0, (nI 1))] (pc' := 20) (by decide +kernel) (lv' := [some (.ref 2), some (.int x), some (.int y), some (.int b)]) (st' := [.int (nI 1), .int (I 4 (tq_N y * 10 + tq_N x))]) (I' := I) (J' := J) rfl ?_
    refine EV_icmp_ne (off := 7) (tgt := 27) C (by decide +kernel) (by decide) (fun h2 => ?_) (fun h2 => ?_)
    · skip
      refine EV_blk (own := 3) C rfl [(.iconst 0, 0, 0, 0, (nI 0)), (.goto 4, 0, 0, 0, 0)] (pc' := 32) (by decide +kernel) (lv' := [some (.ref 2), some (.int x), some (.int y), some (.int b)]) (st' := [.int (nI 0)]) (I' := I) (J' := J) rfl ?_
      exact EV_zret C hZ rfl (by first | decide | exact hb) (by decide +kernel) (Nat.le_refl _) (Nat.le_refl _) ⟨tq_some (by simp only [r_X3_leadsTo, if_neg h1, if_neg h2]), rfl, rfl, rfl, rfl⟩
    · skip
      refine EV_blk (own := 3) C rfl [(.iconst 1, 0, 0, 0, (nI 1)), (.goto 8, 0, 0, 0, 0)] (pc' := 32) (by decide +kernel) (lv' := [some (.ref 2), some (.int x), some (.int y), some (.int b)]) (st' := [.int (nI 1)]) (I' := I) (J' := J) rfl ?_
      exact EV_zret C hZ rfl (by first | decide | exact hb) (by decide +kernel) (Nat.le_refl _) (Nat.le_refl _) ⟨tq_some (by simp only [r_X3_leadsTo, if_neg h1, if_pos h2]), rfl, rfl, rfl, rfl⟩
def f_pm1 (I : tq_I) (x y : Nat) (b : Int32) (i : Nat) (a : Int32) : Int32 := (if (r_X3_leadsTo I ((nI x) + (tq_aside.getD i 0)) ((nI y) + (tq_down.getD i 0)) b) = 0 then a else (a ||| ((nI 1) <<< ((nI i) &&& 31))))
set_option maxRecDepth 20000 in
theorem lp_pm1 {g : tq_G} {rest : List tq_S} {x0 : tq_X} (C : tq_C g mX3_pathMaskAt x0) (hR : tq_ht x0 2 0 0) (I : tq_I) (J : Int64) (x y : Nat) (b : Int32) (hw10 : (I 2 0).toInt ≤ 10) (hh10 : (I 2 1).toInt ≤ 10) (hb : b = 0 ∨ b = 1) : ∀ (n i : Nat) (a : Int32), i + n = 8 → EV g mX3_pathMaskAt x0 0 0 52 [some (.ref 2), some (.int (nI x)), some (.int (nI y)), some (.int b), some (.int (tq_it (f_pm1 I x y b) n i a)), some (.int (nI (i + n))), none, none] [] (tq_SC ++ rest) tq_RR I J → EV g mX3_pathMaskAt x0 0 0 6 [some (.ref 2), some (.int (nI x)), some (.int (nI y)), some (.int b), some (.int a), some (.int (nI i)), none, none] [] (tq_SC ++ rest) tq_RR I J := by
  intro n
  induction n with
  | zero =>
    intro i a hi kk
    rw [Nat.add_zero] at kk
    refine EV_blk (own := 3) C rfl [(.iload 5, 0, 0, 0, 0), (.bipush 8, 0, 0, 0, (nI 8))] (pc' := 10) (by decide +kernel) (lv' := [some (.ref 2), some (.int (nI x)), some (.int (nI y)), some (.int b), some (.int a), some (.int (nI i)), none, none]) (st' := [.int (nI 8), .int (nI i)]) (I' := I) (J' := J) rfl ?_
    refine EV_icmp_ge (off := 42) (tgt := 52) C (by decide +kernel) (by decide) (fun h1 => ?_) (fun h1 => ?_)
    · skip
      exact kk
    · skip
      exact absurd h1 (by simp (disch := omega) only [Int32.lt_iff_toInt_lt, Int32.le_iff_toInt_le, Int32.toInt_zero, nI_toInt, tq_m1]; omega)
  | succ n ih =>
    intro i a hi kk
    rw [show i + (n + 1) = (i + 1) + n by omega] at kk
    refine EV_blk (own := 3) C rfl [(.iload 5, 0, 0, 0, 0), (.bipush 8, 0, 0, 0, (nI 8))] (pc' := 10) (by decide +kernel) (lv' := [some (.ref 2), some (.int (nI x)), some (.int (nI y)), some (.int b), some (.int a), some (.int (nI i)), none, none]) (st' := [.int (nI 8), .int (nI i)]) (I' := I) (J' := J) rfl ?_
    refine EV_icmp_ge (off := 42) (tgt := 52) C (by decide +kernel) (by decide) (fun h1 => ?_) (fun h1 => ?_)
    · skip
      exact absurd h1 (by simp (disch := omega) only [Int32.lt_iff_toInt_lt, Int32.le_iff_toInt_le, Int32.toInt_zero, nI_toInt, tq_m1]; omega)
    · skip
      refine EV_blk (own := 3) C rfl [(.aload_n 0, 0, 0, 0, 0), (.iload_n 1, 0, 0, 0, 0)] (pc' := 15) (by decide +kernel) (lv' := [some (.ref 2), some (.int (nI x)), some (.int (nI y)), some (.int b), some (.int a), some (.int (nI i)), none, none]) (st' := [.int (nI x), .ref 2]) (I' := I) (J' := J) rfl ?_
      refine EV_gets (own := 3) (idx := 41) (o := 1) (pl := 562) C rfl (by decide) (by decide) (by decide +kernel) ?_
      refine EV_blk (own := 3) C rfl [(.iload 5, 0, 0, 0, 0)] (pc' := 20) (by decide +kernel) (lv' := [some (.ref 2), some (.int (nI x)), some (.int (nI y)), some (.int b), some (.int a), some (.int (nI i)), none, none]) (st' := [.int (nI i), .ref 1001, .int (nI x), .ref 2]) (I' := I) (J' := J) rfl ?_
      refine EV_oald (o := 1) (j := i) C (by decide +kernel) (by decide) (nI_toInt (by omega)) (show i < 8 by omega) ?_
      refine EV_blk (own := 3) C rfl [(.iadd, 0, 0, 0, 0), (.iload_n 2, 0, 0, 0, 0)] (pc' := 23) (by decide +kernel) (lv' := [some (.ref 2), some (.int (nI x)), some (.int (nI y)), some (.int b), some (.int a), some (.int (nI i)), none, none]) (st' := [.int (nI y), .int ((nI x) + (tq_aside.getD i 0)), .ref 2]) (I' := I) (J' := J) rfl ?_
      refine EV_gets (own := 3) (idx := 44) (o := 2) (pl := 564) C rfl (by decide) (by decide) (by decide +kernel) ?_
      refine EV_blk (own := 3) C rfl [(.iload 5, 0, 0, 0, 0)] (pc' := 28) (by decide +kernel) (lv' := [some (.ref 2), some (.int (nI x)), some (.int (nI y)), some (.int b), some (.int a), some (.int (nI i)), none, none]) (st' := [.int (nI i), .ref 1002, .int (nI y), .int ((nI x) + (tq_aside.getD i 0)), .ref 2]) (I' := I) (J' := J) rfl ?_
      refine EV_oald (o := 2) (j := i) C (by decide +kernel) (by decide) (nI_toInt (by omega)) (show i < 8 by omega) ?_
      refine EV_blk (own := 3) C rfl [(.iadd, 0, 0, 0, 0), (.iload_n 3, 0, 0, 0, 0)] (pc' := 31) (by decide +kernel) (lv' := [some (.ref 2), some (.int (nI x)), some (.int (nI y)), some (.int b), some (.int a), some (.int (nI i)), none, none]) (st' := [.int b, .int ((nI y) + (tq_down.getD i 0)), .int ((nI x) + (tq_aside.getD i 0)), .ref 2]) (I' := I) (J' := J) rfl ?_
      refine EV_cV (own := 3) (idx := 47) (μ' := mX3_leadsTo) (b := 2) (cb := 3) (av := [.int ((nI x) + (tq_aside.getD i 0)), .int ((nI y) + (tq_down.getD i 0)), .int b]) (rest := []) C hR rfl (Or.inl ⟨566, by decide⟩) kX3_leadsTo sX3_leadsTo (c_X3_leadsTo g rest I J ((nI x) + (tq_aside.getD i 0)) ((nI y) + (tq_down.getD i 0)) b hw10 hh10 hb) rfl rfl (by decide +kernel) rfl (by decide) (Nat.le_of_ble_eq_true rfl) rfl ⟨Nat.zero_le _, Nat.zero_le _⟩ ?_
      refine EV_if_eq (off := 12) (tgt := 46) C (by decide +kernel) (by decide) (fun h2 => ?_) (fun h2 => ?_)
      · skip
        refine EV_blk (own := 3) C rfl [(.iinc 5 1, 0, 0, 0, (nI 1)), (.goto (-43), 0, 0, 0, 0)] (pc' := 6) (by decide +kernel) (lv' := [some (.ref 2), some (.int (nI x)), some (.int (nI y)), some (.int b), some (.int a), some (.int ((nI i) + (nI 1))), none, none]) (st' := []) (I' := I) (J' := J) rfl ?_
        rw [show ((nI i) + (nI 1)) = (nI (i + 1)) from by simp (disch := omega) only [nI_add, tq_mul] <;> exact congrArg nI (by omega)]
        rw [tq_its, show (f_pm1 I x y b) i a = a from by simp only [f_pm1, if_neg h1, if_pos h2]] at kk
        exact ih (i + 1) a (by omega) kk
      · skip
        refine EV_blk (own := 3) C rfl [(.iload 4, 0, 0, 0, 0), (.iconst 1, 0, 0, 0, (nI 1)), (.iload 5, 0, 0, 0, 0), (.ishl, 0, 0, 0, 0), (.ior, 0, 0, 0, 0), (.istore 4, 0, 0, 0, 0), (.iinc 5 1, 0, 0, 0, (nI 1)), (.goto (-43), 0, 0, 0, 0)] (pc' := 6) (by decide +kernel) (lv' := [some (.ref 2), some (.int (nI x)), some (.int (nI y)), some (.int b), some (.int (a ||| ((nI 1) <<< ((nI i) &&& 31)))), some (.int ((nI i) + (nI 1))), none, none]) (st' := []) (I' := I) (J' := J) rfl ?_
        rw [show ((nI i) + (nI 1)) = (nI (i + 1)) from by simp (disch := omega) only [nI_add, tq_mul] <;> exact congrArg nI (by omega)]
        rw [tq_its, show (f_pm1 I x y b) i a = (a ||| ((nI 1) <<< ((nI i) &&& 31))) from by simp only [f_pm1, if_neg h1, if_neg h2]] at kk
        exact ih (i + 1) (a ||| ((nI 1) <<< ((nI i) &&& 31))) (by omega) kk
def f_pm2 (I : tq_I) (x y : Nat) (b near : Int32) (i : Nat) (a : Int32) : Int32 := (if (near &&& (((nI 1) <<< (((nI (1 + 2 * i)) - (nI 1)) &&& 31)) ||| ((nI 1) <<< ((tq_rem ((nI (1 + 2 * i)) + (nI 1)) (nI 8)) &&& 31)))) = (((nI 1) <<< (((nI (1 + 2 * i)) - (nI 1)) &&& 31)) ||| ((nI 1) <<< ((tq_rem ((nI (1 + 2 * i)) + (nI 1)) (nI 8)) &&& 31))) then (a ||| (near &&& ((nI 1) <<< ((nI (1 + 2 * i)) &&& 31)))) else a)
set_option maxRecDepth 20000 in
theorem lp_pm2 {g : tq_G} {rest : List tq_S} {x0 : tq_X} (C : tq_C g mX3_pathMaskAt x0) (hR : tq_ht x0 2 0 0) (I : tq_I) (J : Int64) (x y : Nat) (b near : Int32)  : ∀ (n i : Nat) (a : Int32), i + n = 4 → EV g mX3_pathMaskAt x0 0 0 115 [some (.ref 2), some (.int (nI x)), some (.int (nI y)), some (.int b), some (.int near), some (.int (tq_it (f_pm2 I x y b near) n i a)), some (.int (nI (1 + 2 * (i + n)))), none] [] (tq_SC ++ rest) tq_RR I J → EV g mX3_pathMaskAt x0 0 0 62 [some (.ref 2), some (.int (nI x)), some (.int (nI y)), some (.int b), some (.int near), some (.int a), some (.int (nI (1 + 2 * i))), none] [] (tq_SC ++ rest) tq_RR I J := by
  intro n
  induction n with
  | zero =>
    intro i a hi kk
    rw [Nat.add_zero] at kk
    refine EV_blk (own := 3) C rfl [(.iload 6, 0, 0, 0, 0), (.bipush 8, 0, 0, 0, (nI 8))] (pc' := 66) (by decide +kernel) (lv' := [some (.ref 2), some (.int (nI x)), some (.int (nI y)), some (.int b), some (.int near), some (.int a), some (.int (nI (1 + 2 * i))), none]) (st' := [.int (nI 8), .int (nI (1 + 2 * i))]) (I' := I) (J' := J) rfl ?_
    refine EV_icmp_ge (off := 49) (tgt := 115) C (by decide +kernel) (by decide) (fun h1 => ?_) (fun h1 => ?_)
    · skip
      exact kk
    · skip
      exact absurd h1 (by simp (disch := omega) only [Int32.lt_iff_toInt_lt, Int32.le_iff_toInt_le, Int32.toInt_zero, nI_toInt, tq_m1]; omega)
  | succ n ih =>
    intro i a hi kk
    rw [show i + (n + 1) = (i + 1) + n by omega] at kk
    refine EV_blk (own := 3) C rfl [(.iload 6, 0, 0, 0, 0), (.bipush 8, 0, 0, 0, (nI 8))] (pc' := 66) (by decide +kernel) (lv' := [some (.ref 2), some (.int (nI x)), some (.int (nI y)), some (.int b), some (.int near), some (.int a), some (.int (nI (1 + 2 * i))), none]) (st' := [.int (nI 8), .int (nI (1 + 2 * i))]) (I' := I) (J' := J) rfl ?_
    refine EV_icmp_ge (off := 49) (tgt := 115) C (by decide +kernel) (by decide) (fun h1 => ?_) (fun h1 => ?_)
    · skip
      exact absurd h1 (by simp (disch := omega) only [Int32.lt_iff_toInt_lt, Int32.le_iff_toInt_le, Int32.toInt_zero, nI_toInt, tq_m1]; omega)
    · skip
      refine EV_blk (own := 3) C rfl [(.iconst 1, 0, 0, 0, (nI 1)), (.iload 6, 0, 0, 0, 0), (.iconst 1, 0, 0, 0, (nI 1)), (.isub, 0, 0, 0, 0), (.ishl, 0, 0, 0, 0), (.iconst 1, 0, 0, 0, (nI 1)), (.iload 6, 0, 0, 0, 0), (.iconst 1, 0, 0, 0, (nI 1)), (.iadd, 0, 0, 0, 0), (.bipush 8, 0, 0, 0, (nI 8))] (pc' := 82) (by decide +kernel) (lv' := [some (.ref 2), some (.int (nI x)), some (.int (nI y)), some (.int b), some (.int near), some (.int a), some (.int (nI (1 + 2 * i))), none]) (st' := [.int (nI 8), .int ((nI (1 + 2 * i)) + (nI 1)), .int (nI 1), .int ((nI 1) <<< (((nI (1 + 2 * i)) - (nI 1)) &&& 31))]) (I' := I) (J' := J) rfl ?_
      refine EV_irem C (by decide +kernel) (by decide) ?_
      refine EV_blk (own := 3) C rfl [(.ishl, 0, 0, 0, 0), (.ior, 0, 0, 0, 0), (.istore 7, 0, 0, 0, 0), (.iload 4, 0, 0, 0, 0), (.iload 7, 0, 0, 0, 0), (.iand, 0, 0, 0, 0), (.iload 7, 0, 0, 0, 0)] (pc' := 94) (by decide +kernel) (lv' := [some (.ref 2), some (.int (nI x)), some (.int (nI y)), some (.int b), some (.int near), some (.int a), some (.int (nI (1 + 2 * i))), some (.int (((nI 1) <<< (((nI (1 + 2 * i)) - (nI 1)) &&& 31)) ||| ((nI 1) <<< ((tq_rem ((nI (1 + 2 * i)) + (nI 1)) (nI 8)) &&& 31))))]) (st' := [.int (((nI 1) <<< (((nI (1 + 2 * i)) - (nI 1)) &&& 31)) ||| ((nI 1) <<< ((tq_rem ((nI (1 + 2 * i)) + (nI 1)) (nI 8)) &&& 31))), .int (near &&& (((nI 1) <<< (((nI (1 + 2 * i)) - (nI 1)) &&& 31)) ||| ((nI 1) <<< ((tq_rem ((nI (1 + 2 * i)) + (nI 1)) (nI 8)) &&& 31))))]) (I' := I) (J' := J) rfl ?_
      refine EV_icmp_ne (off := 15) (tgt := 109) C (by decide +kernel) (by decide) (fun h2 => ?_) (fun h2 => ?_)
      · skip
        refine EV_blk (own := 3) C rfl [(.iinc 6 2, 0, 0, 0, (nI 2)), (.goto (-50), 0, 0, 0, 0)] (pc' := 62) (by decide +kernel) (lv' := [some (.ref 2), some (.int (nI x)), some (.int (nI y)), some (.int b), some (.int near), some (.int a), some (.int ((nI (1 + 2 * i)) + (nI 2))), some (.int (((nI 1) <<< (((nI (1 + 2 * i)) - (nI 1)) &&& 31)) ||| ((nI 1) <<< ((tq_rem ((nI (1 + 2 * i)) + (nI 1)) (nI 8)) &&& 31))))]) (st' := []) (I' := I) (J' := J) rfl ?_
        refine EV_fg (lv' := [some (.ref 2), some (.int (nI x)), some (.int (nI y)), some (.int b), some (.int near), some (.int a), some (.int ((nI (1 + 2 * i)) + (nI 2))), none]) ⟨rfl, rfl, rfl, rfl, rfl, rfl, rfl, trivial⟩ ?_
        rw [show ((nI (1 + 2 * i)) + (nI 2)) = (nI (1 + 2 * (i + 1))) from by simp (disch := omega) only [nI_add, tq_mul] <;> exact congrArg nI (by omega)]
        rw [tq_its, show (f_pm2 I x y b near) i a = a from by simp only [f_pm2, if_neg h1, if_neg h2]] at kk
        exact ih (i + 1) a (by omega) kk
      · skip
        refine EV_blk (own := 3) C rfl [(.iload 5, 0, 0, 0, 0), (.iload 4, 0, 0, 0, 0), (.iconst 1, 0, 0, 0, (nI 1)), (.iload 6, 0, 0, 0, 0), (.ishl, 0, 0, 0, 0), (.iand, 0, 0, 0, 0), (.ior, 0, 0, 0, 0), (.istore 5, 0, 0, 0, 0), (.iinc 6 2, 0, 0, 0, (nI 2)), (.goto (-50), 0, 0, 0, 0)] (pc' := 62) (by decide +kernel) (lv' := [some (.ref 2), some (.int (nI x)), some (.int (nI y)), some (.int b), some (.int near), some (.int (a ||| (near &&& ((nI 1) <<< ((nI (1 + 2 * i)) &&& 31))))), some (.int ((nI (1 + 2 * i)) + (nI 2))), some (.int (((nI 1) <<< (((nI (1 + 2 * i)) - (nI 1)) &&& 31)) ||| ((nI 1) <<< ((tq_rem ((nI (1 + 2 * i)) + (nI 1)) (nI 8)) &&& 31))))]) (st' := []) (I' := I) (J' := J) rfl ?_
        refine EV_fg (lv' := [some (.ref 2), some (.int (nI x)), some (.int (nI y)), some (.int b), some (.int near), some (.int (a ||| (near &&& ((nI 1) <<< ((nI (1 + 2 * i)) &&& 31))))), some (.int ((nI (1 + 2 * i)) + (nI 2))), none]) ⟨rfl, rfl, rfl, rfl, rfl, rfl, rfl, trivial⟩ ?_
        rw [show ((nI (1 + 2 * i)) + (nI 2)) = (nI (1 + 2 * (i + 1))) from by simp (disch := omega) only [nI_add, tq_mul] <;> exact congrArg nI (by omega)]
        rw [tq_its, show (f_pm2 I x y b near) i a = (a ||| (near &&& ((nI 1) <<< ((nI (1 + 2 * i)) &&& 31)))) from by simp only [f_pm2, if_neg h1, if_pos h2]] at kk
        exact ih (i + 1) (a ||| (near &&& ((nI 1) <<< ((nI (1 + 2 * i)) &&& 31)))) (by omega) kk
def r_X3_pathMaskAt (I : tq_I) (x y : Nat) (b : Int32) : Int32 := (tq_it (f_pm2 I x y b (tq_it (f_pm1 I x y b) 8 0 (nI 0))) 4 0 ((tq_it (f_pm1 I x y b) 8 0 (nI 0)) &&& (nI 85)))
set_option maxRecDepth 20000 in
theorem c_X3_pathMaskAt (g : tq_G) (rest : List tq_S) (I : tq_I) (J : Int64) (x y : Nat) (b : Int32) (hw10 : (I 2 0).toInt ≤ 10) (hh10 : (I 2 1).toInt ≤ 10) (hb : b = 0 ∨ b = 1) : CT g mX3_pathMaskAt 2 0 0 [.ref 2, .int (nI x), .int (nI y), .int b] (tq_SC ++ rest) tq_RR I J (tq_ret (tq_SC ++ rest) tq_RR (some (.int (r_X3_pathMaskAt I x y b))) I J) := by
  refine CT.ret kX3_pathMaskAt (Nat.le_of_ble_eq_true rfl) (fun x0 C hR hZ => ?_)
  refine EV_en (lv' := [some (.ref 2), some (.int (nI x)), some (.int (nI y)), some (.int b), none, none, none, none]) 4 rfl ?_
  refine EV_blk (own := 3) C rfl [(.iconst 0, 0, 0, 0, (nI 0)), (.istore 4, 0, 0, 0, 0), (.iconst 0, 0, 0, 0, (nI 0)), (.istore 5, 0, 0, 0, 0)] (pc' := 6) (by decide +kernel) (lv' := [some (.ref 2), some (.int (nI x)), some (.int (nI y)), some (.int b), some (.int (nI 0)), some (.int (nI 0)), none, none]) (st' := []) (I' := I) (J' := J) rfl ?_
  refine lp_pm1 C hR I J x y b hw10 hh10 hb 8 0 (nI 0) (by omega) ?_
  refine EV_blk (own := 3) C rfl [(.iload 4, 0, 0, 0, 0), (.bipush 85, 0, 0, 0, (nI 85)), (.iand, 0, 0, 0, 0), (.istore 5, 0, 0, 0, 0), (.iconst 1, 0, 0, 0, (nI 1)), (.istore 6, 0, 0, 0, 0)] (pc' := 62) (by decide +kernel) (lv' := [some (.ref 2), some (.int (nI x)), some (.int (nI y)), some (.int b), some (.int (tq_it (f_pm1 I x y b) 8 0 (nI 0))), some (.int ((tq_it (f_pm1 I x y b) 8 0 (nI 0)) &&& (nI 85))), some (.int (nI 1)), none]) (st' := []) (I' := I) (J' := J) rfl ?_
  refine lp_pm2 C hR I J x y b (tq_it (f_pm1 I x y b) 8 0 (nI 0))  4 0 ((tq_it (f_pm1 I x y b) 8 0 (nI 0)) &&& (nI 85)) (by omega) ?_
  refine EV_blk (own := 3) C rfl [(.iload 5, 0, 0, 0, 0)] (pc' := 117) (by decide +kernel) (lv' := [some (.ref 2), some (.int (nI x)), some (.int (nI y)), some (.int b), some (.int (tq_it (f_pm1 I x y b) 8 0 (nI 0))), some (.int (tq_it (f_pm2 I x y b (tq_it (f_pm1 I x y b) 8 0 (nI 0))) 4 0 ((tq_it (f_pm1 I x y b) 8 0 (nI 0)) &&& (nI 85)))), some (.int (nI (1 + 2 * (0 + 4)))), none]) (st' := [.int (tq_it (f_pm2 I x y b (tq_it (f_pm1 I x y b) 8 0 (nI 0))) 4 0 ((tq_it (f_pm1 I x y b) 8 0 (nI 0)) &&& (nI 85)))]) (I' := I) (J' := J) rfl ?_
  exact EV_iret C hZ rfl (by decide +kernel) (Nat.le_refl _) (Nat.le_refl _) ⟨tq_some (by simp only [r_X3_pathMaskAt]), rfl, rfl, rfl, rfl⟩
def f_pt1 (I : tq_I) (x y : Nat) (b mask : Int32) (i : Nat) (a : Int32) : Int32 := (if mask ≤ (tq_pm.getD i 0) then a else (a + (nI 1)))
set_option maxRecDepth 20000 in
theorem lp_pt1 {g : tq_G} {rest : List tq_S} {x0 : tq_X} (C : tq_C g mX3_pathTileAt x0) (hR : tq_ht x0 3 0 0) (I : tq_I) (J : Int64) (x y : Nat) (b mask : Int32)  : ∀ (n i : Nat) (a : Int32), i + n = 47 → EV g mX3_pathTileAt x0 0 0 55 [some (.ref 2), some (.int (nI x)), some (.int (nI y)), some (.int b), some (.int mask), some (.int (tq_it (f_pt1 I x y b mask) n i a)), some (.int (nI (i + n)))] [] (tq_SC ++ rest) tq_RR I J → EV g mX3_pathTileAt x0 0 0 26 [some (.ref 2), some (.int (nI x)), some (.int (nI y)), some (.int b), some (.int mask), some (.int a), some (.int (nI i))] [] (tq_SC ++ rest) tq_RR I J := by
  intro n
  induction n with
  | zero =>
    intro i a hi kk
    rw [Nat.add_zero] at kk
    refine EV_blk (own := 3) C rfl [(.iload 6, 0, 0, 0, 0)] (pc' := 28) (by decide +kernel) (lv' := [some (.ref 2), some (.int (nI x)), some (.int (nI y)), some (.int b), some (.int mask), some (.int a), some (.int (nI i))]) (st' := [.int (nI i)]) (I' := I) (J' := J) rfl ?_
    refine EV_gets (own := 3) (idx := 55) (o := 3) (pl := 580) C rfl (by decide) (by decide) (by decide +kernel) ?_
    refine EV_olen (o := 3) (L := 47) C (by decide +kernel) (by decide) rfl ?_
    refine EV_icmp_ge (off := 23) (tgt := 55) C (by decide +kernel) (by decide) (fun h1 => ?_) (fun h1 => ?_)
    · skip
      exact kk
    · skip
      exact absurd h1 (by simp (disch := omega) only [Int32.lt_iff_toInt_lt, Int32.le_iff_toInt_le, Int32.toInt_zero, nI_toInt, tq_m1]; omega)
  | succ n ih =>
    intro i a hi kk
    rw [show i + (n + 1) = (i + 1) + n by omega] at kk
    refine EV_blk (own := 3) C rfl [(.iload 6, 0, 0, 0, 0)] (pc' := 28) (by decide +kernel) (lv' := [some (.ref 2), some (.int (nI x)), some (.int (nI y)), some (.int b), some (.int mask), some (.int a), some (.int (nI i))]) (st' := [.int (nI i)]) (I' := I) (J' := J) rfl ?_
    refine EV_gets (own := 3) (idx := 55) (o := 3) (pl := 580) C rfl (by decide) (by decide) (by decide +kernel) ?_
    refine EV_olen (o := 3) (L := 47) C (by decide +kernel) (by decide) rfl ?_
    refine EV_icmp_ge (off := 23) (tgt := 55) C (by decide +kernel) (by decide) (fun h1 => ?_) (fun h1 => ?_)
    · skip
      exact absurd h1 (by simp (disch := omega) only [Int32.lt_iff_toInt_lt, Int32.le_iff_toInt_le, Int32.toInt_zero, nI_toInt, tq_m1]; omega)
    · skip
      refine EV_gets (own := 3) (idx := 55) (o := 3) (pl := 580) C rfl (by decide) (by decide) (by decide +kernel) ?_
      refine EV_blk (own := 3) C rfl [(.iload 6, 0, 0, 0, 0)] (pc' := 40) (by decide +kernel) (lv' := [some (.ref 2), some (.int (nI x)), some (.int (nI y)), some (.int b), some (.int mask), some (.int a), some (.int (nI i))]) (st' := [.int (nI i), .ref 1003]) (I' := I) (J' := J) rfl ?_
      refine EV_oald (o := 3) (j := i) C (by decide +kernel) (by decide) (nI_toInt (by omega)) (by show i < 47; omega) ?_
      refine EV_blk (own := 3) C rfl [(.iload 4, 0, 0, 0, 0)] (pc' := 43) (by decide +kernel) (lv' := [some (.ref 2), some (.int (nI x)), some (.int (nI y)), some (.int b), some (.int mask), some (.int a), some (.int (nI i))]) (st' := [.int mask, .int (tq_pm.getD i 0)]) (I' := I) (J' := J) rfl ?_
      refine EV_icmp_ge (off := 6) (tgt := 49) C (by decide +kernel) (by decide) (fun h2 => ?_) (fun h2 => ?_)
      · skip
        refine EV_blk (own := 3) C rfl [(.iinc 6 1, 0, 0, 0, (nI 1)), (.goto (-26), 0, 0, 0, 0)] (pc' := 26) (by decide +kernel) (lv' := [some (.ref 2), some (.int (nI x)), some (.int (nI y)), some (.int b), some (.int mask), some (.int a), some (.int ((nI i) + (nI 1)))]) (st' := []) (I' := I) (J' := J) rfl ?_
        rw [show ((nI i) + (nI 1)) = (nI (i + 1)) from by simp (disch := omega) only [nI_add, tq_mul] <;> exact congrArg nI (by omega)]
        rw [tq_its, show (f_pt1 I x y b mask) i a = a from by simp only [f_pt1, if_neg h1, if_pos h2]] at kk
        exact ih (i + 1) a (by omega) kk
      · skip
        refine EV_blk (own := 3) C rfl [(.iinc 5 1, 0, 0, 0, (nI 1)), (.iinc 6 1, 0, 0, 0, (nI 1)), (.goto (-26), 0, 0, 0, 0)] (pc' := 26) (by decide +kernel) (lv' := [some (.ref 2), some (.int (nI x)), some (.int (nI y)), some (.int b), some (.int mask), some (.int (a + (nI 1))), some (.int ((nI i) + (nI 1)))]) (st' := []) (I' := I) (J' := J) rfl ?_
        rw [show ((nI i) + (nI 1)) = (nI (i + 1)) from by simp (disch := omega) only [nI_add, tq_mul] <;> exact congrArg nI (by omega)]
        rw [tq_its, show (f_pt1 I x y b mask) i a = (a + (nI 1)) from by simp only [f_pt1, if_neg h1, if_neg h2]] at kk
        exact ih (i + 1) (a + (nI 1)) (by omega) kk
def r_X3_pathTileAt (I : tq_I) (x y : Nat) (b : Int32) : Int32 := (if (I 4 (y * 10 + x)) = 0 then (-1) else (tq_it (f_pt1 I x y b (r_X3_pathMaskAt I x y b)) 47 0 (nI 0)))
set_option maxRecDepth 20000 in
theorem c_X3_pathTileAt (g : tq_G) (rest : List tq_S) (I : tq_I) (J : Int64) (x y : Nat) (b : Int32) (hx : x ≤ 9) (hy : y ≤ 9) (hw10 : (I 2 0).toInt ≤ 10) (hh10 : (I 2 1).toInt ≤ 10) (hb : b = 0 ∨ b = 1) : CT g mX3_pathTileAt 3 0 0 [.ref 2, .int (nI x), .int (nI y), .int b] (tq_SC ++ rest) tq_RR I J (tq_ret (tq_SC ++ rest) tq_RR (some (.int (r_X3_pathTileAt I x y b))) I J) := by
  refine CT.ret kX3_pathTileAt (Nat.le_of_ble_eq_true rfl) (fun x0 C hR hZ => ?_)
  refine EV_en (lv' := [some (.ref 2), some (.int (nI x)), some (.int (nI y)), some (.int b), none, none, none]) 3 rfl ?_
  refine EV_blk (own := 3) C rfl [(.aload_n 0, 0, 0, 0, 0), (.iload_n 1, 0, 0, 0, 0), (.iload_n 2, 0, 0, 0, 0)] (pc' := 3) (by decide +kernel) (lv' := [some (.ref 2), some (.int (nI x)), some (.int (nI y)), some (.int b), none, none, none]) (st' := [.int (nI y), .int (nI x), .ref 2]) (I' := I) (J' := J) rfl ?_
  refine EV_cV (own := 3) (idx := 38) (μ' := mX3_pathAt) (b := 2) (cb := 3) (av := [.int (nI x), .int (nI y)]) (rest := []) C hR rfl (Or.inl ⟨441, by decide⟩) kX3_pathAt sX3_pathAt (c_X3_pathAt g rest I J x y (by omega) (by omega)) rfl rfl (by decide +kernel) rfl (by decide) (Nat.le_of_ble_eq_true rfl) rfl ⟨Nat.zero_le _, Nat.zero_le _⟩ ?_
  refine EV_if_ne (off := 5) (tgt := 11) C (by decide +kernel) (by decide) (fun h1 => ?_) (fun h1 => ?_)
  · skip
    refine EV_blk (own := 3) C rfl [(.aload_n 0, 0, 0, 0, 0), (.iload_n 1, 0, 0, 0, 0), (.iload_n 2, 0, 0, 0, 0), (.iload_n 3, 0, 0, 0, 0)] (pc' := 15) (by decide +kernel) (lv' := [some (.ref 2), some (.int (nI x)), some (.int (nI y)), some (.int b), none, none, none]) (st' := [.int b, .int (nI y), .int (nI x), .ref 2]) (I' := I) (J' := J) rfl ?_
    refine EV_cV (own := 3) (idx := 51) (μ' := mX3_pathMaskAt) (b := 2) (cb := 3) (av := [.int (nI x), .int (nI y), .int b]) (rest := []) C hR rfl (Or.inl ⟨579, by decide⟩) kX3_pathMaskAt sX3_pathMaskAt (c_X3_pathMaskAt g rest I J x y b hw10 hh10 hb) rfl rfl (by decide +kernel) rfl (by decide) (Nat.le_of_ble_eq_true rfl) rfl ⟨Nat.zero_le _, Nat.zero_le _⟩ ?_
    refine EV_blk (own := 3) C rfl [(.istore 4, 0, 0, 0, 0), (.iconst 0, 0, 0, 0, (nI 0)), (.istore 5, 0, 0, 0, 0), (.iconst 0, 0, 0, 0, (nI 0)), (.istore 6, 0, 0, 0, 0)] (pc' := 26) (by decide +kernel) (lv' := [some (.ref 2), some (.int (nI x)), some (.int (nI y)), some (.int b), some (.int (r_X3_pathMaskAt I x y b)), some (.int (nI 0)), some (.int (nI 0))]) (st' := []) (I' := I) (J' := J) rfl ?_
    refine lp_pt1 C hR I J x y b (r_X3_pathMaskAt I x y b)  47 0 (nI 0) (by omega) ?_
    refine EV_blk (own := 3) C rfl [(.iload 5, 0, 0, 0, 0)] (pc' := 57) (by decide +kernel) (lv' := [some (.ref 2), some (.int (nI x)), some (.int (nI y)), some (.int b), some (.int (r_X3_pathMaskAt I x y b)), some (.int (tq_it (f_pt1 I x y b (r_X3_pathMaskAt I x y b)) 47 0 (nI 0))), some (.int (nI ((0 + 47))))]) (st' := [.int (tq_it (f_pt1 I x y b (r_X3_pathMaskAt I x y b)) 47 0 (nI 0))]) (I' := I) (J' := J) rfl ?_
    exact EV_iret C hZ rfl (by decide +kernel) (Nat.le_refl _) (Nat.le_refl _) ⟨tq_some (by simp only [r_X3_pathTileAt, if_neg h1]), rfl, rfl, rfl, rfl⟩
  · skip
    refine EV_blk (own := 3) C rfl [(.iconst (-1), 0, 0, 0, (-1))] (pc' := 10) (by decide +kernel) (lv' := [some (.ref 2), some (.int (nI x)), some (.int (nI y)), some (.int b), none, none, none]) (st' := [.int (-1)]) (I' := I) (J' := J) rfl ?_
    exact EV_iret C hZ rfl (by decide +kernel) (Nat.le_refl _) (Nat.le_refl _) ⟨tq_some (by simp only [r_X3_pathTileAt, if_pos h1]), rfl, rfl, rfl, rfl⟩
end
section
/-! State: what is touched; Canvas: wipe, codes; a new map, a corner, a path changed. Cells: 1 the state, 2 its land .. 16 its touches -/
def f_tb1 (l t r b : Nat) (y : Int32) (i : Nat) (a : tq_I) : tq_I := (if (tq_b (tq_cell a ((nI (l + i)) - (nI 1)) y)) = 0 then a else (tq_u a 16 (tq_N y * 10 + tq_N ((nI (l + i)) - (nI 1))) (nI 1)))
set_option maxRecDepth 20000 in
theorem lp_tb1 {g : tq_G} {rest : List tq_S} {x0 : tq_X} (C : tq_C g mX8_touchBlock x0) (hR : tq_ht x0 1 0 0) (J : Int64) (l t r b : Nat) (y : Int32) (hl : l ≤ r + 1) (hr : r ≤ 20) : ∀ (n i : Nat) (a : tq_I), i + n = r + 1 - l → (a 2 0).toInt ≤ 10 ∧ (a 2 1).toInt ≤ 10 → EV g mX8_touchBlock x0 0 0 55 [some (.ref 1), some (.int ((nI l) - (nI 1))), some (.int ((nI t) - (nI 1))), some (.int ((nI r) - (nI 1))), some (.int ((nI b) - (nI 1))), some (.int y), some (.int ((nI (l + (i + n))) - (nI 1)))] [] (tq_SC ++ rest) tq_RR (tq_it (f_tb1 l t r b y) n i a) J → EV g mX8_touchBlock x0 0 0 13 [some (.ref 1), some (.int ((nI l) - (nI 1))), some (.int ((nI t) - (nI 1))), some (.int ((nI r) - (nI 1))), some (.int ((nI b) - (nI 1))), some (.int y), some (.int ((nI (l + i)) - (nI 1)))] [] (tq_SC ++ rest) tq_RR a J := by
  intro n
  induction n with
  | zero =>
    intro i a hi hI kk
    rw [Nat.add_zero] at kk
    refine EV_blk (own := 8) C rfl [(.iload 6, 0, 0, 0, 0), (.iload_n 3, 0, 0, 0, 0)] (pc' := 16) (by decide +kernel) (lv' := [some (.ref 1), some (.int ((nI l) - (nI 1))), some (.int ((nI t) - (nI 1))), some (.int ((nI r) - (nI 1))), some (.int ((nI b) - (nI 1))), some (.int y), some (.int ((nI (l + i)) - (nI 1)))]) (st' := [.int ((nI r) - (nI 1)), .int ((nI (l + i)) - (nI 1))]) (I' := a) (J' := J) rfl ?_
    refine EV_icmp_gt (off := 39) (tgt := 55) C (by decide +kernel) (by decide) (fun h1 => ?_) (fun h1 => ?_)
    · skip
      exact kk
    · skip
      exact absurd h1 (by simp (disch := omega) only [Int32.lt_iff_toInt_lt, Int32.le_iff_toInt_le, Int32.toInt_zero, nI_toInt, tq_m1]; omega)
  | succ n ih =>
    intro i a hi hI kk
    rw [show i + (n + 1) = (i + 1) + n by omega] at kk
    refine EV_blk (own := 8) C rfl [(.iload 6, 0, 0, 0, 0), (.iload_n 3, 0, 0, 0, 0)] (pc' := 16) (by decide +kernel) (lv' := [some (.ref 1), some (.int ((nI l) - (nI 1))), some (.int ((nI t) - (nI 1))), some (.int ((nI r) - (nI 1))), some (.int ((nI b) - (nI 1))), some (.int y), some (.int ((nI (l + i)) - (nI 1)))]) (st' := [.int ((nI r) - (nI 1)), .int ((nI (l + i)) - (nI 1))]) (I' := a) (J' := J) rfl ?_
    refine EV_icmp_gt (off := 39) (tgt := 55) C (by decide +kernel) (by decide) (fun h1 => ?_) (fun h1 => ?_)
    · skip
      exact absurd h1 (by simp (disch := omega) only [Int32.lt_iff_toInt_lt, Int32.le_iff_toInt_le, Int32.toInt_zero, nI_toInt, tq_m1]; omega)
    · skip
      refine EV_blk (own := 8) C rfl [(.aload_n 0, 0, 0, 0, 0), (.getfield 12, 8, 0, 190, 0), (.iload 6, 0, 0, 0, 0), (.iload 5, 0, 0, 0, 0)] (pc' := 27) (by decide +kernel) (lv' := [some (.ref 1), some (.int ((nI l) - (nI 1))), some (.int ((nI t) - (nI 1))), some (.int ((nI r) - (nI 1))), some (.int ((nI b) - (nI 1))), some (.int y), some (.int ((nI (l + i)) - (nI 1)))]) (st' := [.int y, .int ((nI (l + i)) - (nI 1)), .ref 2]) (I' := a) (J' := J) rfl ?_
      refine EV_cV (own := 8) (idx := 83) (μ' := mX3_isCell) (b := 2) (cb := 3) (av := [.int ((nI (l + i)) - (nI 1)), .int y]) (rest := []) C hR rfl (Or.inl ⟨361, by decide⟩) kX3_isCell sX3_isCell (c_X3_isCell g rest a J ((nI (l + i)) - (nI 1)) y ) rfl rfl (by decide +kernel) rfl (by decide) (Nat.le_of_ble_eq_true rfl) rfl ⟨Nat.zero_le _, Nat.zero_le _⟩ ?_
      refine EV_if_eq (off := 19) (tgt := 49) C (by decide +kernel) (by decide) (fun h2 => ?_) (fun h2 => ?_)
      · skip
        refine EV_blk (own := 8) C rfl [(.iinc 6 1, 0, 0, 0, (nI 1)), (.goto (-39), 0, 0, 0, 0)] (pc' := 13) (by decide +kernel) (lv' := [some (.ref 1), some (.int ((nI l) - (nI 1))), some (.int ((nI t) - (nI 1))), some (.int ((nI r) - (nI 1))), some (.int ((nI b) - (nI 1))), some (.int y), some (.int (((nI (l + i)) - (nI 1)) + (nI 1)))]) (st' := []) (I' := a) (J' := J) rfl ?_
        rw [show (((nI (l + i)) - (nI 1)) + (nI 1)) = ((nI (l + (i + 1))) - (nI 1)) from by exact tq_inc1 _]
        rw [tq_its, show (f_tb1 l t r b y) i a = a from by simp only [f_tb1, if_neg h1, if_pos h2]] at kk
        exact ih (i + 1) a (by omega) hI kk
      · skip
        have h0 := tq_b1.mp (tq_b01.resolve_left h2)
        have h0b := hI
        refine EV_blk (own := 8) C rfl [(.aload_n 0, 0, 0, 0, 0), (.getfield 28, 8, 2, 197, 0), (.getfield 87, 1, 3, 179, 0), (.iload 6, 0, 0, 0, 0), (.iload 5, 0, 0, 0, 0)] (pc' := 44) (by decide +kernel) (lv' := [some (.ref 1), some (.int ((nI l) - (nI 1))), some (.int ((nI t) - (nI 1))), some (.int ((nI r) - (nI 1))), some (.int ((nI b) - (nI 1))), some (.int y), some (.int ((nI (l + i)) - (nI 1)))]) (st' := [.int y, .int ((nI (l + i)) - (nI 1)), .ref 16]) (I' := a) (J' := J) rfl ?_
        refine EV_cS (own := 8) (idx := 80) (μ' := mX11_cellIndex) (av := [.int ((nI (l + i)) - (nI 1)), .int y]) (rest := [.ref 16]) C hR rfl (Or.inr ⟨365, by decide⟩) kX11_cellIndex sX11_cellIndex (cI_X11_cellIndex g rest a J ((nI (l + i)) - (nI 1)) y ) (by decide +kernel) rfl (by decide) (Nat.le_of_ble_eq_true rfl) rfl ⟨Nat.zero_le _, Nat.zero_le _⟩ ?_
        refine EV_blk (own := 8) C rfl [(.iconst 1, 0, 0, 0, (nI 1))] (pc' := 48) (by decide +kernel) (lv' := [some (.ref 1), some (.int ((nI l) - (nI 1))), some (.int ((nI t) - (nI 1))), some (.int ((nI r) - (nI 1))), some (.int ((nI b) - (nI 1))), some (.int y), some (.int ((nI (l + i)) - (nI 1)))]) (st' := [.int (nI 1), .int ((y * (nI 10)) + ((nI (l + i)) - (nI 1))), .ref 16]) (I' := a) (J' := J) rfl ?_
        refine EV_iast (j := (tq_N y * 10 + tq_N ((nI (l + i)) - (nI 1)))) C (by decide +kernel) rfl (tq_ix 10 h0.1 (by omega) h0.2.2.1 (by omega) (by decide)) (by unfold tq_N; omega) ?_
        refine EV_blk (own := 8) C rfl [(.iinc 6 1, 0, 0, 0, (nI 1)), (.goto (-39), 0, 0, 0, 0)] (pc' := 13) (by decide +kernel) (lv' := [some (.ref 1), some (.int ((nI l) - (nI 1))), some (.int ((nI t) - (nI 1))), some (.int ((nI r) - (nI 1))), some (.int ((nI b) - (nI 1))), some (.int y), some (.int (((nI (l + i)) - (nI 1)) + (nI 1)))]) (st' := []) (I' := (tq_u a 16 (tq_N y * 10 + tq_N ((nI (l + i)) - (nI 1))) (nI 1))) (J' := J) rfl ?_
        rw [show (((nI (l + i)) - (nI 1)) + (nI 1)) = ((nI (l + (i + 1))) - (nI 1)) from by exact tq_inc1 _]
        rw [tq_its, show (f_tb1 l t r b y) i a = (tq_u a 16 (tq_N y * 10 + tq_N ((nI (l + i)) - (nI 1))) (nI 1)) from by simp only [f_tb1, if_neg h1, if_neg h2]] at kk
        exact ih (i + 1) (tq_u a 16 (tq_N y * 10 + tq_N ((nI (l + i)) - (nI 1))) (nI 1)) (by omega) hI kk
theorem fr_tb1 (l t r b : Nat) (y : Int32) {cz : Nat} (hc : cz ≠ 16) (n i : Nat) (a : tq_I) (jz : Nat) : (tq_it (f_tb1 l t r b y) n i a) cz jz = a cz jz := by
  have hc0 := hc
  refine tq_itF (fun i a j => ?_) n i a jz
  simp only [f_tb1]
  (repeat' split) <;> simp (disch := first | assumption | (simp only [ne_eq] at *; simp [*])) [tq_u, tq_cp, hc0]
def f_tb2 (l t r b : Nat) (i : Nat) (a : tq_I) : tq_I := (tq_it (f_tb1 l t r b ((nI (t + i)) - (nI 1))) (r + 1 - l) 0 a)
set_option maxRecDepth 20000 in
theorem lp_tb2 {g : tq_G} {rest : List tq_S} {x0 : tq_X} (C : tq_C g mX8_touchBlock x0) (hR : tq_ht x0 1 0 0) (J : Int64) (l t r b : Nat) (hl : l ≤ r + 1) (ht : t ≤ b + 1) (hr : r ≤ 20) (hb : b ≤ 20) : ∀ (n i : Nat) (a : tq_I), i + n = b + 1 - t → (a 2 0).toInt ≤ 10 ∧ (a 2 1).toInt ≤ 10 → EV g mX8_touchBlock x0 0 0 61 [some (.ref 1), some (.int ((nI l) - (nI 1))), some (.int ((nI t) - (nI 1))), some (.int ((nI r) - (nI 1))), some (.int ((nI b) - (nI 1))), some (.int ((nI (t + (i + n))) - (nI 1))), none] [] (tq_SC ++ rest) tq_RR (tq_it (f_tb2 l t r b) n i a) J → EV g mX8_touchBlock x0 0 0 3 [some (.ref 1), some (.int ((nI l) - (nI 1))), some (.int ((nI t) - (nI 1))), some (.int ((nI r) - (nI 1))), some (.int ((nI b) - (nI 1))), some (.int ((nI (t + i)) - (nI 1))), none] [] (tq_SC ++ rest) tq_RR a J := by
  intro n
  induction n with
  | zero =>
    intro i a hi hI kk
    rw [Nat.add_zero] at kk
    refine EV_blk (own := 8) C rfl [(.iload 5, 0, 0, 0, 0), (.iload 4, 0, 0, 0, 0)] (pc' := 7) (by decide +kernel) (lv' := [some (.ref 1), some (.int ((nI l) - (nI 1))), some (.int ((nI t) - (nI 1))), some (.int ((nI r) - (nI 1))), some (.int ((nI b) - (nI 1))), some (.int ((nI (t + i)) - (nI 1))), none]) (st' := [.int ((nI b) - (nI 1)), .int ((nI (t + i)) - (nI 1))]) (I' := a) (J' := J) rfl ?_
    refine EV_icmp_gt (off := 54) (tgt := 61) C (by decide +kernel) (by decide) (fun h1 => ?_) (fun h1 => ?_)
    · skip
      exact kk
    · skip
      exact absurd h1 (by simp (disch := omega) only [Int32.lt_iff_toInt_lt, Int32.le_iff_toInt_le, Int32.toInt_zero, nI_toInt, tq_m1]; omega)
  | succ n ih =>
    intro i a hi hI kk
    rw [show i + (n + 1) = (i + 1) + n by omega] at kk
    refine EV_blk (own := 8) C rfl [(.iload 5, 0, 0, 0, 0), (.iload 4, 0, 0, 0, 0)] (pc' := 7) (by decide +kernel) (lv' := [some (.ref 1), some (.int ((nI l) - (nI 1))), some (.int ((nI t) - (nI 1))), some (.int ((nI r) - (nI 1))), some (.int ((nI b) - (nI 1))), some (.int ((nI (t + i)) - (nI 1))), none]) (st' := [.int ((nI b) - (nI 1)), .int ((nI (t + i)) - (nI 1))]) (I' := a) (J' := J) rfl ?_
    refine EV_icmp_gt (off := 54) (tgt := 61) C (by decide +kernel) (by decide) (fun h1 => ?_) (fun h1 => ?_)
    · skip
      exact absurd h1 (by simp (disch := omega) only [Int32.lt_iff_toInt_lt, Int32.le_iff_toInt_le, Int32.toInt_zero, nI_toInt, tq_m1]; omega)
    · skip
      refine EV_blk (own := 8) C rfl [(.iload_n 1, 0, 0, 0, 0), (.istore 6, 0, 0, 0, 0)] (pc' := 13) (by decide +kernel) (lv' := [some (.ref 1), some (.int ((nI l) - (nI 1))), some (.int ((nI t) - (nI 1))), some (.int ((nI r) - (nI 1))), some (.int ((nI b) - (nI 1))), some (.int ((nI (t + i)) - (nI 1))), some (.int ((nI l) - (nI 1)))]) (st' := []) (I' := a) (J' := J) rfl ?_
      refine lp_tb1 C hR J l t r b ((nI (t + i)) - (nI 1)) hl hr (r + 1 - l) 0 a (by omega) hI ?_
      refine EV_blk (own := 8) C rfl [(.iinc 5 1, 0, 0, 0, (nI 1)), (.goto (-55), 0, 0, 0, 0)] (pc' := 3) (by decide +kernel) (lv' := [some (.ref 1), some (.int ((nI l) - (nI 1))), some (.int ((nI t) - (nI 1))), some (.int ((nI r) - (nI 1))), some (.int ((nI b) - (nI 1))), some (.int (((nI (t + i)) - (nI 1)) + (nI 1))), some (.int ((nI (l + (0 + (r + 1 - l)))) - (nI 1)))]) (st' := []) (I' := (tq_it (f_tb1 l t r b ((nI (t + i)) - (nI 1))) (r + 1 - l) 0 a)) (J' := J) rfl ?_
      refine EV_fg (lv' := [some (.ref 1), some (.int ((nI l) - (nI 1))), some (.int ((nI t) - (nI 1))), some (.int ((nI r) - (nI 1))), some (.int ((nI b) - (nI 1))), some (.int (((nI (t + i)) - (nI 1)) + (nI 1))), none]) ⟨rfl, rfl, rfl, rfl, rfl, rfl, trivial⟩ ?_
      rw [show (((nI (t + i)) - (nI 1)) + (nI 1)) = ((nI (t + (i + 1))) - (nI 1)) from by exact tq_inc1 _]
      rw [tq_its, show (f_tb2 l t r b) i a = (tq_it (f_tb1 l t r b ((nI (t + i)) - (nI 1))) (r + 1 - l) 0 a) from by simp only [f_tb2, if_neg h1]] at kk
      exact ih (i + 1) (tq_it (f_tb1 l t r b ((nI (t + i)) - (nI 1))) (r + 1 - l) 0 a) (by omega) (by rw [fr_tb1 _ _ _ _ _ (by decide), fr_tb1 _ _ _ _ _ (by decide)]; exact hI) kk
theorem fr_tb2 (l t r b : Nat) {cz : Nat} (hc : cz ≠ 16) (n i : Nat) (a : tq_I) (jz : Nat) : (tq_it (f_tb2 l t r b) n i a) cz jz = a cz jz := by
  have hc0 := hc
  refine tq_itF (fun i a j => ?_) n i a jz
  simp only [f_tb2]
  (repeat' split) <;> simp (disch := first | assumption | (simp only [ne_eq] at *; simp [*])) [tq_u, tq_cp, hc0, fr_tb1]
def I_X8_touchBlock (I : tq_I) (l t r b : Nat) : tq_I := (tq_it (f_tb2 l t r b) (b + 1 - t) 0 I)
set_option maxRecDepth 20000 in
theorem c_X8_touchBlock (g : tq_G) (rest : List tq_S) (I : tq_I) (J : Int64) (l t r b : Nat) (hl : l ≤ r + 1) (ht : t ≤ b + 1) (hr : r ≤ 20) (hb : b ≤ 20) (hI : (I 2 0).toInt ≤ 10 ∧ (I 2 1).toInt ≤ 10) : CT g mX8_touchBlock 1 0 0 [.ref 1, .int ((nI l) - (nI 1)), .int ((nI t) - (nI 1)), .int ((nI r) - (nI 1)), .int ((nI b) - (nI 1))] (tq_SC ++ rest) tq_RR I J (tq_ret (tq_SC ++ rest) tq_RR none (I_X8_touchBlock I l t r b) J) := by
  refine CT.ret kX8_touchBlock (Nat.le_of_ble_eq_true rfl) (fun x0 C hR hZ => ?_)
  refine EV_en (lv' := [some (.ref 1), some (.int ((nI l) - (nI 1))), some (.int ((nI t) - (nI 1))), some (.int ((nI r) - (nI 1))), some (.int ((nI b) - (nI 1))), none, none]) 2 rfl ?_
  refine EV_blk (own := 8) C rfl [(.iload_n 2, 0, 0, 0, 0), (.istore 5, 0, 0, 0, 0)] (pc' := 3) (by decide +kernel) (lv' := [some (.ref 1), some (.int ((nI l) - (nI 1))), some (.int ((nI t) - (nI 1))), some (.int ((nI r) - (nI 1))), some (.int ((nI b) - (nI 1))), some (.int ((nI t) - (nI 1))), none]) (st' := []) (I' := I) (J' := J) rfl ?_
  refine lp_tb2 C hR J l t r b hl ht hr hb (b + 1 - t) 0 I (by omega) hI ?_
  exact EV_vret C hZ rfl (by decide +kernel) (Nat.le_refl _) (Nat.le_refl _) ⟨rfl, rfl, rfl, by simp only [I_X8_touchBlock], rfl⟩
theorem fr_X8_touchBlock (I : tq_I) (l t r b : Nat) {cz : Nat} (hc : cz ≠ 16) (jz : Nat) : I_X8_touchBlock I l t r b cz jz = I cz jz := by
  have hc0 := hc
  simp only [I_X8_touchBlock]
  (repeat' split) <;> simp (disch := first | assumption | (simp only [ne_eq] at *; simp [*])) [tq_u, tq_cp, hc0, fr_tb1, fr_tb2]
def I_X8_touchAll (I : tq_I) (w h : Nat) : tq_I := (I_X8_touchBlock I 1 1 w h)
set_option maxRecDepth 20000 in
theorem c_X8_touchAll (g : tq_G) (rest : List tq_S) (I : tq_I) (J : Int64) (w h : Nat) (hw : I 2 0 = nI w) (hh : I 2 1 = nI h) (hw10 : w ≤ 10) (hh10 : h ≤ 10) : CT g mX8_touchAll 2 0 0 [.ref 1] (tq_SC ++ rest) tq_RR I J (tq_ret (tq_SC ++ rest) tq_RR none (I_X8_touchAll I w h) J) := by
  refine CT.ret kX8_touchAll (Nat.le_of_ble_eq_true rfl) (fun x0 C hR hZ => ?_)
  refine EV_en (lv' := [some (.ref 1)]) 0 rfl ?_
  have hI : (I 2 0).toInt ≤ 10 ∧ (I 2 1).toInt ≤ 10 := by rw [hw, hh, nI_toInt (by omega), nI_toInt (by omega)]; omega
  refine EV_blk (own := 8) C rfl [(.aload_n 0, 0, 0, 0, 0), (.iconst 0, 0, 0, 0, (nI 0)), (.iconst 0, 0, 0, 0, (nI 0)), (.aload_n 0, 0, 0, 0, 0), (.getfield 12, 8, 0, 190, 0), (.getfield 42, 3, 0, 97, 0), (.iconst 1, 0, 0, 0, (nI 1)), (.isub, 0, 0, 0, 0), (.aload_n 0, 0, 0, 0, 0), (.getfield 12, 8, 0, 190, 0), (.getfield 46, 3, 1, 101, 0), (.iconst 1, 0, 0, 0, (nI 1)), (.isub, 0, 0, 0, 0)] (pc' := 21) (by decide +kernel) (lv' := [some (.ref 1)]) (st' := [.int ((I 2 1) - (nI 1)), .int ((I 2 0) - (nI 1)), .int (nI 0), .int (nI 0), .ref 1]) (I' := I) (J' := J) rfl ?_
  refine EV_ste (st' := [.int ((nI h) - (nI 1)), .int ((nI w) - (nI 1)), .int ((nI 1) - (nI 1)), .int ((nI 1) - (nI 1)), .ref 1]) (by rw [hw, hh]; rfl) ?_
  refine EV_cV (own := 8) (idx := 69) (μ' := mX8_touchBlock) (b := 1) (cb := 8) (av := [.int ((nI 1) - (nI 1)), .int ((nI 1) - (nI 1)), .int ((nI w) - (nI 1)), .int ((nI h) - (nI 1))]) (rest := []) C hR rfl (Or.inl ⟨357, by decide⟩) kX8_touchBlock sX8_touchBlock (c_X8_touchBlock g rest I J 1 1 w h (by omega) (by omega) (by omega) (by omega) hI) rfl rfl (by decide +kernel) rfl (by decide) (Nat.le_of_ble_eq_true rfl) rfl ⟨Nat.zero_le _, Nat.zero_le _⟩ ?_
  exact EV_vret C hZ rfl (by decide +kernel) (Nat.le_refl _) (Nat.le_refl _) ⟨rfl, rfl, rfl, by simp only [I_X8_touchAll], rfl⟩
theorem fr_X8_touchAll (I : tq_I) (w h : Nat) {cz : Nat} (hc : cz ≠ 16) (jz : Nat) : I_X8_touchAll I w h cz jz = I cz jz := by
  have hc0 := hc
  simp only [I_X8_touchAll]
  (repeat' split) <;> simp (disch := first | assumption | (simp only [ne_eq] at *; simp [*])) [tq_u, tq_cp, hc0, fr_tb1, fr_tb2, fr_X8_touchBlock]
def r_X8_changeCorner (I : tq_I) (x y : Nat) (t : Int32) : Int32 := (if (I 3 (y * 11 + x)) = t then (nI 0) else (nI 1))
def I_X8_changeCorner (I : tq_I) (x y : Nat) (t : Int32) : tq_I := (if (I 3 (y * 11 + x)) = t then I else (I_X8_touchBlock (tq_u I 3 (y * 11 + x) t) x y (x + 1) (y + 1)))
set_option maxRecDepth 20000 in
theorem c_X8_changeCorner (g : tq_G) (rest : List tq_S) (I : tq_I) (J : Int64) (x y : Nat) (t : Int32) (hx : x ≤ 10) (hy : y ≤ 10) (hI : (I 2 0).toInt ≤ 10 ∧ (I 2 1).toInt ≤ 10) : CT g mX8_changeCorner 2 0 0 [.ref 1, .int (nI x), .int (nI y), .int t] (tq_SC ++ rest) tq_RR I J (tq_ret (tq_SC ++ rest) tq_RR (some (.int (r_X8_changeCorner I x y t))) (I_X8_changeCorner I x y t) J) := by
  refine CT.ret kX8_changeCorner (Nat.le_of_ble_eq_true rfl) (fun x0 C hR hZ => ?_)
  refine EV_en (lv' := [some (.ref 1), some (.int (nI x)), some (.int (nI y)), some (.int t)]) 0 rfl ?_
  refine EV_blk (own := 8) C rfl [(.aload_n 0, 0, 0, 0, 0), (.getfield 12, 8, 0, 190, 0), (.iload_n 1, 0, 0, 0, 0), (.iload_n 2, 0, 0, 0, 0)] (pc' := 6) (by decide +kernel) (lv' := [some (.ref 1), some (.int (nI x)), some (.int (nI y)), some (.int t)]) (st' := [.int (nI y), .int (nI x), .ref 2]) (I' := I) (J' := J) rfl ?_
  refine EV_cV (own := 8) (idx := 62) (μ' := mX3_terrainAt) (b := 2) (cb := 3) (av := [.int (nI x), .int (nI y)]) (rest := []) C hR rfl (Or.inl ⟨465, by decide⟩) kX3_terrainAt sX3_terrainAt (c_X3_terrainAt g rest I J x y (by omega) (by omega)) rfl rfl (by decide +kernel) rfl (by decide) (Nat.le_of_ble_eq_true rfl) rfl ⟨Nat.zero_le _, Nat.zero_le _⟩ ?_
  refine EV_blk (own := 8) C rfl [(.iload_n 3, 0, 0, 0, 0)] (pc' := 10) (by decide +kernel) (lv' := [some (.ref 1), some (.int (nI x)), some (.int (nI y)), some (.int t)]) (st' := [.int t, .int (I 3 (y * 11 + x))]) (I' := I) (J' := J) rfl ?_
  refine EV_icmp_ne (off := 5) (tgt := 15) C (by decide +kernel) (by decide) (fun h1 => ?_) (fun h1 => ?_)
  · skip
    refine EV_blk (own := 8) C rfl [(.aload_n 0, 0, 0, 0, 0), (.getfield 12, 8, 0, 190, 0), (.getfield 49, 3, 2, 104, 0), (.iload_n 1, 0, 0, 0, 0), (.iload_n 2, 0, 0, 0, 0)] (pc' := 24) (by decide +kernel) (lv' := [some (.ref 1), some (.int (nI x)), some (.int (nI y)), some (.int t)]) (st' := [.int (nI y), .int (nI x), .ref 3]) (I' := I) (J' := J) rfl ?_
    refine EV_cS (own := 8) (idx := 66) (μ' := mX11_cornerIndex) (av := [.int (nI x), .int (nI y)]) (rest := [.ref 3]) C hR rfl (Or.inr ⟨466, by decide⟩) kX11_cornerIndex sX11_cornerIndex (c_X11_cornerIndex g rest I J x y ) (by decide +kernel) rfl (by decide) (Nat.le_of_ble_eq_true rfl) rfl ⟨Nat.zero_le _, Nat.zero_le _⟩ ?_
    refine EV_blk (own := 8) C rfl [(.iload_n 3, 0, 0, 0, 0)] (pc' := 28) (by decide +kernel) (lv' := [some (.ref 1), some (.int (nI x)), some (.int (nI y)), some (.int t)]) (st' := [.int t, .int (nI (y * 11 + x)), .ref 3]) (I' := I) (J' := J) rfl ?_
    refine EV_iast (j := (y * 11 + x)) C (by decide +kernel) rfl (nI_toInt (by omega)) (by omega) ?_
    refine EV_blk (own := 8) C rfl [(.aload_n 0, 0, 0, 0, 0), (.iload_n 1, 0, 0, 0, 0), (.iconst 1, 0, 0, 0, (nI 1)), (.isub, 0, 0, 0, 0), (.iload_n 2, 0, 0, 0, 0), (.iconst 1, 0, 0, 0, (nI 1)), (.isub, 0, 0, 0, 0), (.iload_n 1, 0, 0, 0, 0), (.iload_n 2, 0, 0, 0, 0)] (pc' := 38) (by decide +kernel) (lv' := [some (.ref 1), some (.int (nI x)), some (.int (nI y)), some (.int t)]) (st' := [.int (nI y), .int (nI x), .int ((nI y) - (nI 1)), .int ((nI x) - (nI 1)), .ref 1]) (I' := (tq_u I 3 (y * 11 + x) t)) (J' := J) rfl ?_
    refine EV_ste (st' := [.int ((nI (y + 1)) - (nI 1)), .int ((nI (x + 1)) - (nI 1)), .int ((nI y) - (nI 1)), .int ((nI x) - (nI 1)), .ref 1]) (by simp only [← tq_dec1]) ?_
    refine EV_cV (own := 8) (idx := 69) (μ' := mX8_touchBlock) (b := 1) (cb := 8) (av := [.int ((nI x) - (nI 1)), .int ((nI y) - (nI 1)), .int ((nI (x + 1)) - (nI 1)), .int ((nI (y + 1)) - (nI 1))]) (rest := []) C hR rfl (Or.inl ⟨357, by decide⟩) kX8_touchBlock sX8_touchBlock (c_X8_touchBlock g rest (tq_u I 3 (y * 11 + x) t) J x y (x + 1) (y + 1) (by omega) (by omega) (by omega) (by omega) hI) rfl rfl (by decide +kernel) rfl (by decide) (Nat.le_of_ble_eq_true rfl) rfl ⟨Nat.zero_le _, Nat.zero_le _⟩ ?_
    refine EV_blk (own := 8) C rfl [(.iconst 1, 0, 0, 0, (nI 1))] (pc' := 42) (by decide +kernel) (lv' := [some (.ref 1), some (.int (nI x)), some (.int (nI y)), some (.int t)]) (st' := [.int (nI 1)]) (I' := (I_X8_touchBlock (tq_u I 3 (y * 11 + x) t) x y (x + 1) (y + 1))) (J' := J) rfl ?_
    exact EV_iret C hZ rfl (by decide +kernel) (Nat.le_refl _) (Nat.le_refl _) ⟨tq_some (by simp only [r_X8_changeCorner, if_neg h1]), rfl, rfl, by simp only [I_X8_changeCorner, if_neg h1], rfl⟩
  · skip
    refine EV_blk (own := 8) C rfl [(.iconst 0, 0, 0, 0, (nI 0))] (pc' := 14) (by decide +kernel) (lv' := [some (.ref 1), some (.int (nI x)), some (.int (nI y)), some (.int t)]) (st' := [.int (nI 0)]) (I' := I) (J' := J) rfl ?_
    exact EV_iret C hZ rfl (by decide +kernel) (Nat.le_refl _) (Nat.le_refl _) ⟨tq_some (by simp only [r_X8_changeCorner, if_pos h1]), rfl, rfl, by simp only [I_X8_changeCorner, if_pos h1], rfl⟩
theorem fr_X8_changeCorner (I : tq_I) (x y : Nat) (t : Int32) {cz : Nat} (hc : cz ≠ 3 ∧ cz ≠ 16) (jz : Nat) : I_X8_changeCorner I x y t cz jz = I cz jz := by
  obtain ⟨hc0, hc1⟩ := hc
  simp only [I_X8_changeCorner]
  (repeat' split) <;> simp (disch := first | assumption | (simp only [ne_eq] at *; simp [*])) [tq_u, tq_cp, hc0, hc1, fr_tb1, fr_tb2, fr_X8_touchBlock, fr_X8_touchAll]
def I_X8_changePath (I : tq_I) (x y : Nat) (v : Int32) : tq_I := (if (I 4 (y * 10 + x)) = v then I else (I_X8_touchBlock (tq_u I 4 (y * 10 + x) v) x y (x + 2) (y + 2)))
set_option maxRecDepth 20000 in
theorem c_X8_changePath (g : tq_G) (rest : List tq_S) (I : tq_I) (J : Int64) (x y : Nat) (v : Int32) (hx : x ≤ 9) (hy : y ≤ 9) (hI : (I 2 0).toInt ≤ 10 ∧ (I 2 1).toInt ≤ 10) : CT g mX8_changePath 2 0 0 [.ref 1, .int (nI x), .int (nI y), .int v] (tq_SC ++ rest) tq_RR I J (tq_ret (tq_SC ++ rest) tq_RR none (I_X8_changePath I x y v) J) := by
  refine CT.ret kX8_changePath (Nat.le_of_ble_eq_true rfl) (fun x0 C hR hZ => ?_)
  refine EV_en (lv' := [some (.ref 1), some (.int (nI x)), some (.int (nI y)), some (.int v)]) 0 rfl ?_
  refine EV_blk (own := 8) C rfl [(.aload_n 0, 0, 0, 0, 0), (.getfield 12, 8, 0, 190, 0), (.iload_n 1, 0, 0, 0, 0), (.iload_n 2, 0, 0, 0, 0)] (pc' := 6) (by decide +kernel) (lv' := [some (.ref 1), some (.int (nI x)), some (.int (nI y)), some (.int v)]) (st' := [.int (nI y), .int (nI x), .ref 2]) (I' := I) (J' := J) rfl ?_
  refine EV_cV (own := 8) (idx := 77) (μ' := mX3_pathAt) (b := 2) (cb := 3) (av := [.int (nI x), .int (nI y)]) (rest := []) C hR rfl (Or.inl ⟨549, by decide⟩) kX3_pathAt sX3_pathAt (c_X3_pathAt g rest I J x y (by omega) (by omega)) rfl rfl (by decide +kernel) rfl (by decide) (Nat.le_of_ble_eq_true rfl) rfl ⟨Nat.zero_le _, Nat.zero_le _⟩ ?_
  refine EV_blk (own := 8) C rfl [(.iload_n 3, 0, 0, 0, 0)] (pc' := 10) (by decide +kernel) (lv' := [some (.ref 1), some (.int (nI x)), some (.int (nI y)), some (.int v)]) (st' := [.int v, .int (I 4 (y * 10 + x))]) (I' := I) (J' := J) rfl ?_
  refine EV_icmp_eq (off := 33) (tgt := 43) C (by decide +kernel) (by decide) (fun h1 => ?_) (fun h1 => ?_)
  · skip
    exact EV_vret C hZ rfl (by decide +kernel) (Nat.le_refl _) (Nat.le_refl _) ⟨rfl, rfl, rfl, by simp only [I_X8_changePath, if_pos h1], rfl⟩
  · skip
    refine EV_blk (own := 8) C rfl [(.aload_n 0, 0, 0, 0, 0), (.getfield 12, 8, 0, 190, 0), (.getfield 53, 3, 3, 107, 0), (.iload_n 1, 0, 0, 0, 0), (.iload_n 2, 0, 0, 0, 0)] (pc' := 22) (by decide +kernel) (lv' := [some (.ref 1), some (.int (nI x)), some (.int (nI y)), some (.int v)]) (st' := [.int (nI y), .int (nI x), .ref 4]) (I' := I) (J' := J) rfl ?_
    refine EV_cS (own := 8) (idx := 80) (μ' := mX11_cellIndex) (av := [.int (nI x), .int (nI y)]) (rest := [.ref 4]) C hR rfl (Or.inr ⟨365, by decide⟩) kX11_cellIndex sX11_cellIndex (c_X11_cellIndex g rest I J x y ) (by decide +kernel) rfl (by decide) (Nat.le_of_ble_eq_true rfl) rfl ⟨Nat.zero_le _, Nat.zero_le _⟩ ?_
    refine EV_blk (own := 8) C rfl [(.iload_n 3, 0, 0, 0, 0)] (pc' := 26) (by decide +kernel) (lv' := [some (.ref 1), some (.int (nI x)), some (.int (nI y)), some (.int v)]) (st' := [.int v, .int (nI (y * 10 + x)), .ref 4]) (I' := I) (J' := J) rfl ?_
    refine EV_iast (j := (y * 10 + x)) C (by decide +kernel) rfl (nI_toInt (by omega)) (by omega) ?_
    refine EV_blk (own := 8) C rfl [(.aload_n 0, 0, 0, 0, 0), (.iload_n 1, 0, 0, 0, 0), (.iconst 1, 0, 0, 0, (nI 1)), (.isub, 0, 0, 0, 0), (.iload_n 2, 0, 0, 0, 0), (.iconst 1, 0, 0, 0, (nI 1)), (.isub, 0, 0, 0, 0), (.iload_n 1, 0, 0, 0, 0), (.iconst 1, 0, 0, 0, (nI 1)), (.iadd, 0, 0, 0, 0), (.iload_n 2, 0, 0, 0, 0), (.iconst 1, 0, 0, 0, (nI 1)), (.iadd, 0, 0, 0, 0)] (pc' := 40) (by decide +kernel) (lv' := [some (.ref 1), some (.int (nI x)), some (.int (nI y)), some (.int v)]) (st' := [.int ((nI y) + (nI 1)), .int ((nI x) + (nI 1)), .int ((nI y) - (nI 1)), .int ((nI x) - (nI 1)), .ref 1]) (I' := (tq_u I 4 (y * 10 + x) v)) (J' := J) rfl ?_
    refine EV_ste (st' := [.int ((nI (y + 2)) - (nI 1)), .int ((nI (x + 2)) - (nI 1)), .int ((nI y) - (nI 1)), .int ((nI x) - (nI 1)), .ref 1]) (by simp only [nI_add, tq_dec1 (y + 1), tq_dec1 (x + 1)]) ?_
    refine EV_cV (own := 8) (idx := 69) (μ' := mX8_touchBlock) (b := 1) (cb := 8) (av := [.int ((nI x) - (nI 1)), .int ((nI y) - (nI 1)), .int ((nI (x + 2)) - (nI 1)), .int ((nI (y + 2)) - (nI 1))]) (rest := []) C hR rfl (Or.inl ⟨357, by decide⟩) kX8_touchBlock sX8_touchBlock (c_X8_touchBlock g rest (tq_u I 4 (y * 10 + x) v) J x y (x + 2) (y + 2) (by omega) (by omega) (by omega) (by omega) hI) rfl rfl (by decide +kernel) rfl (by decide) (Nat.le_of_ble_eq_true rfl) rfl ⟨Nat.zero_le _, Nat.zero_le _⟩ ?_
    exact EV_vret C hZ rfl (by decide +kernel) (Nat.le_refl _) (Nat.le_refl _) ⟨rfl, rfl, rfl, by simp only [I_X8_changePath, if_neg h1], rfl⟩
theorem fr_X8_changePath (I : tq_I) (x y : Nat) (v : Int32) {cz : Nat} (hc : cz ≠ 4 ∧ cz ≠ 16) (jz : Nat) : I_X8_changePath I x y v cz jz = I cz jz := by
  obtain ⟨hc0, hc1⟩ := hc
  simp only [I_X8_changePath]
  (repeat' split) <;> simp (disch := first | assumption | (simp only [ne_eq] at *; simp [*])) [tq_u, tq_cp, hc0, hc1, fr_tb1, fr_tb2, fr_X8_touchBlock, fr_X8_touchAll, fr_X8_changeCorner]
def f_cb1 (l t r b : Nat) (v : Int32) (y : Nat) (i : Nat) (a : Int32 × tq_I) : Int32 × tq_I := ((a.1 + (r_X8_changeCorner a.2 (l + i) y v)), (I_X8_changeCorner a.2 (l + i) y v))
set_option maxRecDepth 20000 in
theorem lp_cb1 {g : tq_G} {rest : List tq_S} {x0 : tq_X} (C : tq_C g mX8_changeBlock x0) (hR : tq_ht x0 3 0 0) (J : Int64) (l t r b : Nat) (v : Int32) (y : Nat) (hl : l ≤ r + 1) (hr : r ≤ 10) (hy : y ≤ 10) : ∀ (n i : Nat) (a : Int32 × tq_I), i + n = r + 1 - l → (a.2 2 0).toInt ≤ 10 ∧ (a.2 2 1).toInt ≤ 10 → EV g mX8_changeBlock x0 0 0 43 [some (.ref 1), some (.int (nI l)), some (.int (nI t)), some (.int (nI r)), some (.int (nI b)), some (.int v), some (.int ((tq_it (f_cb1 l t r b v y) n i a).1)), some (.int (nI y)), some (.int (nI (l + (i + n))))] [] (tq_SC ++ rest) tq_RR ((tq_it (f_cb1 l t r b v y) n i a).2) J → EV g mX8_changeBlock x0 0 0 16 [some (.ref 1), some (.int (nI l)), some (.int (nI t)), some (.int (nI r)), some (.int (nI b)), some (.int v), some (.int a.1), some (.int (nI y)), some (.int (nI (l + i)))] [] (tq_SC ++ rest) tq_RR a.2 J := by
  intro n
  induction n with
  | zero =>
    intro i a hi hI kk
    rw [Nat.add_zero] at kk
    refine EV_blk (own := 8) C rfl [(.iload 8, 0, 0, 0, 0), (.iload_n 3, 0, 0, 0, 0)] (pc' := 19) (by decide +kernel) (lv' := [some (.ref 1), some (.int (nI l)), some (.int (nI t)), some (.int (nI r)), some (.int (nI b)), some (.int v), some (.int a.1), some (.int (nI y)), some (.int (nI (l + i)))]) (st' := [.int (nI r), .int (nI (l + i))]) (I' := a.2) (J' := J) rfl ?_
    refine EV_icmp_gt (off := 24) (tgt := 43) C (by decide +kernel) (by decide) (fun h1 => ?_) (fun h1 => ?_)
    · skip
      exact kk
    · skip
      exact absurd h1 (by simp (disch := omega) only [Int32.lt_iff_toInt_lt, Int32.le_iff_toInt_le, Int32.toInt_zero, nI_toInt, tq_m1]; omega)
  | succ n ih =>
    intro i a hi hI kk
    rw [show i + (n + 1) = (i + 1) + n by omega] at kk
    refine EV_blk (own := 8) C rfl [(.iload 8, 0, 0, 0, 0), (.iload_n 3, 0, 0, 0, 0)] (pc' := 19) (by decide +kernel) (lv' := [some (.ref 1), some (.int (nI l)), some (.int (nI t)), some (.int (nI r)), some (.int (nI b)), some (.int v), some (.int a.1), some (.int (nI y)), some (.int (nI (l + i)))]) (st' := [.int (nI r), .int (nI (l + i))]) (I' := a.2) (J' := J) rfl ?_
    refine EV_icmp_gt (off := 24) (tgt := 43) C (by decide +kernel) (by decide) (fun h1 => ?_) (fun h1 => ?_)
    · skip
      exact absurd h1 (by simp (disch := omega) only [Int32.lt_iff_toInt_lt, Int32.le_iff_toInt_le, Int32.toInt_zero, nI_toInt, tq_m1]; omega)
    · skip
      refine EV_blk (own := 8) C rfl [(.iload 6, 0, 0, 0, 0), (.aload_n 0, 0, 0, 0, 0), (.iload 8, 0, 0, 0, 0), (.iload 7, 0, 0, 0, 0), (.iload 5, 0, 0, 0, 0)] (pc' := 31) (by decide +kernel) (lv' := [some (.ref 1), some (.int (nI l)), some (.int (nI t)), some (.int (nI r)), some (.int (nI b)), some (.int v), some (.int a.1), some (.int (nI y)), some (.int (nI (l + i)))]) (st' := [.int v, .int (nI y), .int (nI (l + i)), .ref 1, .int a.1]) (I' := a.2) (J' := J) rfl ?_
      refine EV_cV (own := 8) (idx := 73) (μ' := mX8_changeCorner) (b := 1) (cb := 8) (av := [.int (nI (l + i)), .int (nI y), .int v]) (rest := [.int a.1]) C hR rfl (Or.inl ⟨485, by decide⟩) kX8_changeCorner sX8_changeCorner (c_X8_changeCorner g rest a.2 J (l + i) y v (by omega) (by omega) hI) rfl rfl (by decide +kernel) rfl (by decide) (Nat.le_of_ble_eq_true rfl) rfl ⟨Nat.zero_le _, Nat.zero_le _⟩ ?_
      refine EV_blk (own := 8) C rfl [(.iadd, 0, 0, 0, 0), (.istore 6, 0, 0, 0, 0), (.iinc 8 1, 0, 0, 0, (nI 1)), (.goto (-24), 0, 0, 0, 0)] (pc' := 16) (by decide +kernel) (lv' := [some (.ref 1), some (.int (nI l)), some (.int (nI t)), some (.int (nI r)), some (.int (nI b)), some (.int v), some (.int (a.1 + (r_X8_changeCorner a.2 (l + i) y v))), some (.int (nI y)), some (.int ((nI (l + i)) + (nI 1)))]) (st' := []) (I' := (I_X8_changeCorner a.2 (l + i) y v)) (J' := J) rfl ?_
      rw [show ((nI (l + i)) + (nI 1)) = (nI (l + (i + 1))) from by simp (disch := omega) only [nI_add, tq_mul] <;> exact congrArg nI (by omega)]
      rw [tq_its, show (f_cb1 l t r b v y) i a = ((a.1 + (r_X8_changeCorner a.2 (l + i) y v)), (I_X8_changeCorner a.2 (l + i) y v)) from by simp only [f_cb1, if_neg h1]] at kk
      exact ih (i + 1) ((a.1 + (r_X8_changeCorner a.2 (l + i) y v)), (I_X8_changeCorner a.2 (l + i) y v)) (by omega) (by simp (disch := decide) only [fr_X8_changeCorner]; exact hI) kk
theorem fr_cb1 (l t r b : Nat) (v : Int32) (y : Nat) {cz : Nat} (hc : cz ≠ 3 ∧ cz ≠ 16) (n i : Nat) (a : Int32 × tq_I) (jz : Nat) : (tq_it (f_cb1 l t r b v y) n i a).2 cz jz = a.2 cz jz := by
  obtain ⟨hc0, hc1⟩ := hc
  refine tq_itF2 (fun i a j => ?_) n i a jz
  simp only [f_cb1]
  (repeat' split) <;> simp (disch := first | assumption | (simp only [ne_eq] at *; simp [*])) [tq_u, tq_cp, hc0, hc1, fr_tb1, fr_tb2, fr_X8_touchBlock, fr_X8_touchAll, fr_X8_changeCorner, fr_X8_changePath]
def f_cb2 (l t r b : Nat) (v : Int32) (i : Nat) (a : Int32 × tq_I) : Int32 × tq_I := ((tq_it (f_cb1 l t r b v (t + i)) (r + 1 - l) 0 (a.1, a.2)).1, (tq_it (f_cb1 l t r b v (t + i)) (r + 1 - l) 0 (a.1, a.2)).2)
set_option maxRecDepth 20000 in
theorem lp_cb2 {g : tq_G} {rest : List tq_S} {x0 : tq_X} (C : tq_C g mX8_changeBlock x0) (hR : tq_ht x0 3 0 0) (J : Int64) (l t r b : Nat) (v : Int32) (hl : l ≤ r + 1) (hr : r ≤ 10) (ht : t ≤ b + 1) (hb : b ≤ 10) : ∀ (n i : Nat) (a : Int32 × tq_I), i + n = b + 1 - t → (a.2 2 0).toInt ≤ 10 ∧ (a.2 2 1).toInt ≤ 10 → EV g mX8_changeBlock x0 0 0 49 [some (.ref 1), some (.int (nI l)), some (.int (nI t)), some (.int (nI r)), some (.int (nI b)), some (.int v), some (.int ((tq_it (f_cb2 l t r b v) n i a).1)), some (.int (nI (t + (i + n)))), none] [] (tq_SC ++ rest) tq_RR ((tq_it (f_cb2 l t r b v) n i a).2) J → EV g mX8_changeBlock x0 0 0 6 [some (.ref 1), some (.int (nI l)), some (.int (nI t)), some (.int (nI r)), some (.int (nI b)), some (.int v), some (.int a.1), some (.int (nI (t + i))), none] [] (tq_SC ++ rest) tq_RR a.2 J := by
  intro n
  induction n with
  | zero =>
    intro i a hi hI kk
    rw [Nat.add_zero] at kk
    refine EV_blk (own := 8) C rfl [(.iload 7, 0, 0, 0, 0), (.iload 4, 0, 0, 0, 0)] (pc' := 10) (by decide +kernel) (lv' := [some (.ref 1), some (.int (nI l)), some (.int (nI t)), some (.int (nI r)), some (.int (nI b)), some (.int v), some (.int a.1), some (.int (nI (t + i))), none]) (st' := [.int (nI b), .int (nI (t + i))]) (I' := a.2) (J' := J) rfl ?_
    refine EV_icmp_gt (off := 39) (tgt := 49) C (by decide +kernel) (by decide) (fun h1 => ?_) (fun h1 => ?_)
    · skip
      exact kk
    · skip
      exact absurd h1 (by simp (disch := omega) only [Int32.lt_iff_toInt_lt, Int32.le_iff_toInt_le, Int32.toInt_zero, nI_toInt, tq_m1]; omega)
  | succ n ih =>
    intro i a hi hI kk
    rw [show i + (n + 1) = (i + 1) + n by omega] at kk
    refine EV_blk (own := 8) C rfl [(.iload 7, 0, 0, 0, 0), (.iload 4, 0, 0, 0, 0)] (pc' := 10) (by decide +kernel) (lv' := [some (.ref 1), some (.int (nI l)), some (.int (nI t)), some (.int (nI r)), some (.int (nI b)), some (.int v), some (.int a.1), some (.int (nI (t + i))), none]) (st' := [.int (nI b), .int (nI (t + i))]) (I' := a.2) (J' := J) rfl ?_
    refine EV_icmp_gt (off := 39) (tgt := 49) C (by decide +kernel) (by decide) (fun h1 => ?_) (fun h1 => ?_)
    · skip
      exact absurd h1 (by simp (disch := omega) only [Int32.lt_iff_toInt_lt, Int32.le_iff_toInt_le, Int32.toInt_zero, nI_toInt, tq_m1]; omega)
    · skip
      refine EV_blk (own := 8) C rfl [(.iload_n 1, 0, 0, 0, 0), (.istore 8, 0, 0, 0, 0)] (pc' := 16) (by decide +kernel) (lv' := [some (.ref 1), some (.int (nI l)), some (.int (nI t)), some (.int (nI r)), some (.int (nI b)), some (.int v), some (.int a.1), some (.int (nI (t + i))), some (.int (nI l))]) (st' := []) (I' := a.2) (J' := J) rfl ?_
      refine lp_cb1 C hR J l t r b v (t + i) hl hr (by omega) (r + 1 - l) 0 (a.1, a.2) (by omega) hI ?_
      refine EV_blk (own := 8) C rfl [(.iinc 7 1, 0, 0, 0, (nI 1)), (.goto (-40), 0, 0, 0, 0)] (pc' := 6) (by decide +kernel) (lv' := [some (.ref 1), some (.int (nI l)), some (.int (nI t)), some (.int (nI r)), some (.int (nI b)), some (.int v), some (.int ((tq_it (f_cb1 l t r b v (t + i)) (r + 1 - l) 0 (a.1, a.2)).1)), some (.int ((nI (t + i)) + (nI 1))), some (.int (nI (l + (0 + (r + 1 - l)))))]) (st' := []) (I' := (tq_it (f_cb1 l t r b v (t + i)) (r + 1 - l) 0 (a.1, a.2)).2) (J' := J) rfl ?_
      refine EV_fg (lv' := [some (.ref 1), some (.int (nI l)), some (.int (nI t)), some (.int (nI r)), some (.int (nI b)), some (.int v), some (.int ((tq_it (f_cb1 l t r b v (t + i)) (r + 1 - l) 0 (a.1, a.2)).1)), some (.int ((nI (t + i)) + (nI 1))), none]) ⟨rfl, rfl, rfl, rfl, rfl, rfl, rfl, rfl, trivial⟩ ?_
      rw [show ((nI (t + i)) + (nI 1)) = (nI (t + (i + 1))) from by simp (disch := omega) only [nI_add, tq_mul] <;> exact congrArg nI (by omega)]
      rw [tq_its, show (f_cb2 l t r b v) i a = ((tq_it (f_cb1 l t r b v (t + i)) (r + 1 - l) 0 (a.1, a.2)).1, (tq_it (f_cb1 l t r b v (t + i)) (r + 1 - l) 0 (a.1, a.2)).2) from by simp only [f_cb2, if_neg h1]] at kk
      exact ih (i + 1) ((tq_it (f_cb1 l t r b v (t + i)) (r + 1 - l) 0 (a.1, a.2)).1, (tq_it (f_cb1 l t r b v (t + i)) (r + 1 - l) 0 (a.1, a.2)).2) (by omega) (by simp (disch := decide) only [fr_cb1]; exact hI) kk
theorem fr_cb2 (l t r b : Nat) (v : Int32) {cz : Nat} (hc : cz ≠ 3 ∧ cz ≠ 16) (n i : Nat) (a : Int32 × tq_I) (jz : Nat) : (tq_it (f_cb2 l t r b v) n i a).2 cz jz = a.2 cz jz := by
  obtain ⟨hc0, hc1⟩ := hc
  refine tq_itF2 (fun i a j => ?_) n i a jz
  simp only [f_cb2]
  (repeat' split) <;> simp (disch := first | assumption | (simp only [ne_eq] at *; simp [*])) [tq_u, tq_cp, hc0, hc1, fr_tb1, fr_tb2, fr_X8_touchBlock, fr_X8_touchAll, fr_X8_changeCorner, fr_X8_changePath, fr_cb1]
def r_X8_changeBlock (I : tq_I) (l t r b : Nat) (v : Int32) : Int32 := (tq_it (f_cb2 l t r b v) (b + 1 - t) 0 ((nI 0), I)).1
def I_X8_changeBlock (I : tq_I) (l t r b : Nat) (v : Int32) : tq_I := (tq_it (f_cb2 l t r b v) (b + 1 - t) 0 ((nI 0), I)).2
set_option maxRecDepth 20000 in
theorem c_X8_changeBlock (g : tq_G) (rest : List tq_S) (I : tq_I) (J : Int64) (l t r b : Nat) (v : Int32) (hl : l ≤ r + 1) (hr : r ≤ 10) (ht : t ≤ b + 1) (hb : b ≤ 10) (hI : (I 2 0).toInt ≤ 10 ∧ (I 2 1).toInt ≤ 10) : CT g mX8_changeBlock 3 0 0 [.ref 1, .int (nI l), .int (nI t), .int (nI r), .int (nI b), .int v] (tq_SC ++ rest) tq_RR I J (tq_ret (tq_SC ++ rest) tq_RR (some (.int (r_X8_changeBlock I l t r b v))) (I_X8_changeBlock I l t r b v) J) := by
  refine CT.ret kX8_changeBlock (Nat.le_of_ble_eq_true rfl) (fun x0 C hR hZ => ?_)
  refine EV_en (lv' := [some (.ref 1), some (.int (nI l)), some (.int (nI t)), some (.int (nI r)), some (.int (nI b)), some (.int v), none, none, none]) 3 rfl ?_
  refine EV_blk (own := 8) C rfl [(.iconst 0, 0, 0, 0, (nI 0)), (.istore 6, 0, 0, 0, 0), (.iload_n 2, 0, 0, 0, 0), (.istore 7, 0, 0, 0, 0)] (pc' := 6) (by decide +kernel) (lv' := [some (.ref 1), some (.int (nI l)), some (.int (nI t)), some (.int (nI r)), some (.int (nI b)), some (.int v), some (.int (nI 0)), some (.int (nI t)), none]) (st' := []) (I' := I) (J' := J) rfl ?_
  refine lp_cb2 C hR J l t r b v hl hr ht hb (b + 1 - t) 0 ((nI 0), I) (by omega) hI ?_
  refine EV_blk (own := 8) C rfl [(.iload 6, 0, 0, 0, 0)] (pc' := 51) (by decide +kernel) (lv' := [some (.ref 1), some (.int (nI l)), some (.int (nI t)), some (.int (nI r)), some (.int (nI b)), some (.int v), some (.int ((tq_it (f_cb2 l t r b v) (b + 1 - t) 0 ((nI 0), I)).1)), some (.int (nI (t + (0 + (b + 1 - t))))), none]) (st' := [.int ((tq_it (f_cb2 l t r b v) (b + 1 - t) 0 ((nI 0), I)).1)]) (I' := (tq_it (f_cb2 l t r b v) (b + 1 - t) 0 ((nI 0), I)).2) (J' := J) rfl ?_
  exact EV_iret C hZ rfl (by decide +kernel) (Nat.le_refl _) (Nat.le_refl _) ⟨tq_some (by simp only [r_X8_changeBlock]), rfl, rfl, by simp only [I_X8_changeBlock], rfl⟩
theorem fr_X8_changeBlock (I : tq_I) (l t r b : Nat) (v : Int32) {cz : Nat} (hc : cz ≠ 3 ∧ cz ≠ 16) (jz : Nat) : I_X8_changeBlock I l t r b v cz jz = I cz jz := by
  obtain ⟨hc0, hc1⟩ := hc
  simp only [I_X8_changeBlock]
  (repeat' split) <;> simp (disch := first | assumption | (simp only [ne_eq] at *; simp [*])) [tq_u, tq_cp, hc0, hc1, fr_tb1, fr_tb2, fr_X8_touchBlock, fr_X8_touchAll, fr_X8_changeCorner, fr_X8_changePath, fr_cb1, fr_cb2]
def f_wipe1  (i : Nat) (a : tq_I) : tq_I := (tq_u (tq_u (tq_u a 13 i (nI 0)) 15 i (-1)) 16 i (nI 0))
set_option maxRecDepth 20000 in
theorem lp_wipe1 {g : tq_G} {rest : List tq_S} {x0 : tq_X} (C : tq_C g mX1_wipe x0) (hR : tq_ht x0 0 0 0) (J : Int64)   : ∀ (n i : Nat) (a : tq_I), i + n = 100 → EV g mX1_wipe x0 0 0 35 [some (.ref 12), some (.int (nI (i + n)))] [] (tq_SC ++ rest) tq_RR (tq_it (f_wipe1) n i a) J → EV g mX1_wipe x0 0 0 2 [some (.ref 12), some (.int (nI i))] [] (tq_SC ++ rest) tq_RR a J := by
  intro n
  induction n with
  | zero =>
    intro i a hi kk
    rw [Nat.add_zero] at kk
    refine EV_blk (own := 1) C rfl [(.iload_n 1, 0, 0, 0, 0), (.bipush 100, 0, 0, 0, (nI 100))] (pc' := 5) (by decide +kernel) (lv' := [some (.ref 12), some (.int (nI i))]) (st' := [.int (nI 100), .int (nI i)]) (I' := a) (J' := J) rfl ?_
    refine EV_icmp_ge (off := 30) (tgt := 35) C (by decide +kernel) (by decide) (fun h1 => ?_) (fun h1 => ?_)
    · skip
      exact kk
    · skip
      exact absurd h1 (by simp (disch := omega) only [Int32.lt_iff_toInt_lt, Int32.le_iff_toInt_le, Int32.toInt_zero, nI_toInt, tq_m1]; omega)
  | succ n ih =>
    intro i a hi kk
    rw [show i + (n + 1) = (i + 1) + n by omega] at kk
    refine EV_blk (own := 1) C rfl [(.iload_n 1, 0, 0, 0, 0), (.bipush 100, 0, 0, 0, (nI 100))] (pc' := 5) (by decide +kernel) (lv' := [some (.ref 12), some (.int (nI i))]) (st' := [.int (nI 100), .int (nI i)]) (I' := a) (J' := J) rfl ?_
    refine EV_icmp_ge (off := 30) (tgt := 35) C (by decide +kernel) (by decide) (fun h1 => ?_) (fun h1 => ?_)
    · skip
      exact absurd h1 (by simp (disch := omega) only [Int32.lt_iff_toInt_lt, Int32.le_iff_toInt_le, Int32.toInt_zero, nI_toInt, tq_m1]; omega)
    · skip
      refine EV_blk (own := 1) C rfl [(.aload_n 0, 0, 0, 0, 0), (.getfield 9, 1, 0, 173, 0), (.iload_n 1, 0, 0, 0, 0), (.iconst 0, 0, 0, 0, (nI 0))] (pc' := 14) (by decide +kernel) (lv' := [some (.ref 12), some (.int (nI i))]) (st' := [.int (nI 0), .int (nI i), .ref 13]) (I' := a) (J' := J) rfl ?_
      refine EV_iast (j := i) C (by decide +kernel) rfl (nI_toInt (by omega)) (by omega) ?_
      refine EV_blk (own := 1) C rfl [(.aload_n 0, 0, 0, 0, 0), (.getfield 18, 1, 2, 177, 0), (.iload_n 1, 0, 0, 0, 0), (.iconst (-1), 0, 0, 0, (-1))] (pc' := 21) (by decide +kernel) (lv' := [some (.ref 12), some (.int (nI i))]) (st' := [.int (-1), .int (nI i), .ref 15]) (I' := (tq_u a 13 i (nI 0))) (J' := J) rfl ?_
      refine EV_iast (j := i) C (by decide +kernel) rfl (nI_toInt (by omega)) (by omega) ?_
      refine EV_blk (own := 1) C rfl [(.aload_n 0, 0, 0, 0, 0), (.getfield 21, 1, 3, 178, 0), (.iload_n 1, 0, 0, 0, 0), (.iconst 0, 0, 0, 0, (nI 0))] (pc' := 28) (by decide +kernel) (lv' := [some (.ref 12), some (.int (nI i))]) (st' := [.int (nI 0), .int (nI i), .ref 16]) (I' := (tq_u (tq_u a 13 i (nI 0)) 15 i (-1))) (J' := J) rfl ?_
      refine EV_iast (j := i) C (by decide +kernel) rfl (nI_toInt (by omega)) (by omega) ?_
      refine EV_blk (own := 1) C rfl [(.iinc 1 1, 0, 0, 0, (nI 1)), (.goto (-30), 0, 0, 0, 0)] (pc' := 2) (by decide +kernel) (lv' := [some (.ref 12), some (.int ((nI i) + (nI 1)))]) (st' := []) (I' := (tq_u (tq_u (tq_u a 13 i (nI 0)) 15 i (-1)) 16 i (nI 0))) (J' := J) rfl ?_
      rw [show ((nI i) + (nI 1)) = (nI (i + 1)) from by simp (disch := omega) only [nI_add, tq_mul] <;> exact congrArg nI (by omega)]
      rw [tq_its, show (f_wipe1) i a = (tq_u (tq_u (tq_u a 13 i (nI 0)) 15 i (-1)) 16 i (nI 0)) from by simp only [f_wipe1, if_neg h1]] at kk
      exact ih (i + 1) (tq_u (tq_u (tq_u a 13 i (nI 0)) 15 i (-1)) 16 i (nI 0)) (by omega) kk
theorem fr_wipe1  {cz : Nat} (hc : cz ≠ 13 ∧ cz ≠ 15 ∧ cz ≠ 16) (n i : Nat) (a : tq_I) (jz : Nat) : (tq_it (f_wipe1) n i a) cz jz = a cz jz := by
  obtain ⟨hc0, hc1, hc2⟩ := hc
  refine tq_itF (fun i a j => ?_) n i a jz
  simp only [f_wipe1]
  (repeat' split) <;> simp (disch := first | assumption | (simp only [ne_eq] at *; simp [*])) [tq_u, tq_cp, hc0, hc1, hc2, fr_tb1, fr_tb2, fr_X8_touchBlock, fr_X8_touchAll, fr_X8_changeCorner, fr_X8_changePath, fr_cb1, fr_cb2, fr_X8_changeBlock]
def I_X1_wipe (I : tq_I)  : tq_I := (tq_it (f_wipe1) 100 0 I)
set_option maxRecDepth 20000 in
theorem c_X1_wipe (g : tq_G) (rest : List tq_S) (I : tq_I) (J : Int64)   : CT g mX1_wipe 0 0 0 [.ref 12] (tq_SC ++ rest) tq_RR I J (tq_ret (tq_SC ++ rest) tq_RR none (I_X1_wipe I) J) := by
  refine CT.ret kX1_wipe (Nat.le_of_ble_eq_true rfl) (fun x0 C hR hZ => ?_)
  refine EV_en (lv' := [some (.ref 12), none]) 1 rfl ?_
  refine EV_blk (own := 1) C rfl [(.iconst 0, 0, 0, 0, (nI 0)), (.istore_n 1, 0, 0, 0, 0)] (pc' := 2) (by decide +kernel) (lv' := [some (.ref 12), some (.int (nI 0))]) (st' := []) (I' := I) (J' := J) rfl ?_
  refine lp_wipe1 C hR J  100 0 I (by omega) ?_
  exact EV_vret C hZ rfl (by decide +kernel) (Nat.le_refl _) (Nat.le_refl _) ⟨rfl, rfl, rfl, by simp only [I_X1_wipe], rfl⟩
theorem fr_X1_wipe (I : tq_I)  {cz : Nat} (hc : cz ≠ 13 ∧ cz ≠ 15 ∧ cz ≠ 16) (jz : Nat) : I_X1_wipe I  cz jz = I cz jz := by
  obtain ⟨hc0, hc1, hc2⟩ := hc
  simp only [I_X1_wipe]
  (repeat' split) <;> simp (disch := first | assumption | (simp only [ne_eq] at *; simp [*])) [tq_u, tq_cp, hc0, hc1, hc2, fr_tb1, fr_tb2, fr_X8_touchBlock, fr_X8_touchAll, fr_X8_changeCorner, fr_X8_changePath, fr_cb1, fr_cb2, fr_X8_changeBlock, fr_wipe1]
set_option maxRecDepth 20000 in
theorem c_X1_codeAt (g : tq_G) (rest : List tq_S) (I : tq_I) (J : Int64) (c k : Nat) (hc : c ≤ 99) (hk : k < 7) : CT g mX1_codeAt 0 0 0 [.ref 12, .int (nI c), .int (nI k)] (tq_SC ++ rest) tq_RR I J (tq_ret (tq_SC ++ rest) tq_RR (some (.int (I 14 (c * 7 + k)))) I J) := by
  refine CT.ret kX1_codeAt (Nat.le_of_ble_eq_true rfl) (fun x0 C hR hZ => ?_)
  refine EV_en (lv' := [some (.ref 12), some (.int (nI c)), some (.int (nI k))]) 0 rfl ?_
  refine EV_blk (own := 1) C rfl [(.aload_n 0, 0, 0, 0, 0), (.getfield 15, 1, 1, 176, 0), (.iload_n 1, 0, 0, 0, 0), (.bipush 7, 0, 0, 0, (nI 7)), (.imul, 0, 0, 0, 0), (.iload_n 2, 0, 0, 0, 0), (.iadd, 0, 0, 0, 0)] (pc' := 10) (by decide +kernel) (lv' := [some (.ref 12), some (.int (nI c)), some (.int (nI k))]) (st' := [.int (((nI c) * (nI 7)) + (nI k)), .ref 14]) (I' := I) (J' := J) rfl ?_
  refine EV_iald (j := ((c * 7) + k)) C (by decide +kernel) rfl (tq_toI ((c * 7) + k) (by simp (disch := omega) only [nI_add, tq_mul, tq_rem_nI, tq_div_nI, tq_sub_nI]) (by omega)) (by omega) ?_
  exact EV_iret C hZ rfl (by decide +kernel) (Nat.le_refl _) (Nat.le_refl _) ⟨rfl, rfl, rfl, rfl, rfl⟩
def f_sm1 (w h : Nat) (t : Int32) (i : Nat) (a : tq_I) : tq_I := (tq_u a 3 i t)
set_option maxRecDepth 20000 in
theorem lp_sm1 {g : tq_G} {rest : List tq_S} {x0 : tq_X} (C : tq_C g mX8_startMap x0) (hR : tq_ht x0 3 0 0) (J : Int64) (w h : Nat) (t : Int32)  : ∀ (n i : Nat) (a : tq_I), i + n = 121 → EV g mX8_startMap x0 0 0 43 [some (.ref 1), some (.int (nI w)), some (.int (nI h)), some (.int t), some (.int (nI (i + n)))] [] (tq_SC ++ rest) tq_RR (tq_it (f_sm1 w h t) n i a) J → EV g mX8_startMap x0 0 0 19 [some (.ref 1), some (.int (nI w)), some (.int (nI h)), some (.int t), some (.int (nI i))] [] (tq_SC ++ rest) tq_RR a J := by
  intro n
  induction n with
  | zero =>
    intro i a hi kk
    rw [Nat.add_zero] at kk
    refine EV_blk (own := 8) C rfl [(.iload 4, 0, 0, 0, 0), (.bipush 121, 0, 0, 0, (nI 121))] (pc' := 23) (by decide +kernel) (lv' := [some (.ref 1), some (.int (nI w)), some (.int (nI h)), some (.int t), some (.int (nI i))]) (st' := [.int (nI 121), .int (nI i)]) (I' := a) (J' := J) rfl ?_
    refine EV_icmp_ge (off := 20) (tgt := 43) C (by decide +kernel) (by decide) (fun h1 => ?_) (fun h1 => ?_)
    · skip
      exact kk
    · skip
      exact absurd h1 (by simp (disch := omega) only [Int32.lt_iff_toInt_lt, Int32.le_iff_toInt_le, Int32.toInt_zero, nI_toInt, tq_m1]; omega)
  | succ n ih =>
    intro i a hi kk
    rw [show i + (n + 1) = (i + 1) + n by omega] at kk
    refine EV_blk (own := 8) C rfl [(.iload 4, 0, 0, 0, 0), (.bipush 121, 0, 0, 0, (nI 121))] (pc' := 23) (by decide +kernel) (lv' := [some (.ref 1), some (.int (nI w)), some (.int (nI h)), some (.int t), some (.int (nI i))]) (st' := [.int (nI 121), .int (nI i)]) (I' := a) (J' := J) rfl ?_
    refine EV_icmp_ge (off := 20) (tgt := 43) C (by decide +kernel) (by decide) (fun h1 => ?_) (fun h1 => ?_)
    · skip
      exact absurd h1 (by simp (disch := omega) only [Int32.lt_iff_toInt_lt, Int32.le_iff_toInt_le, Int32.toInt_zero, nI_toInt, tq_m1]; omega)
    · skip
      refine EV_blk (own := 8) C rfl [(.aload_n 0, 0, 0, 0, 0), (.getfield 12, 8, 0, 190, 0), (.getfield 49, 3, 2, 104, 0), (.iload 4, 0, 0, 0, 0), (.iload_n 3, 0, 0, 0, 0)] (pc' := 36) (by decide +kernel) (lv' := [some (.ref 1), some (.int (nI w)), some (.int (nI h)), some (.int t), some (.int (nI i))]) (st' := [.int t, .int (nI i), .ref 3]) (I' := a) (J' := J) rfl ?_
      refine EV_iast (j := i) C (by decide +kernel) rfl (nI_toInt (by omega)) (by omega) ?_
      refine EV_blk (own := 8) C rfl [(.iinc 4 1, 0, 0, 0, (nI 1)), (.goto (-21), 0, 0, 0, 0)] (pc' := 19) (by decide +kernel) (lv' := [some (.ref 1), some (.int (nI w)), some (.int (nI h)), some (.int t), some (.int ((nI i) + (nI 1)))]) (st' := []) (I' := (tq_u a 3 i t)) (J' := J) rfl ?_
      rw [show ((nI i) + (nI 1)) = (nI (i + 1)) from by simp (disch := omega) only [nI_add, tq_mul] <;> exact congrArg nI (by omega)]
      rw [tq_its, show (f_sm1 w h t) i a = (tq_u a 3 i t) from by simp only [f_sm1, if_neg h1]] at kk
      exact ih (i + 1) (tq_u a 3 i t) (by omega) kk
theorem fr_sm1 (w h : Nat) (t : Int32) {cz : Nat} (hc : cz ≠ 3) (n i : Nat) (a : tq_I) (jz : Nat) : (tq_it (f_sm1 w h t) n i a) cz jz = a cz jz := by
  have hc0 := hc
  refine tq_itF (fun i a j => ?_) n i a jz
  simp only [f_sm1]
  (repeat' split) <;> simp (disch := first | assumption | (simp only [ne_eq] at *; simp [*])) [tq_u, tq_cp, hc0, fr_tb1, fr_tb2, fr_X8_touchBlock, fr_X8_touchAll, fr_X8_changeCorner, fr_X8_changePath, fr_cb1, fr_cb2, fr_X8_changeBlock, fr_wipe1, fr_X1_wipe]
def f_sm2 (w h : Nat) (t : Int32) (i : Nat) (a : tq_I) : tq_I := (tq_u a 4 i (nI 0))
set_option maxRecDepth 20000 in
theorem lp_sm2 {g : tq_G} {rest : List tq_S} {x0 : tq_X} (C : tq_C g mX8_startMap x0) (hR : tq_ht x0 3 0 0) (J : Int64) (w h : Nat) (t : Int32)  : ∀ (n i : Nat) (a : tq_I), i + n = 100 → EV g mX8_startMap x0 0 0 70 [some (.ref 1), some (.int (nI w)), some (.int (nI h)), some (.int t), some (.int (nI (i + n)))] [] (tq_SC ++ rest) tq_RR (tq_it (f_sm2 w h t) n i a) J → EV g mX8_startMap x0 0 0 46 [some (.ref 1), some (.int (nI w)), some (.int (nI h)), some (.int t), some (.int (nI i))] [] (tq_SC ++ rest) tq_RR a J := by
  intro n
  induction n with
  | zero =>
    intro i a hi kk
    rw [Nat.add_zero] at kk
    refine EV_blk (own := 8) C rfl [(.iload 4, 0, 0, 0, 0), (.bipush 100, 0, 0, 0, (nI 100))] (pc' := 50) (by decide +kernel) (lv' := [some (.ref 1), some (.int (nI w)), some (.int (nI h)), some (.int t), some (.int (nI i))]) (st' := [.int (nI 100), .int (nI i)]) (I' := a) (J' := J) rfl ?_
    refine EV_icmp_ge (off := 20) (tgt := 70) C (by decide +kernel) (by decide) (fun h1 => ?_) (fun h1 => ?_)
    · skip
      exact kk
    · skip
      exact absurd h1 (by simp (disch := omega) only [Int32.lt_iff_toInt_lt, Int32.le_iff_toInt_le, Int32.toInt_zero, nI_toInt, tq_m1]; omega)
  | succ n ih =>
    intro i a hi kk
    rw [show i + (n + 1) = (i + 1) + n by omega] at kk
    refine EV_blk (own := 8) C rfl [(.iload 4, 0, 0, 0, 0), (.bipush 100, 0, 0, 0, (nI 100))] (pc' := 50) (by decide +kernel) (lv' := [some (.ref 1), some (.int (nI w)), some (.int (nI h)), some (.int t), some (.int (nI i))]) (st' := [.int (nI 100), .int (nI i)]) (I' := a) (J' := J) rfl ?_
    refine EV_icmp_ge (off := 20) (tgt := 70) C (by decide +kernel) (by decide) (fun h1 => ?_) (fun h1 => ?_)
    · skip
      exact absurd h1 (by simp (disch := omega) only [Int32.lt_iff_toInt_lt, Int32.le_iff_toInt_le, Int32.toInt_zero, nI_toInt, tq_m1]; omega)
    · skip
      refine EV_blk (own := 8) C rfl [(.aload_n 0, 0, 0, 0, 0), (.getfield 12, 8, 0, 190, 0), (.getfield 53, 3, 3, 107, 0), (.iload 4, 0, 0, 0, 0), (.iconst 0, 0, 0, 0, (nI 0))] (pc' := 63) (by decide +kernel) (lv' := [some (.ref 1), some (.int (nI w)), some (.int (nI h)), some (.int t), some (.int (nI i))]) (st' := [.int (nI 0), .int (nI i), .ref 4]) (I' := a) (J' := J) rfl ?_
      refine EV_iast (j := i) C (by decide +kernel) rfl (nI_toInt (by omega)) (by omega) ?_
      refine EV_blk (own := 8) C rfl [(.iinc 4 1, 0, 0, 0, (nI 1)), (.goto (-21), 0, 0, 0, 0)] (pc' := 46) (by decide +kernel) (lv' := [some (.ref 1), some (.int (nI w)), some (.int (nI h)), some (.int t), some (.int ((nI i) + (nI 1)))]) (st' := []) (I' := (tq_u a 4 i (nI 0))) (J' := J) rfl ?_
      rw [show ((nI i) + (nI 1)) = (nI (i + 1)) from by simp (disch := omega) only [nI_add, tq_mul] <;> exact congrArg nI (by omega)]
      rw [tq_its, show (f_sm2 w h t) i a = (tq_u a 4 i (nI 0)) from by simp only [f_sm2, if_neg h1]] at kk
      exact ih (i + 1) (tq_u a 4 i (nI 0)) (by omega) kk
theorem fr_sm2 (w h : Nat) (t : Int32) {cz : Nat} (hc : cz ≠ 4) (n i : Nat) (a : tq_I) (jz : Nat) : (tq_it (f_sm2 w h t) n i a) cz jz = a cz jz := by
  have hc0 := hc
  refine tq_itF (fun i a j => ?_) n i a jz
  simp only [f_sm2]
  (repeat' split) <;> simp (disch := first | assumption | (simp only [ne_eq] at *; simp [*])) [tq_u, tq_cp, hc0, fr_tb1, fr_tb2, fr_X8_touchBlock, fr_X8_touchAll, fr_X8_changeCorner, fr_X8_changePath, fr_cb1, fr_cb2, fr_X8_changeBlock, fr_wipe1, fr_X1_wipe, fr_sm1]
def I_X8_startMap (I : tq_I) (w h : Nat) (t : Int32) : tq_I := (I_X8_touchAll (I_X1_wipe (tq_it (f_sm2 w h t) 100 0 (tq_it (f_sm1 w h t) 121 0 (tq_u (tq_u I 2 0 (nI w)) 2 1 (nI h))))) w h)
set_option maxRecDepth 20000 in
theorem c_X8_startMap (g : tq_G) (rest : List tq_S) (I : tq_I) (J : Int64) (w h : Nat) (t : Int32) (hw10 : w ≤ 10) (hh10 : h ≤ 10) : CT g mX8_startMap 3 0 0 [.ref 1, .int (nI w), .int (nI h), .int t] (tq_SC ++ rest) tq_RR I J (tq_ret (tq_SC ++ rest) tq_RR none (I_X8_startMap I w h t) J) := by
  refine CT.ret kX8_startMap (Nat.le_of_ble_eq_true rfl) (fun x0 C hR hZ => ?_)
  refine EV_en (lv' := [some (.ref 1), some (.int (nI w)), some (.int (nI h)), some (.int t), none]) 1 rfl ?_
  refine EV_blk (own := 8) C rfl [(.aload_n 0, 0, 0, 0, 0), (.getfield 12, 8, 0, 190, 0), (.iload_n 1, 0, 0, 0, 0), (.putfield 42, 3, 0, 97, 0), (.aload_n 0, 0, 0, 0, 0), (.getfield 12, 8, 0, 190, 0), (.iload_n 2, 0, 0, 0, 0), (.putfield 46, 3, 1, 101, 0), (.iconst 0, 0, 0, 0, (nI 0)), (.istore 4, 0, 0, 0, 0)] (pc' := 19) (by decide +kernel) (lv' := [some (.ref 1), some (.int (nI w)), some (.int (nI h)), some (.int t), some (.int (nI 0))]) (st' := []) (I' := (tq_u (tq_u I 2 0 (nI w)) 2 1 (nI h))) (J' := J) rfl ?_
  refine lp_sm1 C hR J w h t  121 0 (tq_u (tq_u I 2 0 (nI w)) 2 1 (nI h)) (by omega) ?_
  refine EV_blk (own := 8) C rfl [(.iconst 0, 0, 0, 0, (nI 0)), (.istore 4, 0, 0, 0, 0)] (pc' := 46) (by decide +kernel) (lv' := [some (.ref 1), some (.int (nI w)), some (.int (nI h)), some (.int t), some (.int (nI 0))]) (st' := []) (I' := (tq_it (f_sm1 w h t) 121 0 (tq_u (tq_u I 2 0 (nI w)) 2 1 (nI h)))) (J' := J) rfl ?_
  refine lp_sm2 C hR J w h t  100 0 (tq_it (f_sm1 w h t) 121 0 (tq_u (tq_u I 2 0 (nI w)) 2 1 (nI h))) (by omega) ?_
  refine EV_blk (own := 8) C rfl [(.aload_n 0, 0, 0, 0, 0), (.getfield 28, 8, 2, 197, 0)] (pc' := 74) (by decide +kernel) (lv' := [some (.ref 1), some (.int (nI w)), some (.int (nI h)), some (.int t), some (.int (nI ((0 + 100))))]) (st' := [.ref 12]) (I' := (tq_it (f_sm2 w h t) 100 0 (tq_it (f_sm1 w h t) 121 0 (tq_u (tq_u I 2 0 (nI w)) 2 1 (nI h))))) (J' := J) rfl ?_
  refine EV_cV (own := 8) (idx := 56) (μ' := mX1_wipe) (b := 12) (cb := 1) (av := []) (rest := []) C hR rfl (Or.inl ⟨349, by decide⟩) kX1_wipe sX1_wipe (c_X1_wipe g rest (tq_it (f_sm2 w h t) 100 0 (tq_it (f_sm1 w h t) 121 0 (tq_u (tq_u I 2 0 (nI w)) 2 1 (nI h)))) J  ) rfl rfl (by decide +kernel) rfl (by decide) (Nat.le_of_ble_eq_true rfl) rfl ⟨Nat.zero_le _, Nat.zero_le _⟩ ?_
  refine EV_blk (own := 8) C rfl [(.aload_n 0, 0, 0, 0, 0)] (pc' := 78) (by decide +kernel) (lv' := [some (.ref 1), some (.int (nI w)), some (.int (nI h)), some (.int t), some (.int (nI ((0 + 100))))]) (st' := [.ref 1]) (I' := (I_X1_wipe (tq_it (f_sm2 w h t) 100 0 (tq_it (f_sm1 w h t) 121 0 (tq_u (tq_u I 2 0 (nI w)) 2 1 (nI h)))))) (J' := J) rfl ?_
  refine EV_cV (own := 8) (idx := 59) (μ' := mX8_touchAll) (b := 1) (cb := 8) (av := []) (rest := []) C hR rfl (Or.inl ⟨353, by decide⟩) kX8_touchAll sX8_touchAll (c_X8_touchAll g rest (I_X1_wipe (tq_it (f_sm2 w h t) 100 0 (tq_it (f_sm1 w h t) 121 0 (tq_u (tq_u I 2 0 (nI w)) 2 1 (nI h))))) J w h (by simp (disch := decide) only [fr_X1_wipe, fr_sm1, fr_sm2]; simp [tq_u]) (by simp (disch := decide) only [fr_X1_wipe, fr_sm1, fr_sm2]; simp [tq_u]) hw10 hh10) rfl rfl (by decide +kernel) rfl (by decide) (Nat.le_of_ble_eq_true rfl) rfl ⟨Nat.zero_le _, Nat.zero_le _⟩ ?_
  exact EV_vret C hZ rfl (by decide +kernel) (Nat.le_refl _) (Nat.le_refl _) ⟨rfl, rfl, rfl, by simp only [I_X8_startMap], rfl⟩
theorem fr_X8_startMap (I : tq_I) (w h : Nat) (t : Int32) {cz : Nat} (hc : cz ≠ 2 ∧ cz ≠ 3 ∧ cz ≠ 4 ∧ cz ≠ 13 ∧ cz ≠ 15 ∧ cz ≠ 16) (jz : Nat) : I_X8_startMap I w h t cz jz = I cz jz := by
  obtain ⟨hc0, hc1, hc2, hc3, hc4, hc5⟩ := hc
  simp only [I_X8_startMap]
  (repeat' split) <;> simp (disch := first | assumption | (simp only [ne_eq] at *; simp [*])) [tq_u, tq_cp, hc0, hc1, hc2, hc3, hc4, hc5, fr_tb1, fr_tb2, fr_X8_touchBlock, fr_X8_touchAll, fr_X8_changeCorner, fr_X8_changePath, fr_cb1, fr_cb2, fr_X8_changeBlock, fr_wipe1, fr_X1_wipe, fr_sm1, fr_sm2]
end
section
/-! Rules and Tiles: 5 the rules, 6 ranks, 7 byRank, 8 variants, 9 tiles, 10 sets, 11 partSets; Canvas.shows and take over the sketch 102 .. 106 -/
set_option maxRecDepth 20000 in
theorem c_X6_rankOf (g : tq_G) (rest : List tq_S) (I : tq_I) (J : Int64) (t : Nat) (ht : t ≤ 5) : CT g mX6_rankOf 0 0 0 [.ref 5, .int (nI t)] (tq_SC ++ rest) tq_RR I J (tq_ret (tq_SC ++ rest) tq_RR (some (.int (I 6 t))) I J) := by
  refine CT.ret kX6_rankOf (Nat.le_of_ble_eq_true rfl) (fun x0 C hR hZ => ?_)
  refine EV_en (lv' := [some (.ref 5), some (.int (nI t))]) 0 rfl ?_
  refine EV_blk (own := 6) C rfl [(.aload_n 0, 0, 0, 0, 0), (.getfield 9, 6, 0, 142, 0), (.iload_n 1, 0, 0, 0, 0)] (pc' := 5) (by decide +kernel) (lv' := [some (.ref 5), some (.int (nI t))]) (st' := [.int (nI t), .ref 6]) (I' := I) (J' := J) rfl ?_
  refine EV_iald (j := t) C (by decide +kernel) rfl (nI_toInt (by omega)) (by omega) ?_
  exact EV_iret C hZ rfl (by decide +kernel) (Nat.le_refl _) (Nat.le_refl _) ⟨rfl, rfl, rfl, rfl, rfl⟩
set_option maxRecDepth 20000 in
theorem c_X6_terrainWithRank (g : tq_G) (rest : List tq_S) (I : tq_I) (J : Int64) (t : Nat) (ht : t ≤ 5) : CT g mX6_terrainWithRank 0 0 0 [.ref 5, .int (nI t)] (tq_SC ++ rest) tq_RR I J (tq_ret (tq_SC ++ rest) tq_RR (some (.int (I 7 t))) I J) := by
  refine CT.ret kX6_terrainWithRank (Nat.le_of_ble_eq_true rfl) (fun x0 C hR hZ => ?_)
  refine EV_en (lv' := [some (.ref 5), some (.int (nI t))]) 0 rfl ?_
  refine EV_blk (own := 6) C rfl [(.aload_n 0, 0, 0, 0, 0), (.getfield 15, 6, 1, 143, 0), (.iload_n 1, 0, 0, 0, 0)] (pc' := 5) (by decide +kernel) (lv' := [some (.ref 5), some (.int (nI t))]) (st' := [.int (nI t), .ref 7]) (I' := I) (J' := J) rfl ?_
  refine EV_iald (j := t) C (by decide +kernel) rfl (nI_toInt (by omega)) (by omega) ?_
  exact EV_iret C hZ rfl (by decide +kernel) (Nat.le_refl _) (Nat.le_refl _) ⟨rfl, rfl, rfl, rfl, rfl⟩
set_option maxRecDepth 20000 in
theorem c_X10_setOf (g : tq_G) (rest : List tq_S) (I : tq_I) (J : Int64) (t : Nat) (ht : t ≤ 5) : CT g mX10_setOf 0 0 0 [.ref 9, .int (nI t)] (tq_SC ++ rest) tq_RR I J (tq_ret (tq_SC ++ rest) tq_RR (some (.int (I 10 t))) I J) := by
  refine CT.ret kX10_setOf (Nat.le_of_ble_eq_true rfl) (fun x0 C hR hZ => ?_)
  refine EV_en (lv' := [some (.ref 9), some (.int (nI t))]) 0 rfl ?_
  refine EV_blk (own := 10) C rfl [(.aload_n 0, 0, 0, 0, 0), (.getfield 9, 10, 0, 131, 0), (.iload_n 1, 0, 0, 0, 0)] (pc' := 5) (by decide +kernel) (lv' := [some (.ref 9), some (.int (nI t))]) (st' := [.int (nI t), .ref 10]) (I' := I) (J' := J) rfl ?_
  refine EV_iald (j := t) C (by decide +kernel) rfl (nI_toInt (by omega)) (by omega) ?_
  exact EV_iret C hZ rfl (by decide +kernel) (Nat.le_refl _) (Nat.le_refl _) ⟨rfl, rfl, rfl, rfl, rfl⟩
set_option maxRecDepth 20000 in
theorem c_X10_partsOf (g : tq_G) (rest : List tq_S) (I : tq_I) (J : Int64) (t m : Nat) (ht : t ≤ 5) (hm : m ≤ 15) : CT g mX10_partsOf 0 0 0 [.ref 9, .int (nI t), .int (nI m)] (tq_SC ++ rest) tq_RR I J (tq_ret (tq_SC ++ rest) tq_RR (some (.int (I 11 (t * 16 + m)))) I J) := by
  refine CT.ret kX10_partsOf (Nat.le_of_ble_eq_true rfl) (fun x0 C hR hZ => ?_)
  refine EV_en (lv' := [some (.ref 9), some (.int (nI t)), some (.int (nI m))]) 0 rfl ?_
  refine EV_blk (own := 10) C rfl [(.aload_n 0, 0, 0, 0, 0), (.getfield 15, 10, 1, 132, 0), (.iload_n 1, 0, 0, 0, 0), (.bipush 16, 0, 0, 0, (nI 16)), (.imul, 0, 0, 0, 0), (.iload_n 2, 0, 0, 0, 0), (.iadd, 0, 0, 0, 0)] (pc' := 10) (by decide +kernel) (lv' := [some (.ref 9), some (.int (nI t)), some (.int (nI m))]) (st' := [.int (((nI t) * (nI 16)) + (nI m)), .ref 11]) (I' := I) (J' := J) rfl ?_
  refine EV_iald (j := ((t * 16) + m)) C (by decide +kernel) rfl (tq_toI ((t * 16) + m) (by simp (disch := omega) only [nI_add, tq_mul, tq_rem_nI, tq_div_nI, tq_sub_nI]) (by omega)) (by omega) ?_
  exact EV_iret C hZ rfl (by decide +kernel) (Nat.le_refl _) (Nat.le_refl _) ⟨rfl, rfl, rfl, rfl, rfl⟩
def I_X6_place (I : tq_I) (t r : Int32) : tq_I := (tq_u (tq_u I 6 (tq_N t) r) 7 (tq_N r) t)
set_option maxRecDepth 20000 in
theorem c_X6_place (g : tq_G) (rest : List tq_S) (I : tq_I) (J : Int64) (t r : Int32) (ht0 : 0 ≤ t.toInt) (ht5 : t.toInt ≤ 5) (hr0 : 0 ≤ r.toInt) (hr5 : r.toInt ≤ 5) : CT g mX6_place 0 0 0 [.ref 5, .int t, .int r] (tq_SC ++ rest) tq_RR I J (tq_ret (tq_SC ++ rest) tq_RR none (I_X6_place I t r) J) := by
  refine CT.ret kX6_place (Nat.le_of_ble_eq_true rfl) (fun x0 C hR hZ => ?_)
  refine EV_en (lv' := [some (.ref 5), some (.int t), some (.int r)]) 0 rfl ?_
  refine EV_blk (own := 6) C rfl [(.aload_n 0, 0, 0, 0, 0), (.getfield 9, 6, 0, 142, 0), (.iload_n 1, 0, 0, 0, 0), (.iload_n 2, 0, 0, 0, 0)] (pc' := 6) (by decide +kernel) (lv' := [some (.ref 5), some (.int t), some (.int r)]) (st' := [.int r, .int t, .ref 6]) (I' := I) (J' := J) rfl ?_
  refine EV_iast (j := (tq_N t)) C (by decide +kernel) rfl (by unfold tq_N; omega) (by unfold tq_N; omega) ?_
  refine EV_blk (own := 6) C rfl [(.aload_n 0, 0, 0, 0, 0), (.getfield 15, 6, 1, 143, 0), (.iload_n 2, 0, 0, 0, 0), (.iload_n 1, 0, 0, 0, 0)] (pc' := 13) (by decide +kernel) (lv' := [some (.ref 5), some (.int t), some (.int r)]) (st' := [.int t, .int r, .ref 7]) (I' := (tq_u I 6 (tq_N t) r)) (J' := J) rfl ?_
  refine EV_iast (j := (tq_N r)) C (by decide +kernel) rfl (by unfold tq_N; omega) (by unfold tq_N; omega) ?_
  exact EV_vret C hZ rfl (by decide +kernel) (Nat.le_refl _) (Nat.le_refl _) ⟨rfl, rfl, rfl, by simp only [I_X6_place], rfl⟩
theorem fr_X6_place (I : tq_I) (t r : Int32) {cz : Nat} (hc : cz ≠ 6 ∧ cz ≠ 7) (jz : Nat) : I_X6_place I t r cz jz = I cz jz := by
  obtain ⟨hc0, hc1⟩ := hc
  simp only [I_X6_place]
  (repeat' split) <;> simp (disch := first | assumption | (simp only [ne_eq] at *; simp [*])) [tq_u, tq_cp, hc0, hc1, fr_tb1, fr_tb2, fr_X8_touchBlock, fr_X8_touchAll, fr_X8_changeCorner, fr_X8_changePath, fr_cb1, fr_cb2, fr_X8_changeBlock, fr_wipe1, fr_X1_wipe, fr_sm1, fr_sm2, fr_X8_startMap]
def tq_le5 (f : Nat → Int32) : Prop := ∀ k, k < 6 → 0 ≤ (f k).toInt ∧ (f k).toInt ≤ 5
theorem tq_le5_place {I : tq_I} {t r : Int32} (h : tq_le5 (I 7)) (h0 : 0 ≤ t.toInt) (h5 : t.toInt ≤ 5) : tq_le5 (I_X6_place I t r 7) := by
  intro k hk
  simp only [I_X6_place, tq_u]
  by_cases hkr : k = tq_N r
  · simp [hkr]; exact ⟨h0, h5⟩
  · simp [hkr]; exact h k hk
def f_mt1 (t r f : Nat) (i : Nat) (a : tq_I) : tq_I := (I_X6_place a (a 7 ((f + i) + 1)) (nI (f + i)))
set_option maxRecDepth 20000 in
theorem lp_mt1 {g : tq_G} {rest : List tq_S} {x0 : tq_X} (C : tq_C g mX6_moveTo x0) (hR : tq_ht x0 1 0 0) (J : Int64) (t r f : Nat) (hf5 : f ≤ 5) (hr5 : r ≤ 5) : ∀ (n i : Nat) (a : tq_I), i + n = r - f → tq_le5 (a 7) → EV g mX6_moveTo x0 0 0 37 [some (.ref 5), some (.int (nI t)), some (.int (nI r)), some (.int (nI f)), some (.int (nI (f + (i + n))))] [] (tq_SC ++ rest) tq_RR (tq_it (f_mt1 t r f) n i a) J → EV g mX6_moveTo x0 0 0 10 [some (.ref 5), some (.int (nI t)), some (.int (nI r)), some (.int (nI f)), some (.int (nI (f + i)))] [] (tq_SC ++ rest) tq_RR a J := by
  intro n
  induction n with
  | zero =>
    intro i a hi hI kk
    rw [Nat.add_zero] at kk
    refine EV_blk (own := 6) C rfl [(.iload 4, 0, 0, 0, 0), (.iload_n 2, 0, 0, 0, 0)] (pc' := 13) (by decide +kernel) (lv' := [some (.ref 5), some (.int (nI t)), some (.int (nI r)), some (.int (nI f)), some (.int (nI (f + i)))]) (st' := [.int (nI r), .int (nI (f + i))]) (I' := a) (J' := J) rfl ?_
    refine EV_icmp_ge (off := 24) (tgt := 37) C (by decide +kernel) (by decide) (fun h1 => ?_) (fun h1 => ?_)
    · skip
      exact kk
    · skip
      exact absurd h1 (by simp (disch := omega) only [Int32.lt_iff_toInt_lt, Int32.le_iff_toInt_le, Int32.toInt_zero, nI_toInt, tq_m1]; omega)
  | succ n ih =>
    intro i a hi hI kk
    rw [show i + (n + 1) = (i + 1) + n by omega] at kk
    refine EV_blk (own := 6) C rfl [(.iload 4, 0, 0, 0, 0), (.iload_n 2, 0, 0, 0, 0)] (pc' := 13) (by decide +kernel) (lv' := [some (.ref 5), some (.int (nI t)), some (.int (nI r)), some (.int (nI f)), some (.int (nI (f + i)))]) (st' := [.int (nI r), .int (nI (f + i))]) (I' := a) (J' := J) rfl ?_
    refine EV_icmp_ge (off := 24) (tgt := 37) C (by decide +kernel) (by decide) (fun h1 => ?_) (fun h1 => ?_)
    · skip
      exact absurd h1 (by simp (disch := omega) only [Int32.lt_iff_toInt_lt, Int32.le_iff_toInt_le, Int32.toInt_zero, nI_toInt, tq_m1]; omega)
    · skip
      refine EV_blk (own := 6) C rfl [(.aload_n 0, 0, 0, 0, 0), (.aload_n 0, 0, 0, 0, 0), (.getfield 15, 6, 1, 143, 0), (.iload 4, 0, 0, 0, 0), (.iconst 1, 0, 0, 0, (nI 1)), (.iadd, 0, 0, 0, 0)] (pc' := 25) (by decide +kernel) (lv' := [some (.ref 5), some (.int (nI t)), some (.int (nI r)), some (.int (nI f)), some (.int (nI (f + i)))]) (st' := [.int ((nI (f + i)) + (nI 1)), .ref 7, .ref 5]) (I' := a) (J' := J) rfl ?_
      refine EV_iald (j := ((f + i) + 1)) C (by decide +kernel) rfl (tq_toI ((f + i) + 1) (by simp (disch := omega) only [nI_add, tq_mul, tq_rem_nI, tq_div_nI, tq_sub_nI]) (by omega)) (by omega) ?_
      refine EV_blk (own := 6) C rfl [(.iload 4, 0, 0, 0, 0)] (pc' := 28) (by decide +kernel) (lv' := [some (.ref 5), some (.int (nI t)), some (.int (nI r)), some (.int (nI f)), some (.int (nI (f + i)))]) (st' := [.int (nI (f + i)), .int (a 7 ((f + i) + 1)), .ref 5]) (I' := a) (J' := J) rfl ?_
      have hb := hI (f + i + 1) (by omega)
      have hq := nI_toInt (n := f + i) (by omega)
      refine EV_cV (own := 6) (idx := 28) (μ' := mX6_place) (b := 5) (cb := 6) (av := [.int (a 7 ((f + i) + 1)), .int (nI (f + i))]) (rest := []) C hR rfl (Or.inl ⟨138, by decide⟩) kX6_place sX6_place (c_X6_place g rest a J (a 7 ((f + i) + 1)) (nI (f + i)) hb.1 hb.2 (by omega) (by omega)) rfl rfl (by decide +kernel) rfl (by decide) (Nat.le_of_ble_eq_true rfl) rfl ⟨Nat.zero_le _, Nat.zero_le _⟩ ?_
      refine EV_blk (own := 6) C rfl [(.iinc 4 1, 0, 0, 0, (nI 1)), (.goto (-24), 0, 0, 0, 0)] (pc' := 10) (by decide +kernel) (lv' := [some (.ref 5), some (.int (nI t)), some (.int (nI r)), some (.int (nI f)), some (.int ((nI (f + i)) + (nI 1)))]) (st' := []) (I' := (I_X6_place a (a 7 ((f + i) + 1)) (nI (f + i)))) (J' := J) rfl ?_
      rw [show ((nI (f + i)) + (nI 1)) = (nI (f + (i + 1))) from by simp (disch := omega) only [nI_add, tq_mul] <;> exact congrArg nI (by omega)]
      rw [tq_its, show (f_mt1 t r f) i a = (I_X6_place a (a 7 ((f + i) + 1)) (nI (f + i))) from by simp only [f_mt1, if_neg h1]] at kk
      exact ih (i + 1) (I_X6_place a (a 7 ((f + i) + 1)) (nI (f + i))) (by omega) (tq_le5_place hI hb.1 hb.2) kk
theorem fr_mt1 (t r f : Nat) {cz : Nat} (hc : cz ≠ 6 ∧ cz ≠ 7) (n i : Nat) (a : tq_I) (jz : Nat) : (tq_it (f_mt1 t r f) n i a) cz jz = a cz jz := by
  obtain ⟨hc0, hc1⟩ := hc
  refine tq_itF (fun i a j => ?_) n i a jz
  simp only [f_mt1]
  (repeat' split) <;> simp (disch := first | assumption | (simp only [ne_eq] at *; simp [*])) [tq_u, tq_cp, hc0, hc1, fr_tb1, fr_tb2, fr_X8_touchBlock, fr_X8_touchAll, fr_X8_changeCorner, fr_X8_changePath, fr_cb1, fr_cb2, fr_X8_changeBlock, fr_wipe1, fr_X1_wipe, fr_sm1, fr_sm2, fr_X8_startMap, fr_X6_place]
def f_mt2 (t r f : Nat) (i : Nat) (a : tq_I) : tq_I := (I_X6_place a (a 7 ((f - i) - 1)) (nI (f - i)))
set_option maxRecDepth 20000 in
theorem lp_mt2 {g : tq_G} {rest : List tq_S} {x0 : tq_X} (C : tq_C g mX6_moveTo x0) (hR : tq_ht x0 1 0 0) (J : Int64) (t r f : Nat) (hf5 : f ≤ 5) (hr5 : r ≤ 5) : ∀ (n i : Nat) (a : tq_I), i + n = f - r → tq_le5 (a 7) → EV g mX6_moveTo x0 0 0 67 [some (.ref 5), some (.int (nI t)), some (.int (nI r)), some (.int (nI f)), some (.int (nI (f - (i + n))))] [] (tq_SC ++ rest) tq_RR (tq_it (f_mt2 t r f) n i a) J → EV g mX6_moveTo x0 0 0 40 [some (.ref 5), some (.int (nI t)), some (.int (nI r)), some (.int (nI f)), some (.int (nI (f - i)))] [] (tq_SC ++ rest) tq_RR a J := by
  intro n
  induction n with
  | zero =>
    intro i a hi hI kk
    rw [Nat.add_zero] at kk
    refine EV_blk (own := 6) C rfl [(.iload 4, 0, 0, 0, 0), (.iload_n 2, 0, 0, 0, 0)] (pc' := 43) (by decide +kernel) (lv' := [some (.ref 5), some (.int (nI t)), some (.int (nI r)), some (.int (nI f)), some (.int (nI (f - i)))]) (st' := [.int (nI r), .int (nI (f - i))]) (I' := a) (J' := J) rfl ?_
    refine EV_icmp_le (off := 24) (tgt := 67) C (by decide +kernel) (by decide) (fun h1 => ?_) (fun h1 => ?_)
    · skip
      exact kk
    · skip
      exact absurd h1 (by simp (disch := omega) only [Int32.lt_iff_toInt_lt, Int32.le_iff_toInt_le, Int32.toInt_zero, nI_toInt, tq_m1]; omega)
  | succ n ih =>
    intro i a hi hI kk
    rw [show i + (n + 1) = (i + 1) + n by omega] at kk
    refine EV_blk (own := 6) C rfl [(.iload 4, 0, 0, 0, 0), (.iload_n 2, 0, 0, 0, 0)] (pc' := 43) (by decide +kernel) (lv' := [some (.ref 5), some (.int (nI t)), some (.int (nI r)), some (.int (nI f)), some (.int (nI (f - i)))]) (st' := [.int (nI r), .int (nI (f - i))]) (I' := a) (J' := J) rfl ?_
    refine EV_icmp_le (off := 24) (tgt := 67) C (by decide +kernel) (by decide) (fun h1 => ?_) (fun h1 => ?_)
    · skip
      exact absurd h1 (by simp (disch := omega) only [Int32.lt_iff_toInt_lt, Int32.le_iff_toInt_le, Int32.toInt_zero, nI_toInt, tq_m1]; omega)
    · skip
      refine EV_blk (own := 6) C rfl [(.aload_n 0, 0, 0, 0, 0), (.aload_n 0, 0, 0, 0, 0), (.getfield 15, 6, 1, 143, 0), (.iload 4, 0, 0, 0, 0), (.iconst 1, 0, 0, 0, (nI 1)), (.isub, 0, 0, 0, 0)] (pc' := 55) (by decide +kernel) (lv' := [some (.ref 5), some (.int (nI t)), some (.int (nI r)), some (.int (nI f)), some (.int (nI (f - i)))]) (st' := [.int ((nI (f - i)) - (nI 1)), .ref 7, .ref 5]) (I' := a) (J' := J) rfl ?_
      refine EV_iald (j := ((f - i) - 1)) C (by decide +kernel) rfl (tq_toI ((f - i) - 1) (by simp (disch := omega) only [nI_add, tq_mul, tq_rem_nI, tq_div_nI, tq_sub_nI]) (by omega)) (by omega) ?_
      refine EV_blk (own := 6) C rfl [(.iload 4, 0, 0, 0, 0)] (pc' := 58) (by decide +kernel) (lv' := [some (.ref 5), some (.int (nI t)), some (.int (nI r)), some (.int (nI f)), some (.int (nI (f - i)))]) (st' := [.int (nI (f - i)), .int (a 7 ((f - i) - 1)), .ref 5]) (I' := a) (J' := J) rfl ?_
      have hb := hI (f - i - 1) (by omega)
      have hq := nI_toInt (n := f - i) (by omega)
      refine EV_cV (own := 6) (idx := 28) (μ' := mX6_place) (b := 5) (cb := 6) (av := [.int (a 7 ((f - i) - 1)), .int (nI (f - i))]) (rest := []) C hR rfl (Or.inl ⟨138, by decide⟩) kX6_place sX6_place (c_X6_place g rest a J (a 7 ((f - i) - 1)) (nI (f - i)) hb.1 hb.2 (by omega) (by omega)) rfl rfl (by decide +kernel) rfl (by decide) (Nat.le_of_ble_eq_true rfl) rfl ⟨Nat.zero_le _, Nat.zero_le _⟩ ?_
      refine EV_blk (own := 6) C rfl [(.iinc 4 (-1), 0, 0, 0, (-1)), (.goto (-24), 0, 0, 0, 0)] (pc' := 40) (by decide +kernel) (lv' := [some (.ref 5), some (.int (nI t)), some (.int (nI r)), some (.int (nI f)), some (.int ((nI (f - i)) + (-1)))]) (st' := []) (I' := (I_X6_place a (a 7 ((f - i) - 1)) (nI (f - i)))) (J' := J) rfl ?_
      rw [show ((nI (f - i)) + (-1)) = (nI (f - (i + 1))) from by rw [tq_dn (by omega)] <;> exact congrArg nI (by omega)]
      rw [tq_its, show (f_mt2 t r f) i a = (I_X6_place a (a 7 ((f - i) - 1)) (nI (f - i))) from by simp only [f_mt2, if_neg h1]] at kk
      exact ih (i + 1) (I_X6_place a (a 7 ((f - i) - 1)) (nI (f - i))) (by omega) (tq_le5_place hI hb.1 hb.2) kk
theorem fr_mt2 (t r f : Nat) {cz : Nat} (hc : cz ≠ 6 ∧ cz ≠ 7) (n i : Nat) (a : tq_I) (jz : Nat) : (tq_it (f_mt2 t r f) n i a) cz jz = a cz jz := by
  obtain ⟨hc0, hc1⟩ := hc
  refine tq_itF (fun i a j => ?_) n i a jz
  simp only [f_mt2]
  (repeat' split) <;> simp (disch := first | assumption | (simp only [ne_eq] at *; simp [*])) [tq_u, tq_cp, hc0, hc1, fr_tb1, fr_tb2, fr_X8_touchBlock, fr_X8_touchAll, fr_X8_changeCorner, fr_X8_changePath, fr_cb1, fr_cb2, fr_X8_changeBlock, fr_wipe1, fr_X1_wipe, fr_sm1, fr_sm2, fr_X8_startMap, fr_X6_place, fr_mt1]
theorem tq_le5_mt1 {t r f : Nat} (hf5 : f ≤ 5) (hr5 : r ≤ 5) : ∀ (n i : Nat) (a : tq_I), i + n = r - f → tq_le5 (a 7) → tq_le5 (tq_it (f_mt1 t r f) n i a 7)
  | 0, _, _, _, h => h
  | n + 1, i, a, hi, h => tq_le5_mt1 hf5 hr5 n (i + 1) _ (by omega) (tq_le5_place h (h _ (by omega)).1 (h _ (by omega)).2)
def I_X6_moveTo (I : tq_I) (t r f : Nat) : tq_I := (I_X6_place (tq_it (f_mt2 t r f) (f - r) 0 (tq_it (f_mt1 t r f) (r - f) 0 I)) (nI t) (nI r))
set_option maxRecDepth 20000 in
theorem c_X6_moveTo (g : tq_G) (rest : List tq_S) (I : tq_I) (J : Int64) (t r f : Nat) (ht : t ≤ 5) (hr5 : r ≤ 5) (hf5 : f ≤ 5) (hf : I 6 t = nI f) (h7 : tq_le5 (I 7)) : CT g mX6_moveTo 1 0 0 [.ref 5, .int (nI t), .int (nI r)] (tq_SC ++ rest) tq_RR I J (tq_ret (tq_SC ++ rest) tq_RR none (I_X6_moveTo I t r f) J) := by
  refine CT.ret kX6_moveTo (Nat.le_of_ble_eq_true rfl) (fun x0 C hR hZ => ?_)
  refine EV_en (lv' := [some (.ref 5), some (.int (nI t)), some (.int (nI r)), none, none]) 2 rfl ?_
  refine EV_blk (own := 6) C rfl [(.aload_n 0, 0, 0, 0, 0), (.getfield 9, 6, 0, 142, 0), (.iload_n 1, 0, 0, 0, 0)] (pc' := 5) (by decide +kernel) (lv' := [some (.ref 5), some (.int (nI t)), some (.int (nI r)), none, none]) (st' := [.int (nI t), .ref 6]) (I' := I) (J' := J) rfl ?_
  refine EV_iald (j := t) C (by decide +kernel) rfl (nI_toInt (by omega)) (by omega) ?_
  refine EV_blk (own := 6) C rfl [(.istore_n 3, 0, 0, 0, 0), (.iload_n 3, 0, 0, 0, 0), (.istore 4, 0, 0, 0, 0)] (pc' := 10) (by decide +kernel) (lv' := [some (.ref 5), some (.int (nI t)), some (.int (nI r)), some (.int (I 6 t)), some (.int (I 6 t))]) (st' := []) (I' := I) (J' := J) rfl ?_
  rw [hf]
  refine lp_mt1 C hR J t r f hf5 hr5 (r - f) 0 I (by omega) h7 ?_
  refine EV_blk (own := 6) C rfl [(.iload_n 3, 0, 0, 0, 0), (.istore 4, 0, 0, 0, 0)] (pc' := 40) (by decide +kernel) (lv' := [some (.ref 5), some (.int (nI t)), some (.int (nI r)), some (.int (nI f)), some (.int (nI f))]) (st' := []) (I' := (tq_it (f_mt1 t r f) (r - f) 0 I)) (J' := J) rfl ?_
  refine lp_mt2 C hR J t r f hf5 hr5 (f - r) 0 (tq_it (f_mt1 t r f) (r - f) 0 I) (by omega) (tq_le5_mt1 hf5 hr5 _ _ _ (by omega) h7) ?_
  refine EV_blk (own := 6) C rfl [(.aload_n 0, 0, 0, 0, 0), (.iload_n 1, 0, 0, 0, 0), (.iload_n 2, 0, 0, 0, 0)] (pc' := 70) (by decide +kernel) (lv' := [some (.ref 5), some (.int (nI t)), some (.int (nI r)), some (.int (nI f)), some (.int (nI (f - (0 + (f - r)))))]) (st' := [.int (nI r), .int (nI t), .ref 5]) (I' := (tq_it (f_mt2 t r f) (f - r) 0 (tq_it (f_mt1 t r f) (r - f) 0 I))) (J' := J) rfl ?_
  refine EV_cV (own := 6) (idx := 28) (μ' := mX6_place) (b := 5) (cb := 6) (av := [.int (nI t), .int (nI r)]) (rest := []) C hR rfl (Or.inl ⟨138, by decide⟩) kX6_place sX6_place (c_X6_place g rest (tq_it (f_mt2 t r f) (f - r) 0 (tq_it (f_mt1 t r f) (r - f) 0 I)) J (nI t) (nI r) (by rw [nI_toInt (by omega)]; omega) (by rw [nI_toInt (by omega)]; omega) (by rw [nI_toInt (by omega)]; omega) (by rw [nI_toInt (by omega)]; omega)) rfl rfl (by decide +kernel) rfl (by decide) (Nat.le_of_ble_eq_true rfl) rfl ⟨Nat.zero_le _, Nat.zero_le _⟩ ?_
  exact EV_vret C hZ rfl (by decide +kernel) (Nat.le_refl _) (Nat.le_refl _) ⟨rfl, rfl, rfl, by simp only [I_X6_moveTo], rfl⟩
theorem fr_X6_moveTo (I : tq_I) (t r f : Nat) {cz : Nat} (hc : cz ≠ 6 ∧ cz ≠ 7) (jz : Nat) : I_X6_moveTo I t r f cz jz = I cz jz := by
  obtain ⟨hc0, hc1⟩ := hc
  simp only [I_X6_moveTo]
  (repeat' split) <;> simp (disch := first | assumption | (simp only [ne_eq] at *; simp [*])) [tq_u, tq_cp, hc0, hc1, fr_tb1, fr_tb2, fr_X8_touchBlock, fr_X8_touchAll, fr_X8_changeCorner, fr_X8_changePath, fr_cb1, fr_cb2, fr_X8_changeBlock, fr_wipe1, fr_X1_wipe, fr_sm1, fr_sm2, fr_X8_startMap, fr_X6_place, fr_mt1, fr_mt2]
def r_X6_variantOf (I : tq_I) (t x y : Nat) : Int32 := (if (nI 1) < (I 8 t) then (tq_rem (tq_ush ((((((nI 31) * (((nI 31) * (((nI 31) * (I 5 4)) + (nI x))) + (nI y))) + (nI t)) ^^^ (tq_ush (((nI 31) * (((nI 31) * (((nI 31) * (I 5 4)) + (nI x))) + (nI y))) + (nI t)) (nI 15))) * (nI 739982445)) ^^^ (tq_ush (((((nI 31) * (((nI 31) * (((nI 31) * (I 5 4)) + (nI x))) + (nI y))) + (nI t)) ^^^ (tq_ush (((nI 31) * (((nI 31) * (((nI 31) * (I 5 4)) + (nI x))) + (nI y))) + (nI t)) (nI 15))) * (nI 739982445)) (nI 12))) (nI 1)) (I 8 t)) else (nI 0))
set_option maxRecDepth 20000 in
theorem c_X6_variantOf (g : tq_G) (rest : List tq_S) (I : tq_I) (J : Int64) (t x y : Nat) (ht : t ≤ 5) : CT g mX6_variantOf 0 0 0 [.ref 5, .int (nI t), .int (nI x), .int (nI y)] (tq_SC ++ rest) tq_RR I J (tq_ret (tq_SC ++ rest) tq_RR (some (.int (r_X6_variantOf I t x y))) I J) := by
  refine CT.ret kX6_variantOf (Nat.le_of_ble_eq_true rfl) (fun x0 C hR hZ => ?_)
  refine EV_en (lv' := [some (.ref 5), some (.int (nI t)), some (.int (nI x)), some (.int (nI y)), none, none]) 2 rfl ?_
  refine EV_blk (own := 6) C rfl [(.aload_n 0, 0, 0, 0, 0), (.getfield 18, 6, 2, 144, 0), (.iload_n 1, 0, 0, 0, 0)] (pc' := 5) (by decide +kernel) (lv' := [some (.ref 5), some (.int (nI t)), some (.int (nI x)), some (.int (nI y)), none, none]) (st' := [.int (nI t), .ref 8]) (I' := I) (J' := J) rfl ?_
  refine EV_iald (j := t) C (by decide +kernel) rfl (nI_toInt (by omega)) (by omega) ?_
  refine EV_blk (own := 6) C rfl [(.istore 4, 0, 0, 0, 0), (.iload 4, 0, 0, 0, 0), (.iconst 1, 0, 0, 0, (nI 1))] (pc' := 11) (by decide +kernel) (lv' := [some (.ref 5), some (.int (nI t)), some (.int (nI x)), some (.int (nI y)), some (.int (I 8 t)), none]) (st' := [.int (nI 1), .int (I 8 t)]) (I' := I) (J' := J) rfl ?_
  refine EV_icmp_gt (off := 5) (tgt := 16) C (by decide +kernel) (by decide) (fun h1 => ?_) (fun h1 => ?_)
  · skip
    refine EV_blk (own := 6) C rfl [(.bipush 31, 0, 0, 0, (nI 31)), (.bipush 31, 0, 0, 0, (nI 31)), (.bipush 31, 0, 0, 0, (nI 31)), (.aload_n 0, 0, 0, 0, 0), (.getfield 42, 6, 4, 149, 0), (.imul, 0, 0, 0, 0), (.iload_n 2, 0, 0, 0, 0), (.iadd, 0, 0, 0, 0), (.imul, 0, 0, 0, 0), (.iload_n 3, 0, 0, 0, 0), (.iadd, 0, 0, 0, 0), (.imul, 0, 0, 0, 0), (.iload_n 1, 0, 0, 0, 0), (.iadd, 0, 0, 0, 0), (.istore 5, 0, 0, 0, 0), (.iload 5, 0, 0, 0, 0), (.iload 5, 0, 0, 0, 0), (.bipush 15, 0, 0, 0, (nI 15)), (.iushr, 0, 0, 0, 0), (.ixor, 0, 0, 0, 0), (.ldc 50, 0, 0, 695, (nI 739982445)), (.imul, 0, 0, 0, 0), (.istore 5, 0, 0, 0, 0), (.iload 5, 0, 0, 0, 0), (.iload 5, 0, 0, 0, 0), (.bipush 12, 0, 0, 0, (nI 12)), (.iushr, 0, 0, 0, 0), (.ixor, 0, 0, 0, 0), (.iconst 1, 0, 0, 0, (nI 1)), (.iushr, 0, 0, 0, 0), (.iload 4, 0, 0, 0, 0)] (pc' := 62) (by decide +kernel) (lv' := [some (.ref 5), some (.int (nI t)), some (.int (nI x)), some (.int (nI y)), some (.int (I 8 t)), some (.int (((((nI 31) * (((nI 31) * (((nI 31) * (I 5 4)) + (nI x))) + (nI y))) + (nI t)) ^^^ (tq_ush (((nI 31) * (((nI 31) * (((nI 31) * (I 5 4)) + (nI x))) + (nI y))) + (nI t)) (nI 15))) * (nI 739982445)))]) (st' := [.int (I 8 t), .int (tq_ush ((((((nI 31) * (((nI 31) * (((nI 31) * (I 5 4)) + (nI x))) + (nI y))) + (nI t)) ^^^ (tq_ush (((nI 31) * (((nI 31) * (((nI 31) * (I 5 4)) + (nI x))) + (nI y))) + (nI t)) (nI 15))) * (nI 739982445)) ^^^ (tq_ush (((((nI 31) * (((nI 31) * (((nI 31) * (I 5 4)) + (nI x))) + (nI y))) + (nI t)) ^^^ (tq_ush (((nI 31) * (((nI 31) * (((nI 31) * (I 5 4)) + (nI x))) + (nI y))) + (nI t)) (nI 15))) * (nI 739982445)) (nI 12))) (nI 1))]) (I' := I) (J' := J) rfl ?_
    refine EV_irem C (by decide +kernel) (by intro e; rw [e] at h1; exact absurd h1 (by decide)) ?_
    exact EV_iret C hZ rfl (by decide +kernel) (Nat.le_refl _) (Nat.le_refl _) ⟨tq_some (by simp only [r_X6_variantOf, if_pos h1]), rfl, rfl, rfl, rfl⟩
  · skip
    refine EV_blk (own := 6) C rfl [(.iconst 0, 0, 0, 0, (nI 0))] (pc' := 15) (by decide +kernel) (lv' := [some (.ref 5), some (.int (nI t)), some (.int (nI x)), some (.int (nI y)), some (.int (I 8 t)), none]) (st' := [.int (nI 0)]) (I' := I) (J' := J) rfl ?_
    exact EV_iret C hZ rfl (by decide +kernel) (Nat.le_refl _) (Nat.le_refl _) ⟨tq_some (by simp only [r_X6_variantOf, if_neg h1]), rfl, rfl, rfl, rfl⟩
set_option maxRecDepth 20000 in
theorem c_X10_has (g : tq_G) (rest : List tq_S) (I : tq_I) (J : Int64) (s m : Int32)  : CT g mX10_has 0 0 0 [.int s, .int m] (tq_SC ++ rest) tq_RR I J (tq_ret (tq_SC ++ rest) tq_RR (some (.int (tq_b (((s >>> (m &&& 31)) &&& (nI 1)) = (nI 1))))) I J) := by
  refine CT.ret kX10_has (Nat.le_of_ble_eq_true rfl) (fun x0 C hR hZ => ?_)
  refine EV_en (lv' := [some (.int s), some (.int m)]) 0 rfl ?_
  refine EV_blk (own := 10) C rfl [(.iload_n 0, 0, 0, 0, 0), (.iload_n 1, 0, 0, 0, 0), (.ishr, 0, 0, 0, 0), (.iconst 1, 0, 0, 0, (nI 1)), (.iand, 0, 0, 0, 0), (.iconst 1, 0, 0, 0, (nI 1))] (pc' := 6) (by decide +kernel) (lv' := [some (.int s), some (.int m)]) (st' := [.int (nI 1), .int ((s >>> (m &&& 31)) &&& (nI 1))]) (I' := I) (J' := J) rfl ?_
  refine EV_icmp_ne (off := 7) (tgt := 13) C (by decide +kernel) (by decide) (fun h1 => ?_) (fun h1 => ?_)
  · skip
    refine EV_blk (own := 10) C rfl [(.iconst 0, 0, 0, 0, (nI 0))] (pc' := 14) (by decide +kernel) (lv' := [some (.int s), some (.int m)]) (st' := [.int (nI 0)]) (I' := I) (J' := J) rfl ?_
    exact EV_zret C hZ rfl (by decide) (by decide +kernel) (Nat.le_refl _) (Nat.le_refl _) ⟨tq_r0 h1, rfl, rfl, rfl, rfl⟩
  · skip
    refine EV_blk (own := 10) C rfl [(.iconst 1, 0, 0, 0, (nI 1)), (.goto 4, 0, 0, 0, 0)] (pc' := 14) (by decide +kernel) (lv' := [some (.int s), some (.int m)]) (st' := [.int (nI 1)]) (I' := I) (J' := J) rfl ?_
    exact EV_zret C hZ rfl (by decide) (by decide +kernel) (Nat.le_refl _) (Nat.le_refl _) ⟨tq_r1 h1, rfl, rfl, rfl, rfl⟩
def r_X10_flip (m t : Int32) : Int32 := (if (t &&& (nI 1)) = 0 then (if (t &&& (nI 2)) = 0 then m else (((m &&& (nI 3)) <<< ((nI 2) &&& 31)) ||| ((m &&& (nI 12)) >>> ((nI 2) &&& 31)))) else (if (t &&& (nI 2)) = 0 then (((m &&& (nI 5)) <<< ((nI 1) &&& 31)) ||| ((m &&& (nI 10)) >>> ((nI 1) &&& 31))) else ((((((m &&& (nI 5)) <<< ((nI 1) &&& 31)) ||| ((m &&& (nI 10)) >>> ((nI 1) &&& 31))) &&& (nI 3)) <<< ((nI 2) &&& 31)) ||| (((((m &&& (nI 5)) <<< ((nI 1) &&& 31)) ||| ((m &&& (nI 10)) >>> ((nI 1) &&& 31))) &&& (nI 12)) >>> ((nI 2) &&& 31)))))
set_option maxRecDepth 20000 in
theorem c_X10_flip (g : tq_G) (rest : List tq_S) (I : tq_I) (J : Int64) (m t : Int32)  : CT g mX10_flip 0 0 0 [.int m, .int t] (tq_SC ++ rest) tq_RR I J (tq_ret (tq_SC ++ rest) tq_RR (some (.int (r_X10_flip m t))) I J) := by
  refine CT.ret kX10_flip (Nat.le_of_ble_eq_true rfl) (fun x0 C hR hZ => ?_)
  refine EV_en (lv' := [some (.int m), some (.int t), none]) 1 rfl ?_
  refine EV_blk (own := 10) C rfl [(.iload_n 0, 0, 0, 0, 0), (.istore_n 2, 0, 0, 0, 0), (.iload_n 1, 0, 0, 0, 0), (.iconst 1, 0, 0, 0, (nI 1)), (.iand, 0, 0, 0, 0)] (pc' := 5) (by decide +kernel) (lv' := [some (.int m), some (.int t), some (.int m)]) (st' := [.int (t &&& (nI 1))]) (I' := I) (J' := J) rfl ?_
  refine EV_if_eq (off := 16) (tgt := 21) C (by decide +kernel) (by decide) (fun h1 => ?_) (fun h1 => ?_)
  · skip
    refine EV_blk (own := 10) C rfl [(.iload_n 1, 0, 0, 0, 0), (.iconst 2, 0, 0, 0, (nI 2)), (.iand, 0, 0, 0, 0)] (pc' := 24) (by decide +kernel) (lv' := [some (.int m), some (.int t), some (.int m)]) (st' := [.int (t &&& (nI 2))]) (I' := I) (J' := J) rfl ?_
    refine EV_if_eq (off := 16) (tgt := 40) C (by decide +kernel) (by decide) (fun h2 => ?_) (fun h2 => ?_)
    · skip
      refine EV_blk (own := 10) C rfl [(.iload_n 2, 0, 0, 0, 0)] (pc' := 41) (by decide +kernel) (lv' := [some (.int m), some (.int t), some (.int m)]) (st' := [.int m]) (I' := I) (J' := J) rfl ?_
      exact EV_iret C hZ rfl (by decide +kernel) (Nat.le_refl _) (Nat.le_refl _) ⟨tq_some (by simp only [r_X10_flip, if_pos h1, if_pos h2]), rfl, rfl, rfl, rfl⟩
    · skip
      refine EV_blk (own := 10) C rfl [(.iload_n 2, 0, 0, 0, 0), (.iconst 3, 0, 0, 0, (nI 3)), (.iand, 0, 0, 0, 0), (.iconst 2, 0, 0, 0, (nI 2)), (.ishl, 0, 0, 0, 0), (.iload_n 2, 0, 0, 0, 0), (.bipush 12, 0, 0, 0, (nI 12)), (.iand, 0, 0, 0, 0), (.iconst 2, 0, 0, 0, (nI 2)), (.ishr, 0, 0, 0, 0), (.ior, 0, 0, 0, 0), (.istore_n 2, 0, 0, 0, 0), (.iload_n 2, 0, 0, 0, 0)] (pc' := 41) (by decide +kernel) (lv' := [some (.int m), some (.int t), some (.int (((m &&& (nI 3)) <<< ((nI 2) &&& 31)) ||| ((m &&& (nI 12)) >>> ((nI 2) &&& 31))))]) (st' := [.int (((m &&& (nI 3)) <<< ((nI 2) &&& 31)) ||| ((m &&& (nI 12)) >>> ((nI 2) &&& 31)))]) (I' := I) (J' := J) rfl ?_
      exact EV_iret C hZ rfl (by decide +kernel) (Nat.le_refl _) (Nat.le_refl _) ⟨tq_some (by simp only [r_X10_flip, if_pos h1, if_neg h2]), rfl, rfl, rfl, rfl⟩
  · skip
    refine EV_blk (own := 10) C rfl [(.iload_n 2, 0, 0, 0, 0), (.iconst 5, 0, 0, 0, (nI 5)), (.iand, 0, 0, 0, 0), (.iconst 1, 0, 0, 0, (nI 1)), (.ishl, 0, 0, 0, 0), (.iload_n 2, 0, 0, 0, 0), (.bipush 10, 0, 0, 0, (nI 10)), (.iand, 0, 0, 0, 0), (.iconst 1, 0, 0, 0, (nI 1)), (.ishr, 0, 0, 0, 0), (.ior, 0, 0, 0, 0), (.istore_n 2, 0, 0, 0, 0), (.iload_n 1, 0, 0, 0, 0), (.iconst 2, 0, 0, 0, (nI 2)), (.iand, 0, 0, 0, 0)] (pc' := 24) (by decide +kernel) (lv' := [some (.int m), some (.int t), some (.int (((m &&& (nI 5)) <<< ((nI 1) &&& 31)) ||| ((m &&& (nI 10)) >>> ((nI 1) &&& 31))))]) (st' := [.int (t &&& (nI 2))]) (I' := I) (J' := J) rfl ?_
    refine EV_if_eq (off := 16) (tgt := 40) C (by decide +kernel) (by decide) (fun h3 => ?_) (fun h3 => ?_)
    · skip
      refine EV_blk (own := 10) C rfl [(.iload_n 2, 0, 0, 0, 0)] (pc' := 41) (by decide +kernel) (lv' := [some (.int m), some (.int t), some (.int (((m &&& (nI 5)) <<< ((nI 1) &&& 31)) ||| ((m &&& (nI 10)) >>> ((nI 1) &&& 31))))]) (st' := [.int (((m &&& (nI 5)) <<< ((nI 1) &&& 31)) ||| ((m &&& (nI 10)) >>> ((nI 1) &&& 31)))]) (I' := I) (J' := J) rfl ?_
      exact EV_iret C hZ rfl (by decide +kernel) (Nat.le_refl _) (Nat.le_refl _) ⟨tq_some (by simp only [r_X10_flip, if_neg h1, if_pos h3]), rfl, rfl, rfl, rfl⟩
    · skip
      refine EV_blk (own := 10) C rfl [(.iload_n 2, 0, 0, 0, 0), (.iconst 3, 0, 0, 0, (nI 3)), (.iand, 0, 0, 0, 0), (.iconst 2, 0, 0, 0, (nI 2)), (.ishl, 0, 0, 0, 0), (.iload_n 2, 0, 0, 0, 0), (.bipush 12, 0, 0, 0, (nI 12)), (.iand, 0, 0, 0, 0), (.iconst 2, 0, 0, 0, (nI 2)), (.ishr, 0, 0, 0, 0), (.ior, 0, 0, 0, 0), (.istore_n 2, 0, 0, 0, 0), (.iload_n 2, 0, 0, 0, 0)] (pc' := 41) (by decide +kernel) (lv' := [some (.int m), some (.int t), some (.int ((((((m &&& (nI 5)) <<< ((nI 1) &&& 31)) ||| ((m &&& (nI 10)) >>> ((nI 1) &&& 31))) &&& (nI 3)) <<< ((nI 2) &&& 31)) ||| (((((m &&& (nI 5)) <<< ((nI 1) &&& 31)) ||| ((m &&& (nI 10)) >>> ((nI 1) &&& 31))) &&& (nI 12)) >>> ((nI 2) &&& 31))))]) (st' := [.int ((((((m &&& (nI 5)) <<< ((nI 1) &&& 31)) ||| ((m &&& (nI 10)) >>> ((nI 1) &&& 31))) &&& (nI 3)) <<< ((nI 2) &&& 31)) ||| (((((m &&& (nI 5)) <<< ((nI 1) &&& 31)) ||| ((m &&& (nI 10)) >>> ((nI 1) &&& 31))) &&& (nI 12)) >>> ((nI 2) &&& 31)))]) (I' := I) (J' := J) rfl ?_
      exact EV_iret C hZ rfl (by decide +kernel) (Nat.le_refl _) (Nat.le_refl _) ⟨tq_some (by simp only [r_X10_flip, if_neg h1, if_neg h3]), rfl, rfl, rfl, rfl⟩
def f_way1 (I : tq_I) (t m : Nat) (i : Nat) : Option Int32 := (if (tq_b ((((I 10 t) >>> ((r_X10_flip (nI m) (nI i)) &&& 31)) &&& (nI 1)) = (nI 1))) = 0 then none else (some (nI i)))
set_option maxRecDepth 20000 in
theorem lp_way1 {g : tq_G} {rest : List tq_S} {x0 : tq_X} {res : Int32} (I : tq_I) (J : Int64) (C : tq_C g mX10_wayOf x0) (hR : tq_ht x0 1 0 0) (hZ : tq_end g x0 (tq_ret (tq_SC ++ rest) tq_RR (some (.int res)) I J) 0 0) (t m : Nat) (ht : t ≤ 5) : ∀ (n i : Nat), i + n = 4 → res = tq_sr (f_way1 I t m) n i (-1) → (res = (-1) → EV g mX10_wayOf x0 0 0 32 [some (.ref 9), some (.int (nI t)), some (.int (nI m)), none] [] (tq_SC ++ rest) tq_RR I J) → EV g mX10_wayOf x0 0 0 2 [some (.ref 9), some (.int (nI t)), some (.int (nI m)), some (.int (nI i))] [] (tq_SC ++ rest) tq_RR I J := by
  intro n
  induction n with
  | zero =>
    intro i hi hr kk
    refine EV_blk (own := 10) C rfl [(.iload_n 3, 0, 0, 0, 0), (.iconst 4, 0, 0, 0, (nI 4))] (pc' := 4) (by decide +kernel) (lv' := [some (.ref 9), some (.int (nI t)), some (.int (nI m)), some (.int (nI i))]) (st' := [.int (nI 4), .int (nI i)]) (I' := I) (J' := J) rfl ?_
    refine EV_icmp_ge (off := 28) (tgt := 32) C (by decide +kernel) (by decide) (fun h1 => ?_) (fun h1 => ?_)
    · skip
      exact EV_fg (lv' := [some (.ref 9), some (.int (nI t)), some (.int (nI m)), none]) ⟨rfl, rfl, rfl, trivial⟩ (kk hr)
    · skip
      exact absurd h1 (by simp (disch := omega) only [Int32.lt_iff_toInt_lt, Int32.le_iff_toInt_le, Int32.toInt_zero, nI_toInt, tq_m1]; omega)
  | succ n ih =>
    intro i hi hr kk
    refine EV_blk (own := 10) C rfl [(.iload_n 3, 0, 0, 0, 0), (.iconst 4, 0, 0, 0, (nI 4))] (pc' := 4) (by decide +kernel) (lv' := [some (.ref 9), some (.int (nI t)), some (.int (nI m)), some (.int (nI i))]) (st' := [.int (nI 4), .int (nI i)]) (I' := I) (J' := J) rfl ?_
    refine EV_icmp_ge (off := 28) (tgt := 32) C (by decide +kernel) (by decide) (fun h1 => ?_) (fun h1 => ?_)
    · skip
      exact absurd h1 (by simp (disch := omega) only [Int32.lt_iff_toInt_lt, Int32.le_iff_toInt_le, Int32.toInt_zero, nI_toInt, tq_m1]; omega)
    · skip
      refine EV_blk (own := 10) C rfl [(.aload_n 0, 0, 0, 0, 0), (.getfield 9, 10, 0, 131, 0), (.iload_n 1, 0, 0, 0, 0)] (pc' := 12) (by decide +kernel) (lv' := [some (.ref 9), some (.int (nI t)), some (.int (nI m)), some (.int (nI i))]) (st' := [.int (nI t), .ref 10]) (I' := I) (J' := J) rfl ?_
      refine EV_iald (j := t) C (by decide +kernel) rfl (nI_toInt (by omega)) (by omega) ?_
      refine EV_blk (own := 10) C rfl [(.iload_n 2, 0, 0, 0, 0), (.iload_n 3, 0, 0, 0, 0)] (pc' := 15) (by decide +kernel) (lv' := [some (.ref 9), some (.int (nI t)), some (.int (nI m)), some (.int (nI i))]) (st' := [.int (nI i), .int (nI m), .int (I 10 t)]) (I' := I) (J' := J) rfl ?_
      refine EV_cS (own := 10) (idx := 33) (μ' := mX10_flip) (av := [.int (nI m), .int (nI i)]) (rest := [.int (I 10 t)]) C hR rfl (Or.inl ⟨617, by decide⟩) kX10_flip sX10_flip (c_X10_flip g rest I J (nI m) (nI i) ) (by decide +kernel) rfl (by decide) (Nat.le_of_ble_eq_true rfl) rfl ⟨Nat.zero_le _, Nat.zero_le _⟩ ?_
      refine EV_cS (own := 10) (idx := 36) (μ' := mX10_has) (av := [.int (I 10 t), .int (r_X10_flip (nI m) (nI i))]) (rest := []) C hR rfl (Or.inl ⟨620, by decide⟩) kX10_has sX10_has (c_X10_has g rest I J (I 10 t) (r_X10_flip (nI m) (nI i)) ) (by decide +kernel) rfl (by decide) (Nat.le_of_ble_eq_true rfl) rfl ⟨Nat.zero_le _, Nat.zero_le _⟩ ?_
      refine EV_if_eq (off := 5) (tgt := 26) C (by decide +kernel) (by decide) (fun h2 => ?_) (fun h2 => ?_)
      · skip
        refine EV_blk (own := 10) C rfl [(.iinc 3 1, 0, 0, 0, (nI 1)), (.goto (-27), 0, 0, 0, 0)] (pc' := 2) (by decide +kernel) (lv' := [some (.ref 9), some (.int (nI t)), some (.int (nI m)), some (.int ((nI i) + (nI 1)))]) (st' := []) (I' := I) (J' := J) rfl ?_
        rw [show ((nI i) + (nI 1)) = (nI (i + 1)) from by simp (disch := omega) only [nI_add, tq_mul] <;> exact congrArg nI (by omega)]
        exact ih (i + 1) (by omega) (hr.trans (tq_sr_none (show (f_way1 I t m) i = none from by simp only [f_way1, if_neg h1, if_pos h2]))) kk
      · skip
        refine EV_blk (own := 10) C rfl [(.iload_n 3, 0, 0, 0, 0)] (pc' := 25) (by decide +kernel) (lv' := [some (.ref 9), some (.int (nI t)), some (.int (nI m)), some (.int (nI i))]) (st' := [.int (nI i)]) (I' := I) (J' := J) rfl ?_
        exact EV_iret C hZ rfl (by decide +kernel) (Nat.le_refl _) (Nat.le_refl _) ⟨tq_some ((hr.trans (tq_sr_some (show (f_way1 I t m) i = some (nI i) from by simp only [f_way1, if_neg h1, if_neg h2]))).symm), rfl, rfl, rfl, rfl⟩
def r_X10_wayOf (I : tq_I) (t m : Nat) : Int32 := (tq_sr (f_way1 I t m) 4 0 (-1))
set_option maxRecDepth 20000 in
theorem c_X10_wayOf (g : tq_G) (rest : List tq_S) (I : tq_I) (J : Int64) (t m : Nat) (ht : t ≤ 5) : CT g mX10_wayOf 1 0 0 [.ref 9, .int (nI t), .int (nI m)] (tq_SC ++ rest) tq_RR I J (tq_ret (tq_SC ++ rest) tq_RR (some (.int (r_X10_wayOf I t m))) I J) := by
  refine CT.ret kX10_wayOf (Nat.le_of_ble_eq_true rfl) (fun x0 C hR hZ => ?_)
  refine EV_en (lv' := [some (.ref 9), some (.int (nI t)), some (.int (nI m)), none]) 1 rfl ?_
  refine EV_blk (own := 10) C rfl [(.iconst 0, 0, 0, 0, (nI 0)), (.istore_n 3, 0, 0, 0, 0)] (pc' := 2) (by decide +kernel) (lv' := [some (.ref 9), some (.int (nI t)), some (.int (nI m)), some (.int (nI 0))]) (st' := []) (I' := I) (J' := J) rfl ?_
  refine lp_way1 I J C hR hZ t m ht 4 0 (by omega) (by simp only [r_X10_wayOf]) (fun hd => ?_)
  refine EV_blk (own := 10) C rfl [(.iconst (-1), 0, 0, 0, (-1))] (pc' := 33) (by decide +kernel) (lv' := [some (.ref 9), some (.int (nI t)), some (.int (nI m)), none]) (st' := [.int (-1)]) (I' := I) (J' := J) rfl ?_
  exact EV_iret C hZ rfl (by decide +kernel) (Nat.le_refl _) (Nat.le_refl _) ⟨tq_some hd.symm, rfl, rfl, rfl, rfl⟩
def f_fp1 (dr : Int32) (mk least : Nat) (cov : Int32) (i : Nat) : Option Int32 := (if (tq_b (((dr >>> ((nI (least + i)) &&& 31)) &&& (nI 1)) = (nI 1))) = 0 then none else (if ((nI (least + i)) &&& ((nI mk) ^^^ (-1))) = 0 then (if (cov ||| (nI (least + i))) = (nI mk) then (some ((nI 1) <<< ((nI (least + i)) &&& 31))) else none) else none))
set_option maxRecDepth 20000 in
theorem lp_fp1 {g : tq_G} {rest : List tq_S} {x0 : tq_X} {res : Int32} (I : tq_I) (J : Int64) (C : tq_C g mX10_firstParts x0) (hR : tq_ht x0 1 0 0) (hZ : tq_end g x0 (tq_ret (tq_SC ++ rest) tq_RR (some (.int res)) I J) 0 0) (dr : Int32) (mk least : Nat) (cov : Int32) (hmk : mk ≤ 15) (hls : least ≤ mk + 1) : ∀ (n i : Nat), i + n = mk + 1 - least → res = tq_sr (f_fp1 dr mk least cov) n i (nI 0) → (res = (nI 0) → EV g mX10_firstParts x0 0 0 92 [some (.int dr), some (.int (nI mk)), some (.int (nI least)), some (.int cov), some (.int (nI 1)), none, none, none] [] (tq_SC ++ rest) tq_RR I J) → EV g mX10_firstParts x0 0 0 3 [some (.int dr), some (.int (nI mk)), some (.int (nI least)), some (.int cov), some (.int (nI 1)), some (.int (nI (least + i))), none, none] [] (tq_SC ++ rest) tq_RR I J := by
  intro n
  induction n with
  | zero =>
    intro i hi hr kk
    refine EV_blk (own := 10) C rfl [(.iload 5, 0, 0, 0, 0), (.iload_n 1, 0, 0, 0, 0)] (pc' := 6) (by decide +kernel) (lv' := [some (.int dr), some (.int (nI mk)), some (.int (nI least)), some (.int cov), some (.int (nI 1)), some (.int (nI (least + i))), none, none]) (st' := [.int (nI mk), .int (nI (least + i))]) (I' := I) (J' := J) rfl ?_
    refine EV_icmp_gt (off := 86) (tgt := 92) C (by decide +kernel) (by decide) (fun h1 => ?_) (fun h1 => ?_)
    · skip
      exact EV_fg (lv' := [some (.int dr), some (.int (nI mk)), some (.int (nI least)), some (.int cov), some (.int (nI 1)), none, none, none]) ⟨rfl, rfl, rfl, rfl, rfl, trivial⟩ (kk hr)
    · skip
      exact absurd h1 (by simp (disch := omega) only [Int32.lt_iff_toInt_lt, Int32.le_iff_toInt_le, Int32.toInt_zero, nI_toInt, tq_m1]; omega)
  | succ n ih =>
    intro i hi hr kk
    refine EV_blk (own := 10) C rfl [(.iload 5, 0, 0, 0, 0), (.iload_n 1, 0, 0, 0, 0)] (pc' := 6) (by decide +kernel) (lv' := [some (.int dr), some (.int (nI mk)), some (.int (nI least)), some (.int cov), some (.int (nI 1)), some (.int (nI (least + i))), none, none]) (st' := [.int (nI mk), .int (nI (least + i))]) (I' := I) (J' := J) rfl ?_
    refine EV_icmp_gt (off := 86) (tgt := 92) C (by decide +kernel) (by decide) (fun h1 => ?_) (fun h1 => ?_)
    · skip
      exact absurd h1 (by simp (disch := omega) only [Int32.lt_iff_toInt_lt, Int32.le_iff_toInt_le, Int32.toInt_zero, nI_toInt, tq_m1]; omega)
    · skip
      refine EV_blk (own := 10) C rfl [(.iload_n 0, 0, 0, 0, 0), (.iload 5, 0, 0, 0, 0)] (pc' := 12) (by decide +kernel) (lv' := [some (.int dr), some (.int (nI mk)), some (.int (nI least)), some (.int cov), some (.int (nI 1)), some (.int (nI (least + i))), none, none]) (st' := [.int (nI (least + i)), .int dr]) (I' := I) (J' := J) rfl ?_
      refine EV_cS (own := 10) (idx := 36) (μ' := mX10_has) (av := [.int dr, .int (nI (least + i))]) (rest := []) C hR rfl (Or.inl ⟨620, by decide⟩) kX10_has sX10_has (c_X10_has g rest I J dr (nI (least + i)) ) (by decide +kernel) rfl (by decide) (Nat.le_of_ble_eq_true rfl) rfl ⟨Nat.zero_le _, Nat.zero_le _⟩ ?_
      refine EV_if_eq (off := 71) (tgt := 86) C (by decide +kernel) (by decide) (fun h2 => ?_) (fun h2 => ?_)
      · skip
        refine EV_blk (own := 10) C rfl [(.iinc 5 1, 0, 0, 0, (nI 1)), (.goto (-86), 0, 0, 0, 0)] (pc' := 3) (by decide +kernel) (lv' := [some (.int dr), some (.int (nI mk)), some (.int (nI least)), some (.int cov), some (.int (nI 1)), some (.int ((nI (least + i)) + (nI 1))), none, none]) (st' := []) (I' := I) (J' := J) rfl ?_
        rw [show ((nI (least + i)) + (nI 1)) = (nI (least + (i + 1))) from by simp (disch := omega) only [nI_add, tq_mul] <;> exact congrArg nI (by omega)]
        exact ih (i + 1) (by omega) (hr.trans (tq_sr_none (show (f_fp1 dr mk least cov) i = none from by simp only [f_fp1, if_neg h1, if_pos h2]))) kk
      · skip
        refine EV_blk (own := 10) C rfl [(.iload 5, 0, 0, 0, 0), (.iload_n 1, 0, 0, 0, 0), (.iconst (-1), 0, 0, 0, (-1)), (.ixor, 0, 0, 0, 0), (.iand, 0, 0, 0, 0)] (pc' := 24) (by decide +kernel) (lv' := [some (.int dr), some (.int (nI mk)), some (.int (nI least)), some (.int cov), some (.int (nI 1)), some (.int (nI (least + i))), none, none]) (st' := [.int ((nI (least + i)) &&& ((nI mk) ^^^ (-1)))]) (I' := I) (J' := J) rfl ?_
        refine EV_if_eq (off := 6) (tgt := 30) C (by decide +kernel) (by decide) (fun h3 => ?_) (fun h3 => ?_)
        · skip
          refine EV_blk (own := 10) C rfl [(.iload_n 3, 0, 0, 0, 0), (.iload 5, 0, 0, 0, 0), (.ior, 0, 0, 0, 0), (.istore 6, 0, 0, 0, 0), (.iload 4, 0, 0, 0, 0), (.iconst 1, 0, 0, 0, (nI 1))] (pc' := 39) (by decide +kernel) (lv' := [some (.int dr), some (.int (nI mk)), some (.int (nI least)), some (.int cov), some (.int (nI 1)), some (.int (nI (least + i))), some (.int (cov ||| (nI (least + i)))), none]) (st' := [.int (nI 1), .int (nI 1)]) (I' := I) (J' := J) rfl ?_
          refine EV_icmp_le (off := 36) (tgt := 75) C (by decide +kernel) (by decide) (fun h4 => ?_) (fun h4 => ?_)
          · skip
            refine EV_blk (own := 10) C rfl [(.iload 6, 0, 0, 0, 0), (.iload_n 1, 0, 0, 0, 0)] (pc' := 78) (by decide +kernel) (lv' := [some (.int dr), some (.int (nI mk)), some (.int (nI least)), some (.int cov), some (.int (nI 1)), some (.int (nI (least + i))), some (.int (cov ||| (nI (least + i)))), none]) (st' := [.int (nI mk), .int (cov ||| (nI (least + i)))]) (I' := I) (J' := J) rfl ?_
            refine EV_icmp_ne (off := 8) (tgt := 86) C (by decide +kernel) (by decide) (fun h5 => ?_) (fun h5 => ?_)
            · skip
              refine EV_blk (own := 10) C rfl [(.iinc 5 1, 0, 0, 0, (nI 1)), (.goto (-86), 0, 0, 0, 0)] (pc' := 3) (by decide +kernel) (lv' := [some (.int dr), some (.int (nI mk)), some (.int (nI least)), some (.int cov), some (.int (nI 1)), some (.int ((nI (least + i)) + (nI 1))), some (.int (cov ||| (nI (least + i)))), none]) (st' := []) (I' := I) (J' := J) rfl ?_
              refine EV_fg (lv' := [some (.int dr), some (.int (nI mk)), some (.int (nI least)), some (.int cov), some (.int (nI 1)), some (.int ((nI (least + i)) + (nI 1))), none, none]) ⟨rfl, rfl, rfl, rfl, rfl, rfl, trivial⟩ ?_
              rw [show ((nI (least + i)) + (nI 1)) = (nI (least + (i + 1))) from by simp (disch := omega) only [nI_add, tq_mul] <;> exact congrArg nI (by omega)]
              exact ih (i + 1) (by omega) (hr.trans (tq_sr_none (show (f_fp1 dr mk least cov) i = none from by simp only [f_fp1, if_neg h1, if_neg h2, if_pos h3, if_pos h4, if_neg h5]))) kk
            · skip
              refine EV_blk (own := 10) C rfl [(.iconst 1, 0, 0, 0, (nI 1)), (.iload 5, 0, 0, 0, 0), (.ishl, 0, 0, 0, 0)] (pc' := 85) (by decide +kernel) (lv' := [some (.int dr), some (.int (nI mk)), some (.int (nI least)), some (.int cov), some (.int (nI 1)), some (.int (nI (least + i))), some (.int (cov ||| (nI (least + i)))), none]) (st' := [.int ((nI 1) <<< ((nI (least + i)) &&& 31))]) (I' := I) (J' := J) rfl ?_
              exact EV_iret C hZ rfl (by decide +kernel) (Nat.le_refl _) (Nat.le_refl _) ⟨tq_some ((hr.trans (tq_sr_some (show (f_fp1 dr mk least cov) i = some ((nI 1) <<< ((nI (least + i)) &&& 31)) from by simp only [f_fp1, if_neg h1, if_neg h2, if_pos h3, if_pos h4, if_pos h5]))).symm), rfl, rfl, rfl, rfl⟩
          · skip
            exact absurd (show (nI 1) ≤ (nI 1) by decide) h4
        · skip
          refine EV_blk (own := 10) C rfl [(.goto 59, 0, 0, 0, 0), (.iinc 5 1, 0, 0, 0, (nI 1)), (.goto (-86), 0, 0, 0, 0)] (pc' := 3) (by decide +kernel) (lv' := [some (.int dr), some (.int (nI mk)), some (.int (nI least)), some (.int cov), some (.int (nI 1)), some (.int ((nI (least + i)) + (nI 1))), none, none]) (st' := []) (I' := I) (J' := J) rfl ?_
          rw [show ((nI (least + i)) + (nI 1)) = (nI (least + (i + 1))) from by simp (disch := omega) only [nI_add, tq_mul] <;> exact congrArg nI (by omega)]
          exact ih (i + 1) (by omega) (hr.trans (tq_sr_none (show (f_fp1 dr mk least cov) i = none from by simp only [f_fp1, if_neg h1, if_neg h2, if_neg h3]))) kk
def r_firstParts1 (dr : Int32) (mk least : Nat) (cov : Int32) : Int32 := (tq_sr (f_fp1 dr mk least cov) (mk + 1 - least) 0 (nI 0))
set_option maxRecDepth 20000 in
theorem c_firstParts1 (g : tq_G) (rest : List tq_S) (I : tq_I) (J : Int64) (dr : Int32) (mk least : Nat) (cov : Int32) (hmk : mk ≤ 15) (hls : least ≤ mk + 1) : CT g mX10_firstParts 1 0 0 [.int dr, .int (nI mk), .int (nI least), .int cov, .int (nI 1)] (tq_SC ++ rest) tq_RR I J (tq_ret (tq_SC ++ rest) tq_RR (some (.int (r_firstParts1 dr mk least cov))) I J) := by
  refine CT.ret kX10_firstParts (Nat.le_of_ble_eq_true rfl) (fun x0 C hR hZ => ?_)
  refine EV_en (lv' := [some (.int dr), some (.int (nI mk)), some (.int (nI least)), some (.int cov), some (.int (nI 1)), none, none, none]) 3 rfl ?_
  refine EV_blk (own := 10) C rfl [(.iload_n 2, 0, 0, 0, 0), (.istore 5, 0, 0, 0, 0)] (pc' := 3) (by decide +kernel) (lv' := [some (.int dr), some (.int (nI mk)), some (.int (nI least)), some (.int cov), some (.int (nI 1)), some (.int (nI least)), none, none]) (st' := []) (I' := I) (J' := J) rfl ?_
  refine lp_fp1 I J C hR hZ dr mk least cov hmk hls (mk + 1 - least) 0 (by omega) (by simp only [r_firstParts1]) (fun hd => ?_)
  refine EV_blk (own := 10) C rfl [(.iconst 0, 0, 0, 0, (nI 0))] (pc' := 93) (by decide +kernel) (lv' := [some (.int dr), some (.int (nI mk)), some (.int (nI least)), some (.int cov), some (.int (nI 1)), none, none, none]) (st' := [.int (nI 0)]) (I' := I) (J' := J) rfl ?_
  exact EV_iret C hZ rfl (by decide +kernel) (Nat.le_refl _) (Nat.le_refl _) ⟨tq_some hd.symm, rfl, rfl, rfl, rfl⟩
def f_fp2 (dr : Int32) (mk least : Nat) (cov : Int32) (i : Nat) : Option Int32 := (if (tq_b (((dr >>> ((nI (least + i)) &&& 31)) &&& (nI 1)) = (nI 1))) = 0 then none else (if ((nI (least + i)) &&& ((nI mk) ^^^ (-1))) = 0 then (if (r_firstParts1 dr mk ((least + i) + 1) (cov ||| (nI (least + i)))) = 0 then none else (some ((r_firstParts1 dr mk ((least + i) + 1) (cov ||| (nI (least + i)))) ||| ((nI 1) <<< ((nI (least + i)) &&& 31))))) else none))
set_option maxRecDepth 20000 in
theorem lp_fp2 {g : tq_G} {rest : List tq_S} {x0 : tq_X} {res : Int32} (I : tq_I) (J : Int64) (C : tq_C g mX10_firstParts x0) (hR : tq_ht x0 2 0 0) (hZ : tq_end g x0 (tq_ret (tq_SC ++ rest) tq_RR (some (.int res)) I J) 0 0) (dr : Int32) (mk least : Nat) (cov : Int32) (hmk : mk ≤ 15) (hls : least ≤ mk + 1) : ∀ (n i : Nat), i + n = mk + 1 - least → res = tq_sr (f_fp2 dr mk least cov) n i (nI 0) → (res = (nI 0) → EV g mX10_firstParts x0 0 0 92 [some (.int dr), some (.int (nI mk)), some (.int (nI least)), some (.int cov), some (.int (nI 2)), none, none, none] [] (tq_SC ++ rest) tq_RR I J) → EV g mX10_firstParts x0 0 0 3 [some (.int dr), some (.int (nI mk)), some (.int (nI least)), some (.int cov), some (.int (nI 2)), some (.int (nI (least + i))), none, none] [] (tq_SC ++ rest) tq_RR I J := by
  intro n
  induction n with
  | zero =>
    intro i hi hr kk
    refine EV_blk (own := 10) C rfl [(.iload 5, 0, 0, 0, 0), (.iload_n 1, 0, 0, 0, 0)] (pc' := 6) (by decide +kernel) (lv' := [some (.int dr), some (.int (nI mk)), some (.int (nI least)), some (.int cov), some (.int (nI 2)), some (.int (nI (least + i))), none, none]) (st' := [.int (nI mk), .int (nI (least + i))]) (I' := I) (J' := J) rfl ?_
    refine EV_icmp_gt (off := 86) (tgt := 92) C (by decide +kernel) (by decide) (fun h1 => ?_) (fun h1 => ?_)
    · skip
      exact EV_fg (lv' := [some (.int dr), some (.int (nI mk)), some (.int (nI least)), some (.int cov), some (.int (nI 2)), none, none, none]) ⟨rfl, rfl, rfl, rfl, rfl, trivial⟩ (kk hr)
    · skip
      exact absurd h1 (by simp (disch := omega) only [Int32.lt_iff_toInt_lt, Int32.le_iff_toInt_le, Int32.toInt_zero, nI_toInt, tq_m1]; omega)
  | succ n ih =>
    intro i hi hr kk
    refine EV_blk (own := 10) C rfl [(.iload 5, 0, 0, 0, 0), (.iload_n 1, 0, 0, 0, 0)] (pc' := 6) (by decide +kernel) (lv' := [some (.int dr), some (.int (nI mk)), some (.int (nI least)), some (.int cov), some (.int (nI 2)), some (.int (nI (least + i))), none, none]) (st' := [.int (nI mk), .int (nI (least + i))]) (I' := I) (J' := J) rfl ?_
    refine EV_icmp_gt (off := 86) (tgt := 92) C (by decide +kernel) (by decide) (fun h1 => ?_) (fun h1 => ?_)
    · skip
      exact absurd h1 (by simp (disch := omega) only [Int32.lt_iff_toInt_lt, Int32.le_iff_toInt_le, Int32.toInt_zero, nI_toInt, tq_m1]; omega)
    · skip
      refine EV_blk (own := 10) C rfl [(.iload_n 0, 0, 0, 0, 0), (.iload 5, 0, 0, 0, 0)] (pc' := 12) (by decide +kernel) (lv' := [some (.int dr), some (.int (nI mk)), some (.int (nI least)), some (.int cov), some (.int (nI 2)), some (.int (nI (least + i))), none, none]) (st' := [.int (nI (least + i)), .int dr]) (I' := I) (J' := J) rfl ?_
      refine EV_cS (own := 10) (idx := 36) (μ' := mX10_has) (av := [.int dr, .int (nI (least + i))]) (rest := []) C hR rfl (Or.inl ⟨620, by decide⟩) kX10_has sX10_has (c_X10_has g rest I J dr (nI (least + i)) ) (by decide +kernel) rfl (by decide) (Nat.le_of_ble_eq_true rfl) rfl ⟨Nat.zero_le _, Nat.zero_le _⟩ ?_
      refine EV_if_eq (off := 71) (tgt := 86) C (by decide +kernel) (by decide) (fun h2 => ?_) (fun h2 => ?_)
      · skip
        refine EV_blk (own := 10) C rfl [(.iinc 5 1, 0, 0, 0, (nI 1)), (.goto (-86), 0, 0, 0, 0)] (pc' := 3) (by decide +kernel) (lv' := [some (.int dr), some (.int (nI mk)), some (.int (nI least)), some (.int cov), some (.int (nI 2)), some (.int ((nI (least + i)) + (nI 1))), none, none]) (st' := []) (I' := I) (J' := J) rfl ?_
        rw [show ((nI (least + i)) + (nI 1)) = (nI (least + (i + 1))) from by simp (disch := omega) only [nI_add, tq_mul] <;> exact congrArg nI (by omega)]
        exact ih (i + 1) (by omega) (hr.trans (tq_sr_none (show (f_fp2 dr mk least cov) i = none from by simp only [f_fp2, if_neg h1, if_pos h2]))) kk
      · skip
        refine EV_blk (own := 10) C rfl [(.iload 5, 0, 0, 0, 0), (.iload_n 1, 0, 0, 0, 0), (.iconst (-1), 0, 0, 0, (-1)), (.ixor, 0, 0, 0, 0), (.iand, 0, 0, 0, 0)] (pc' := 24) (by decide +kernel) (lv' := [some (.int dr), some (.int (nI mk)), some (.int (nI least)), some (.int cov), some (.int (nI 2)), some (.int (nI (least + i))), none, none]) (st' := [.int ((nI (least + i)) &&& ((nI mk) ^^^ (-1)))]) (I' := I) (J' := J) rfl ?_
        refine EV_if_eq (off := 6) (tgt := 30) C (by decide +kernel) (by decide) (fun h3 => ?_) (fun h3 => ?_)
        · skip
          refine EV_blk (own := 10) C rfl [(.iload_n 3, 0, 0, 0, 0), (.iload 5, 0, 0, 0, 0), (.ior, 0, 0, 0, 0), (.istore 6, 0, 0, 0, 0), (.iload 4, 0, 0, 0, 0), (.iconst 1, 0, 0, 0, (nI 1))] (pc' := 39) (by decide +kernel) (lv' := [some (.int dr), some (.int (nI mk)), some (.int (nI least)), some (.int cov), some (.int (nI 2)), some (.int (nI (least + i))), some (.int (cov ||| (nI (least + i)))), none]) (st' := [.int (nI 1), .int (nI 2)]) (I' := I) (J' := J) rfl ?_
          refine EV_icmp_le (off := 36) (tgt := 75) C (by decide +kernel) (by decide) (fun h4 => ?_) (fun h4 => ?_)
          · skip
            exact absurd h4 (by decide)
          · skip
            refine EV_blk (own := 10) C rfl [(.iload_n 0, 0, 0, 0, 0), (.iload_n 1, 0, 0, 0, 0), (.iload 5, 0, 0, 0, 0), (.iconst 1, 0, 0, 0, (nI 1)), (.iadd, 0, 0, 0, 0), (.iload 6, 0, 0, 0, 0), (.iload 4, 0, 0, 0, 0), (.iconst 1, 0, 0, 0, (nI 1)), (.isub, 0, 0, 0, 0)] (pc' := 54) (by decide +kernel) (lv' := [some (.int dr), some (.int (nI mk)), some (.int (nI least)), some (.int cov), some (.int (nI 2)), some (.int (nI (least + i))), some (.int (cov ||| (nI (least + i)))), none]) (st' := [.int ((nI 2) - (nI 1)), .int (cov ||| (nI (least + i))), .int ((nI (least + i)) + (nI 1)), .int (nI mk), .int dr]) (I' := I) (J' := J) rfl ?_
            refine EV_ste (st' := [.int (nI 1), .int (cov ||| (nI (least + i))), .int ((nI (least + i)) + (nI 1)), .int (nI mk), .int dr]) (by rw [show (nI 2) - (nI 1) = (nI 1) from by decide]) ?_
            rw [show ((nI (least + i)) + (nI 1)) = (nI ((least + i) + 1)) from by simp (disch := omega) only [nI_add, tq_mul, tq_rem_nI, tq_div_nI, tq_sub_nI]]
            refine EV_cS (own := 10) (idx := 40) (μ' := mX10_firstParts) (av := [.int dr, .int (nI mk), .int (nI ((least + i) + 1)), .int (cov ||| (nI (least + i))), .int (nI 1)]) (rest := []) C hR rfl (Or.inl ⟨626, by decide⟩) kX10_firstParts sX10_firstParts (c_firstParts1 g rest I J dr mk ((least + i) + 1) (cov ||| (nI (least + i))) (by omega) (by omega)) (by decide +kernel) rfl (by decide) (Nat.le_of_ble_eq_true rfl) rfl ⟨Nat.zero_le _, Nat.zero_le _⟩ ?_
            refine EV_blk (own := 10) C rfl [(.istore 7, 0, 0, 0, 0), (.iload 7, 0, 0, 0, 0)] (pc' := 61) (by decide +kernel) (lv' := [some (.int dr), some (.int (nI mk)), some (.int (nI least)), some (.int cov), some (.int (nI 2)), some (.int (nI (least + i))), some (.int (cov ||| (nI (least + i)))), some (.int (r_firstParts1 dr mk ((least + i) + 1) (cov ||| (nI (least + i)))))]) (st' := [.int (r_firstParts1 dr mk ((least + i) + 1) (cov ||| (nI (least + i))))]) (I' := I) (J' := J) rfl ?_
            refine EV_if_eq (off := 11) (tgt := 72) C (by decide +kernel) (by decide) (fun h5 => ?_) (fun h5 => ?_)
            · skip
              refine EV_blk (own := 10) C rfl [(.goto 14, 0, 0, 0, 0), (.iinc 5 1, 0, 0, 0, (nI 1)), (.goto (-86), 0, 0, 0, 0)] (pc' := 3) (by decide +kernel) (lv' := [some (.int dr), some (.int (nI mk)), some (.int (nI least)), some (.int cov), some (.int (nI 2)), some (.int ((nI (least + i)) + (nI 1))), some (.int (cov ||| (nI (least + i)))), some (.int (r_firstParts1 dr mk ((least + i) + 1) (cov ||| (nI (least + i)))))]) (st' := []) (I' := I) (J' := J) rfl ?_
              refine EV_fg (lv' := [some (.int dr), some (.int (nI mk)), some (.int (nI least)), some (.int cov), some (.int (nI 2)), some (.int ((nI (least + i)) + (nI 1))), none, none]) ⟨rfl, rfl, rfl, rfl, rfl, rfl, trivial⟩ ?_
              rw [show ((nI (least + i)) + (nI 1)) = (nI (least + (i + 1))) from by simp (disch := omega) only [nI_add, tq_mul] <;> exact congrArg nI (by omega)]
              exact ih (i + 1) (by omega) (hr.trans (tq_sr_none (show (f_fp2 dr mk least cov) i = none from by simp only [f_fp2, if_neg h1, if_neg h2, if_pos h3, if_neg h4, if_pos h5]))) kk
            · skip
              refine EV_blk (own := 10) C rfl [(.iload 7, 0, 0, 0, 0), (.iconst 1, 0, 0, 0, (nI 1)), (.iload 5, 0, 0, 0, 0), (.ishl, 0, 0, 0, 0), (.ior, 0, 0, 0, 0)] (pc' := 71) (by decide +kernel) (lv' := [some (.int dr), some (.int (nI mk)), some (.int (nI least)), some (.int cov), some (.int (nI 2)), some (.int (nI (least + i))), some (.int (cov ||| (nI (least + i)))), some (.int (r_firstParts1 dr mk ((least + i) + 1) (cov ||| (nI (least + i)))))]) (st' := [.int ((r_firstParts1 dr mk ((least + i) + 1) (cov ||| (nI (least + i)))) ||| ((nI 1) <<< ((nI (least + i)) &&& 31)))]) (I' := I) (J' := J) rfl ?_
              exact EV_iret C hZ rfl (by decide +kernel) (Nat.le_refl _) (Nat.le_refl _) ⟨tq_some ((hr.trans (tq_sr_some (show (f_fp2 dr mk least cov) i = some ((r_firstParts1 dr mk ((least + i) + 1) (cov ||| (nI (least + i)))) ||| ((nI 1) <<< ((nI (least + i)) &&& 31))) from by simp only [f_fp2, if_neg h1, if_neg h2, if_pos h3, if_neg h4, if_neg h5]))).symm), rfl, rfl, rfl, rfl⟩
        · skip
          refine EV_blk (own := 10) C rfl [(.goto 59, 0, 0, 0, 0), (.iinc 5 1, 0, 0, 0, (nI 1)), (.goto (-86), 0, 0, 0, 0)] (pc' := 3) (by decide +kernel) (lv' := [some (.int dr), some (.int (nI mk)), some (.int (nI least)), some (.int cov), some (.int (nI 2)), some (.int ((nI (least + i)) + (nI 1))), none, none]) (st' := []) (I' := I) (J' := J) rfl ?_
          rw [show ((nI (least + i)) + (nI 1)) = (nI (least + (i + 1))) from by simp (disch := omega) only [nI_add, tq_mul] <;> exact congrArg nI (by omega)]
          exact ih (i + 1) (by omega) (hr.trans (tq_sr_none (show (f_fp2 dr mk least cov) i = none from by simp only [f_fp2, if_neg h1, if_neg h2, if_neg h3]))) kk
def r_firstParts2 (dr : Int32) (mk least : Nat) (cov : Int32) : Int32 := (tq_sr (f_fp2 dr mk least cov) (mk + 1 - least) 0 (nI 0))
set_option maxRecDepth 20000 in
theorem c_firstParts2 (g : tq_G) (rest : List tq_S) (I : tq_I) (J : Int64) (dr : Int32) (mk least : Nat) (cov : Int32) (hmk : mk ≤ 15) (hls : least ≤ mk + 1) : CT g mX10_firstParts 2 0 0 [.int dr, .int (nI mk), .int (nI least), .int cov, .int (nI 2)] (tq_SC ++ rest) tq_RR I J (tq_ret (tq_SC ++ rest) tq_RR (some (.int (r_firstParts2 dr mk least cov))) I J) := by
  refine CT.ret kX10_firstParts (Nat.le_of_ble_eq_true rfl) (fun x0 C hR hZ => ?_)
  refine EV_en (lv' := [some (.int dr), some (.int (nI mk)), some (.int (nI least)), some (.int cov), some (.int (nI 2)), none, none, none]) 3 rfl ?_
  refine EV_blk (own := 10) C rfl [(.iload_n 2, 0, 0, 0, 0), (.istore 5, 0, 0, 0, 0)] (pc' := 3) (by decide +kernel) (lv' := [some (.int dr), some (.int (nI mk)), some (.int (nI least)), some (.int cov), some (.int (nI 2)), some (.int (nI least)), none, none]) (st' := []) (I' := I) (J' := J) rfl ?_
  refine lp_fp2 I J C hR hZ dr mk least cov hmk hls (mk + 1 - least) 0 (by omega) (by simp only [r_firstParts2]) (fun hd => ?_)
  refine EV_blk (own := 10) C rfl [(.iconst 0, 0, 0, 0, (nI 0))] (pc' := 93) (by decide +kernel) (lv' := [some (.int dr), some (.int (nI mk)), some (.int (nI least)), some (.int cov), some (.int (nI 2)), none, none, none]) (st' := [.int (nI 0)]) (I' := I) (J' := J) rfl ?_
  exact EV_iret C hZ rfl (by decide +kernel) (Nat.le_refl _) (Nat.le_refl _) ⟨tq_some hd.symm, rfl, rfl, rfl, rfl⟩
def f_fp3 (dr : Int32) (mk least : Nat) (cov : Int32) (i : Nat) : Option Int32 := (if (tq_b (((dr >>> ((nI (least + i)) &&& 31)) &&& (nI 1)) = (nI 1))) = 0 then none else (if ((nI (least + i)) &&& ((nI mk) ^^^ (-1))) = 0 then (if (r_firstParts2 dr mk ((least + i) + 1) (cov ||| (nI (least + i)))) = 0 then none else (some ((r_firstParts2 dr mk ((least + i) + 1) (cov ||| (nI (least + i)))) ||| ((nI 1) <<< ((nI (least + i)) &&& 31))))) else none))
set_option maxRecDepth 20000 in
theorem lp_fp3 {g : tq_G} {rest : List tq_S} {x0 : tq_X} {res : Int32} (I : tq_I) (J : Int64) (C : tq_C g mX10_firstParts x0) (hR : tq_ht x0 3 0 0) (hZ : tq_end g x0 (tq_ret (tq_SC ++ rest) tq_RR (some (.int res)) I J) 0 0) (dr : Int32) (mk least : Nat) (cov : Int32) (hmk : mk ≤ 15) (hls : least ≤ mk + 1) : ∀ (n i : Nat), i + n = mk + 1 - least → res = tq_sr (f_fp3 dr mk least cov) n i (nI 0) → (res = (nI 0) → EV g mX10_firstParts x0 0 0 92 [some (.int dr), some (.int (nI mk)), some (.int (nI least)), some (.int cov), some (.int (nI 3)), none, none, none] [] (tq_SC ++ rest) tq_RR I J) → EV g mX10_firstParts x0 0 0 3 [some (.int dr), some (.int (nI mk)), some (.int (nI least)), some (.int cov), some (.int (nI 3)), some (.int (nI (least + i))), none, none] [] (tq_SC ++ rest) tq_RR I J := by
  intro n
  induction n with
  | zero =>
    intro i hi hr kk
    refine EV_blk (own := 10) C rfl [(.iload 5, 0, 0, 0, 0), (.iload_n 1, 0, 0, 0, 0)] (pc' := 6) (by decide +kernel) (lv' := [some (.int dr), some (.int (nI mk)), some (.int (nI least)), some (.int cov), some (.int (nI 3)), some (.int (nI (least + i))), none, none]) (st' := [.int (nI mk), .int (nI (least + i))]) (I' := I) (J' := J) rfl ?_
    refine EV_icmp_gt (off := 86) (tgt := 92) C (by decide +kernel) (by decide) (fun h1 => ?_) (fun h1 => ?_)
    · skip
      exact EV_fg (lv' := [some (.int dr), some (.int (nI mk)), some (.int (nI least)), some (.int cov), some (.int (nI 3)), none, none, none]) ⟨rfl, rfl, rfl, rfl, rfl, trivial⟩ (kk hr)
    · skip
      exact absurd h1 (by simp (disch := omega) only [Int32.lt_iff_toInt_lt, Int32.le_iff_toInt_le, Int32.toInt_zero, nI_toInt, tq_m1]; omega)
  | succ n ih =>
    intro i hi hr kk
    refine EV_blk (own := 10) C rfl [(.iload 5, 0, 0, 0, 0), (.iload_n 1, 0, 0, 0, 0)] (pc' := 6) (by decide +kernel) (lv' := [some (.int dr), some (.int (nI mk)), some (.int (nI least)), some (.int cov), some (.int (nI 3)), some (.int (nI (least + i))), none, none]) (st' := [.int (nI mk), .int (nI (least + i))]) (I' := I) (J' := J) rfl ?_
    refine EV_icmp_gt (off := 86) (tgt := 92) C (by decide +kernel) (by decide) (fun h1 => ?_) (fun h1 => ?_)
    · skip
      exact absurd h1 (by simp (disch := omega) only [Int32.lt_iff_toInt_lt, Int32.le_iff_toInt_le, Int32.toInt_zero, nI_toInt, tq_m1]; omega)
    · skip
      refine EV_blk (own := 10) C rfl [(.iload_n 0, 0, 0, 0, 0), (.iload 5, 0, 0, 0, 0)] (pc' := 12) (by decide +kernel) (lv' := [some (.int dr), some (.int (nI mk)), some (.int (nI least)), some (.int cov), some (.int (nI 3)), some (.int (nI (least + i))), none, none]) (st' := [.int (nI (least + i)), .int dr]) (I' := I) (J' := J) rfl ?_
      refine EV_cS (own := 10) (idx := 36) (μ' := mX10_has) (av := [.int dr, .int (nI (least + i))]) (rest := []) C hR rfl (Or.inl ⟨620, by decide⟩) kX10_has sX10_has (c_X10_has g rest I J dr (nI (least + i)) ) (by decide +kernel) rfl (by decide) (Nat.le_of_ble_eq_true rfl) rfl ⟨Nat.zero_le _, Nat.zero_le _⟩ ?_
      refine EV_if_eq (off := 71) (tgt := 86) C (by decide +kernel) (by decide) (fun h2 => ?_) (fun h2 => ?_)
      · skip
        refine EV_blk (own := 10) C rfl [(.iinc 5 1, 0, 0, 0, (nI 1)), (.goto (-86), 0, 0, 0, 0)] (pc' := 3) (by decide +kernel) (lv' := [some (.int dr), some (.int (nI mk)), some (.int (nI least)), some (.int cov), some (.int (nI 3)), some (.int ((nI (least + i)) + (nI 1))), none, none]) (st' := []) (I' := I) (J' := J) rfl ?_
        rw [show ((nI (least + i)) + (nI 1)) = (nI (least + (i + 1))) from by simp (disch := omega) only [nI_add, tq_mul] <;> exact congrArg nI (by omega)]
        exact ih (i + 1) (by omega) (hr.trans (tq_sr_none (show (f_fp3 dr mk least cov) i = none from by simp only [f_fp3, if_neg h1, if_pos h2]))) kk
      · skip
        refine EV_blk (own := 10) C rfl [(.iload 5, 0, 0, 0, 0), (.iload_n 1, 0, 0, 0, 0), (.iconst (-1), 0, 0, 0, (-1)), (.ixor, 0, 0, 0, 0), (.iand, 0, 0, 0, 0)] (pc' := 24) (by decide +kernel) (lv' := [some (.int dr), some (.int (nI mk)), some (.int (nI least)), some (.int cov), some (.int (nI 3)), some (.int (nI (least + i))), none, none]) (st' := [.int ((nI (least + i)) &&& ((nI mk) ^^^ (-1)))]) (I' := I) (J' := J) rfl ?_
        refine EV_if_eq (off := 6) (tgt := 30) C (by decide +kernel) (by decide) (fun h3 => ?_) (fun h3 => ?_)
        · skip
          refine EV_blk (own := 10) C rfl [(.iload_n 3, 0, 0, 0, 0), (.iload 5, 0, 0, 0, 0), (.ior, 0, 0, 0, 0), (.istore 6, 0, 0, 0, 0), (.iload 4, 0, 0, 0, 0), (.iconst 1, 0, 0, 0, (nI 1))] (pc' := 39) (by decide +kernel) (lv' := [some (.int dr), some (.int (nI mk)), some (.int (nI least)), some (.int cov), some (.int (nI 3)), some (.int (nI (least + i))), some (.int (cov ||| (nI (least + i)))), none]) (st' := [.int (nI 1), .int (nI 3)]) (I' := I) (J' := J) rfl ?_
          refine EV_icmp_le (off := 36) (tgt := 75) C (by decide +kernel) (by decide) (fun h4 => ?_) (fun h4 => ?_)
          · skip
            exact absurd h4 (by decide)
          · skip
            refine EV_blk (own := 10) C rfl [(.iload_n 0, 0, 0, 0, 0), (.iload_n 1, 0, 0, 0, 0), (.iload 5, 0, 0, 0, 0), (.iconst 1, 0, 0, 0, (nI 1)), (.iadd, 0, 0, 0, 0), (.iload 6, 0, 0, 0, 0), (.iload 4, 0, 0, 0, 0), (.iconst 1, 0, 0, 0, (nI 1)), (.isub, 0, 0, 0, 0)] (pc' := 54) (by decide +kernel) (lv' := [some (.int dr), some (.int (nI mk)), some (.int (nI least)), some (.int cov), some (.int (nI 3)), some (.int (nI (least + i))), some (.int (cov ||| (nI (least + i)))), none]) (st' := [.int ((nI 3) - (nI 1)), .int (cov ||| (nI (least + i))), .int ((nI (least + i)) + (nI 1)), .int (nI mk), .int dr]) (I' := I) (J' := J) rfl ?_
            refine EV_ste (st' := [.int (nI 2), .int (cov ||| (nI (least + i))), .int ((nI (least + i)) + (nI 1)), .int (nI mk), .int dr]) (by rw [show (nI 3) - (nI 1) = (nI 2) from by decide]) ?_
            rw [show ((nI (least + i)) + (nI 1)) = (nI ((least + i) + 1)) from by simp (disch := omega) only [nI_add, tq_mul, tq_rem_nI, tq_div_nI, tq_sub_nI]]
            refine EV_cS (own := 10) (idx := 40) (μ' := mX10_firstParts) (av := [.int dr, .int (nI mk), .int (nI ((least + i) + 1)), .int (cov ||| (nI (least + i))), .int (nI 2)]) (rest := []) C hR rfl (Or.inl ⟨626, by decide⟩) kX10_firstParts sX10_firstParts (c_firstParts2 g rest I J dr mk ((least + i) + 1) (cov ||| (nI (least + i))) (by omega) (by omega)) (by decide +kernel) rfl (by decide) (Nat.le_of_ble_eq_true rfl) rfl ⟨Nat.zero_le _, Nat.zero_le _⟩ ?_
            refine EV_blk (own := 10) C rfl [(.istore 7, 0, 0, 0, 0), (.iload 7, 0, 0, 0, 0)] (pc' := 61) (by decide +kernel) (lv' := [some (.int dr), some (.int (nI mk)), some (.int (nI least)), some (.int cov), some (.int (nI 3)), some (.int (nI (least + i))), some (.int (cov ||| (nI (least + i)))), some (.int (r_firstParts2 dr mk ((least + i) + 1) (cov ||| (nI (least + i)))))]) (st' := [.int (r_firstParts2 dr mk ((least + i) + 1) (cov ||| (nI (least + i))))]) (I' := I) (J' := J) rfl ?_
            refine EV_if_eq (off := 11) (tgt := 72) C (by decide +kernel) (by decide) (fun h5 => ?_) (fun h5 => ?_)
            · skip
              refine EV_blk (own := 10) C rfl [(.goto 14, 0, 0, 0, 0), (.iinc 5 1, 0, 0, 0, (nI 1)), (.goto (-86), 0, 0, 0, 0)] (pc' := 3) (by decide +kernel) (lv' := [some (.int dr), some (.int (nI mk)), some (.int (nI least)), some (.int cov), some (.int (nI 3)), some (.int ((nI (least + i)) + (nI 1))), some (.int (cov ||| (nI (least + i)))), some (.int (r_firstParts2 dr mk ((least + i) + 1) (cov ||| (nI (least + i)))))]) (st' := []) (I' := I) (J' := J) rfl ?_
              refine EV_fg (lv' := [some (.int dr), some (.int (nI mk)), some (.int (nI least)), some (.int cov), some (.int (nI 3)), some (.int ((nI (least + i)) + (nI 1))), none, none]) ⟨rfl, rfl, rfl, rfl, rfl, rfl, trivial⟩ ?_
              rw [show ((nI (least + i)) + (nI 1)) = (nI (least + (i + 1))) from by simp (disch := omega) only [nI_add, tq_mul] <;> exact congrArg nI (by omega)]
              exact ih (i + 1) (by omega) (hr.trans (tq_sr_none (show (f_fp3 dr mk least cov) i = none from by simp only [f_fp3, if_neg h1, if_neg h2, if_pos h3, if_neg h4, if_pos h5]))) kk
            · skip
              refine EV_blk (own := 10) C rfl [(.iload 7, 0, 0, 0, 0), (.iconst 1, 0, 0, 0, (nI 1)), (.iload 5, 0, 0, 0, 0), (.ishl, 0, 0, 0, 0), (.ior, 0, 0, 0, 0)] (pc' := 71) (by decide +kernel) (lv' := [some (.int dr), some (.int (nI mk)), some (.int (nI least)), some (.int cov), some (.int (nI 3)), some (.int (nI (least + i))), some (.int (cov ||| (nI (least + i)))), some (.int (r_firstParts2 dr mk ((least + i) + 1) (cov ||| (nI (least + i)))))]) (st' := [.int ((r_firstParts2 dr mk ((least + i) + 1) (cov ||| (nI (least + i)))) ||| ((nI 1) <<< ((nI (least + i)) &&& 31)))]) (I' := I) (J' := J) rfl ?_
              exact EV_iret C hZ rfl (by decide +kernel) (Nat.le_refl _) (Nat.le_refl _) ⟨tq_some ((hr.trans (tq_sr_some (show (f_fp3 dr mk least cov) i = some ((r_firstParts2 dr mk ((least + i) + 1) (cov ||| (nI (least + i)))) ||| ((nI 1) <<< ((nI (least + i)) &&& 31))) from by simp only [f_fp3, if_neg h1, if_neg h2, if_pos h3, if_neg h4, if_neg h5]))).symm), rfl, rfl, rfl, rfl⟩
        · skip
          refine EV_blk (own := 10) C rfl [(.goto 59, 0, 0, 0, 0), (.iinc 5 1, 0, 0, 0, (nI 1)), (.goto (-86), 0, 0, 0, 0)] (pc' := 3) (by decide +kernel) (lv' := [some (.int dr), some (.int (nI mk)), some (.int (nI least)), some (.int cov), some (.int (nI 3)), some (.int ((nI (least + i)) + (nI 1))), none, none]) (st' := []) (I' := I) (J' := J) rfl ?_
          rw [show ((nI (least + i)) + (nI 1)) = (nI (least + (i + 1))) from by simp (disch := omega) only [nI_add, tq_mul] <;> exact congrArg nI (by omega)]
          exact ih (i + 1) (by omega) (hr.trans (tq_sr_none (show (f_fp3 dr mk least cov) i = none from by simp only [f_fp3, if_neg h1, if_neg h2, if_neg h3]))) kk
def r_firstParts3 (dr : Int32) (mk least : Nat) (cov : Int32) : Int32 := (tq_sr (f_fp3 dr mk least cov) (mk + 1 - least) 0 (nI 0))
set_option maxRecDepth 20000 in
theorem c_firstParts3 (g : tq_G) (rest : List tq_S) (I : tq_I) (J : Int64) (dr : Int32) (mk least : Nat) (cov : Int32) (hmk : mk ≤ 15) (hls : least ≤ mk + 1) : CT g mX10_firstParts 3 0 0 [.int dr, .int (nI mk), .int (nI least), .int cov, .int (nI 3)] (tq_SC ++ rest) tq_RR I J (tq_ret (tq_SC ++ rest) tq_RR (some (.int (r_firstParts3 dr mk least cov))) I J) := by
  refine CT.ret kX10_firstParts (Nat.le_of_ble_eq_true rfl) (fun x0 C hR hZ => ?_)
  refine EV_en (lv' := [some (.int dr), some (.int (nI mk)), some (.int (nI least)), some (.int cov), some (.int (nI 3)), none, none, none]) 3 rfl ?_
  refine EV_blk (own := 10) C rfl [(.iload_n 2, 0, 0, 0, 0), (.istore 5, 0, 0, 0, 0)] (pc' := 3) (by decide +kernel) (lv' := [some (.int dr), some (.int (nI mk)), some (.int (nI least)), some (.int cov), some (.int (nI 3)), some (.int (nI least)), none, none]) (st' := []) (I' := I) (J' := J) rfl ?_
  refine lp_fp3 I J C hR hZ dr mk least cov hmk hls (mk + 1 - least) 0 (by omega) (by simp only [r_firstParts3]) (fun hd => ?_)
  refine EV_blk (own := 10) C rfl [(.iconst 0, 0, 0, 0, (nI 0))] (pc' := 93) (by decide +kernel) (lv' := [some (.int dr), some (.int (nI mk)), some (.int (nI least)), some (.int cov), some (.int (nI 3)), none, none, none]) (st' := [.int (nI 0)]) (I' := I) (J' := J) rfl ?_
  exact EV_iret C hZ rfl (by decide +kernel) (Nat.le_refl _) (Nat.le_refl _) ⟨tq_some hd.symm, rfl, rfl, rfl, rfl⟩
def f_fp4 (dr : Int32) (mk least : Nat) (cov : Int32) (i : Nat) : Option Int32 := (if (tq_b (((dr >>> ((nI (least + i)) &&& 31)) &&& (nI 1)) = (nI 1))) = 0 then none else (if ((nI (least + i)) &&& ((nI mk) ^^^ (-1))) = 0 then (if (r_firstParts3 dr mk ((least + i) + 1) (cov ||| (nI (least + i)))) = 0 then none else (some ((r_firstParts3 dr mk ((least + i) + 1) (cov ||| (nI (least + i)))) ||| ((nI 1) <<< ((nI (least + i)) &&& 31))))) else none))
set_option maxRecDepth 20000 in
theorem lp_fp4 {g : tq_G} {rest : List tq_S} {x0 : tq_X} {res : Int32} (I : tq_I) (J : Int64) (C : tq_C g mX10_firstParts x0) (hR : tq_ht x0 4 0 0) (hZ : tq_end g x0 (tq_ret (tq_SC ++ rest) tq_RR (some (.int res)) I J) 0 0) (dr : Int32) (mk least : Nat) (cov : Int32) (hmk : mk ≤ 15) (hls : least ≤ mk + 1) : ∀ (n i : Nat), i + n = mk + 1 - least → res = tq_sr (f_fp4 dr mk least cov) n i (nI 0) → (res = (nI 0) → EV g mX10_firstParts x0 0 0 92 [some (.int dr), some (.int (nI mk)), some (.int (nI least)), some (.int cov), some (.int (nI 4)), none, none, none] [] (tq_SC ++ rest) tq_RR I J) → EV g mX10_firstParts x0 0 0 3 [some (.int dr), some (.int (nI mk)), some (.int (nI least)), some (.int cov), some (.int (nI 4)), some (.int (nI (least + i))), none, none] [] (tq_SC ++ rest) tq_RR I J := by
  intro n
  induction n with
  | zero =>
    intro i hi hr kk
    refine EV_blk (own := 10) C rfl [(.iload 5, 0, 0, 0, 0), (.iload_n 1, 0, 0, 0, 0)] (pc' := 6) (by decide +kernel) (lv' := [some (.int dr), some (.int (nI mk)), some (.int (nI least)), some (.int cov), some (.int (nI 4)), some (.int (nI (least + i))), none, none]) (st' := [.int (nI mk), .int (nI (least + i))]) (I' := I) (J' := J) rfl ?_
    refine EV_icmp_gt (off := 86) (tgt := 92) C (by decide +kernel) (by decide) (fun h1 => ?_) (fun h1 => ?_)
    · skip
      exact EV_fg (lv' := [some (.int dr), some (.int (nI mk)), some (.int (nI least)), some (.int cov), some (.int (nI 4)), none, none, none]) ⟨rfl, rfl, rfl, rfl, rfl, trivial⟩ (kk hr)
    · skip
      exact absurd h1 (by simp (disch := omega) only [Int32.lt_iff_toInt_lt, Int32.le_iff_toInt_le, Int32.toInt_zero, nI_toInt, tq_m1]; omega)
  | succ n ih =>
    intro i hi hr kk
    refine EV_blk (own := 10) C rfl [(.iload 5, 0, 0, 0, 0), (.iload_n 1, 0, 0, 0, 0)] (pc' := 6) (by decide +kernel) (lv' := [some (.int dr), some (.int (nI mk)), some (.int (nI least)), some (.int cov), some (.int (nI 4)), some (.int (nI (least + i))), none, none]) (st' := [.int (nI mk), .int (nI (least + i))]) (I' := I) (J' := J) rfl ?_
    refine EV_icmp_gt (off := 86) (tgt := 92) C (by decide +kernel) (by decide) (fun h1 => ?_) (fun h1 => ?_)
    · skip
      exact absurd h1 (by simp (disch := omega) only [Int32.lt_iff_toInt_lt, Int32.le_iff_toInt_le, Int32.toInt_zero, nI_toInt, tq_m1]; omega)
    · skip
      refine EV_blk (own := 10) C rfl [(.iload_n 0, 0, 0, 0, 0), (.iload 5, 0, 0, 0, 0)] (pc' := 12) (by decide +kernel) (lv' := [some (.int dr), some (.int (nI mk)), some (.int (nI least)), some (.int cov), some (.int (nI 4)), some (.int (nI (least + i))), none, none]) (st' := [.int (nI (least + i)), .int dr]) (I' := I) (J' := J) rfl ?_
      refine EV_cS (own := 10) (idx := 36) (μ' := mX10_has) (av := [.int dr, .int (nI (least + i))]) (rest := []) C hR rfl (Or.inl ⟨620, by decide⟩) kX10_has sX10_has (c_X10_has g rest I J dr (nI (least + i)) ) (by decide +kernel) rfl (by decide) (Nat.le_of_ble_eq_true rfl) rfl ⟨Nat.zero_le _, Nat.zero_le _⟩ ?_
      refine EV_if_eq (off := 71) (tgt := 86) C (by decide +kernel) (by decide) (fun h2 => ?_) (fun h2 => ?_)
      · skip
        refine EV_blk (own := 10) C rfl [(.iinc 5 1, 0, 0, 0, (nI 1)), (.goto (-86), 0, 0, 0, 0)] (pc' := 3) (by decide +kernel) (lv' := [some (.int dr), some (.int (nI mk)), some (.int (nI least)), some (.int cov), some (.int (nI 4)), some (.int ((nI (least + i)) + (nI 1))), none, none]) (st' := []) (I' := I) (J' := J) rfl ?_
        rw [show ((nI (least + i)) + (nI 1)) = (nI (least + (i + 1))) from by simp (disch := omega) only [nI_add, tq_mul] <;> exact congrArg nI (by omega)]
        exact ih (i + 1) (by omega) (hr.trans (tq_sr_none (show (f_fp4 dr mk least cov) i = none from by simp only [f_fp4, if_neg h1, if_pos h2]))) kk
      · skip
        refine EV_blk (own := 10) C rfl [(.iload 5, 0, 0, 0, 0), (.iload_n 1, 0, 0, 0, 0), (.iconst (-1), 0, 0, 0, (-1)), (.ixor, 0, 0, 0, 0), (.iand, 0, 0, 0, 0)] (pc' := 24) (by decide +kernel) (lv' := [some (.int dr), some (.int (nI mk)), some (.int (nI least)), some (.int cov), some (.int (nI 4)), some (.int (nI (least + i))), none, none]) (st' := [.int ((nI (least + i)) &&& ((nI mk) ^^^ (-1)))]) (I' := I) (J' := J) rfl ?_
        refine EV_if_eq (off := 6) (tgt := 30) C (by decide +kernel) (by decide) (fun h3 => ?_) (fun h3 => ?_)
        · skip
          refine EV_blk (own := 10) C rfl [(.iload_n 3, 0, 0, 0, 0), (.iload 5, 0, 0, 0, 0), (.ior, 0, 0, 0, 0), (.istore 6, 0, 0, 0, 0), (.iload 4, 0, 0, 0, 0), (.iconst 1, 0, 0, 0, (nI 1))] (pc' := 39) (by decide +kernel) (lv' := [some (.int dr), some (.int (nI mk)), some (.int (nI least)), some (.int cov), some (.int (nI 4)), some (.int (nI (least + i))), some (.int (cov ||| (nI (least + i)))), none]) (st' := [.int (nI 1), .int (nI 4)]) (I' := I) (J' := J) rfl ?_
          refine EV_icmp_le (off := 36) (tgt := 75) C (by decide +kernel) (by decide) (fun h4 => ?_) (fun h4 => ?_)
          · skip
            exact absurd h4 (by decide)
          · skip
            refine EV_blk (own := 10) C rfl [(.iload_n 0, 0, 0, 0, 0), (.iload_n 1, 0, 0, 0, 0), (.iload 5, 0, 0, 0, 0), (.iconst 1, 0, 0, 0, (nI 1)), (.iadd, 0, 0, 0, 0), (.iload 6, 0, 0, 0, 0), (.iload 4, 0, 0, 0, 0), (.iconst 1, 0, 0, 0, (nI 1)), (.isub, 0, 0, 0, 0)] (pc' := 54) (by decide +kernel) (lv' := [some (.int dr), some (.int (nI mk)), some (.int (nI least)), some (.int cov), some (.int (nI 4)), some (.int (nI (least + i))), some (.int (cov ||| (nI (least + i)))), none]) (st' := [.int ((nI 4) - (nI 1)), .int (cov ||| (nI (least + i))), .int ((nI (least + i)) + (nI 1)), .int (nI mk), .int dr]) (I' := I) (J' := J) rfl ?_
            refine EV_ste (st' := [.int (nI 3), .int (cov ||| (nI (least + i))), .int ((nI (least + i)) + (nI 1)), .int (nI mk), .int dr]) (by rw [show (nI 4) - (nI 1) = (nI 3) from by decide]) ?_
            rw [show ((nI (least + i)) + (nI 1)) = (nI ((least + i) + 1)) from by simp (disch := omega) only [nI_add, tq_mul, tq_rem_nI, tq_div_nI, tq_sub_nI]]
            refine EV_cS (own := 10) (idx := 40) (μ' := mX10_firstParts) (av := [.int dr, .int (nI mk), .int (nI ((least + i) + 1)), .int (cov ||| (nI (least + i))), .int (nI 3)]) (rest := []) C hR rfl (Or.inl ⟨626, by decide⟩) kX10_firstParts sX10_firstParts (c_firstParts3 g rest I J dr mk ((least + i) + 1) (cov ||| (nI (least + i))) (by omega) (by omega)) (by decide +kernel) rfl (by decide) (Nat.le_of_ble_eq_true rfl) rfl ⟨Nat.zero_le _, Nat.zero_le _⟩ ?_
            refine EV_blk (own := 10) C rfl [(.istore 7, 0, 0, 0, 0), (.iload 7, 0, 0, 0, 0)] (pc' := 61) (by decide +kernel) (lv' := [some (.int dr), some (.int (nI mk)), some (.int (nI least)), some (.int cov), some (.int (nI 4)), some (.int (nI (least + i))), some (.int (cov ||| (nI (least + i)))), some (.int (r_firstParts3 dr mk ((least + i) + 1) (cov ||| (nI (least + i)))))]) (st' := [.int (r_firstParts3 dr mk ((least + i) + 1) (cov ||| (nI (least + i))))]) (I' := I) (J' := J) rfl ?_
            refine EV_if_eq (off := 11) (tgt := 72) C (by decide +kernel) (by decide) (fun h5 => ?_) (fun h5 => ?_)
            · skip
              refine EV_blk (own := 10) C rfl [(.goto 14, 0, 0, 0, 0), (.iinc 5 1, 0, 0, 0, (nI 1)), (.goto (-86), 0, 0, 0, 0)] (pc' := 3) (by decide +kernel) (lv' := [some (.int dr), some (.int (nI mk)), some (.int (nI least)), some (.int cov), some (.int (nI 4)), some (.int ((nI (least + i)) + (nI 1))), some (.int (cov ||| (nI (least + i)))), some (.int (r_firstParts3 dr mk ((least + i) + 1) (cov ||| (nI (least + i)))))]) (st' := []) (I' := I) (J' := J) rfl ?_
              refine EV_fg (lv' := [some (.int dr), some (.int (nI mk)), some (.int (nI least)), some (.int cov), some (.int (nI 4)), some (.int ((nI (least + i)) + (nI 1))), none, none]) ⟨rfl, rfl, rfl, rfl, rfl, rfl, trivial⟩ ?_
              rw [show ((nI (least + i)) + (nI 1)) = (nI (least + (i + 1))) from by simp (disch := omega) only [nI_add, tq_mul] <;> exact congrArg nI (by omega)]
              exact ih (i + 1) (by omega) (hr.trans (tq_sr_none (show (f_fp4 dr mk least cov) i = none from by simp only [f_fp4, if_neg h1, if_neg h2, if_pos h3, if_neg h4, if_pos h5]))) kk
            · skip
              refine EV_blk (own := 10) C rfl [(.iload 7, 0, 0, 0, 0), (.iconst 1, 0, 0, 0, (nI 1)), (.iload 5, 0, 0, 0, 0), (.ishl, 0, 0, 0, 0), (.ior, 0, 0, 0, 0)] (pc' := 71) (by decide +kernel) (lv' := [some (.int dr), some (.int (nI mk)), some (.int (nI least)), some (.int cov), some (.int (nI 4)), some (.int (nI (least + i))), some (.int (cov ||| (nI (least + i)))), some (.int (r_firstParts3 dr mk ((least + i) + 1) (cov ||| (nI (least + i)))))]) (st' := [.int ((r_firstParts3 dr mk ((least + i) + 1) (cov ||| (nI (least + i)))) ||| ((nI 1) <<< ((nI (least + i)) &&& 31)))]) (I' := I) (J' := J) rfl ?_
              exact EV_iret C hZ rfl (by decide +kernel) (Nat.le_refl _) (Nat.le_refl _) ⟨tq_some ((hr.trans (tq_sr_some (show (f_fp4 dr mk least cov) i = some ((r_firstParts3 dr mk ((least + i) + 1) (cov ||| (nI (least + i)))) ||| ((nI 1) <<< ((nI (least + i)) &&& 31))) from by simp only [f_fp4, if_neg h1, if_neg h2, if_pos h3, if_neg h4, if_neg h5]))).symm), rfl, rfl, rfl, rfl⟩
        · skip
          refine EV_blk (own := 10) C rfl [(.goto 59, 0, 0, 0, 0), (.iinc 5 1, 0, 0, 0, (nI 1)), (.goto (-86), 0, 0, 0, 0)] (pc' := 3) (by decide +kernel) (lv' := [some (.int dr), some (.int (nI mk)), some (.int (nI least)), some (.int cov), some (.int (nI 4)), some (.int ((nI (least + i)) + (nI 1))), none, none]) (st' := []) (I' := I) (J' := J) rfl ?_
          rw [show ((nI (least + i)) + (nI 1)) = (nI (least + (i + 1))) from by simp (disch := omega) only [nI_add, tq_mul] <;> exact congrArg nI (by omega)]
          exact ih (i + 1) (by omega) (hr.trans (tq_sr_none (show (f_fp4 dr mk least cov) i = none from by simp only [f_fp4, if_neg h1, if_neg h2, if_neg h3]))) kk
def r_firstParts4 (dr : Int32) (mk least : Nat) (cov : Int32) : Int32 := (tq_sr (f_fp4 dr mk least cov) (mk + 1 - least) 0 (nI 0))
set_option maxRecDepth 20000 in
theorem c_firstParts4 (g : tq_G) (rest : List tq_S) (I : tq_I) (J : Int64) (dr : Int32) (mk least : Nat) (cov : Int32) (hmk : mk ≤ 15) (hls : least ≤ mk + 1) : CT g mX10_firstParts 4 0 0 [.int dr, .int (nI mk), .int (nI least), .int cov, .int (nI 4)] (tq_SC ++ rest) tq_RR I J (tq_ret (tq_SC ++ rest) tq_RR (some (.int (r_firstParts4 dr mk least cov))) I J) := by
  refine CT.ret kX10_firstParts (Nat.le_of_ble_eq_true rfl) (fun x0 C hR hZ => ?_)
  refine EV_en (lv' := [some (.int dr), some (.int (nI mk)), some (.int (nI least)), some (.int cov), some (.int (nI 4)), none, none, none]) 3 rfl ?_
  refine EV_blk (own := 10) C rfl [(.iload_n 2, 0, 0, 0, 0), (.istore 5, 0, 0, 0, 0)] (pc' := 3) (by decide +kernel) (lv' := [some (.int dr), some (.int (nI mk)), some (.int (nI least)), some (.int cov), some (.int (nI 4)), some (.int (nI least)), none, none]) (st' := []) (I' := I) (J' := J) rfl ?_
  refine lp_fp4 I J C hR hZ dr mk least cov hmk hls (mk + 1 - least) 0 (by omega) (by simp only [r_firstParts4]) (fun hd => ?_)
  refine EV_blk (own := 10) C rfl [(.iconst 0, 0, 0, 0, (nI 0))] (pc' := 93) (by decide +kernel) (lv' := [some (.int dr), some (.int (nI mk)), some (.int (nI least)), some (.int cov), some (.int (nI 4)), none, none, none]) (st' := [.int (nI 0)]) (I' := I) (J' := J) rfl ?_
  exact EV_iret C hZ rfl (by decide +kernel) (Nat.le_refl _) (Nat.le_refl _) ⟨tq_some hd.symm, rfl, rfl, rfl, rfl⟩
def r_X10_fewestParts (dr : Int32) (mk : Nat) : Int32 := (if (r_firstParts1 dr mk 1 (nI 0)) = 0 then (if (r_firstParts2 dr mk 1 (nI 0)) = 0 then (if (r_firstParts3 dr mk 1 (nI 0)) = 0 then (if (r_firstParts4 dr mk 1 (nI 0)) = 0 then (nI 32768) else (r_firstParts4 dr mk 1 (nI 0))) else (r_firstParts3 dr mk 1 (nI 0))) else (r_firstParts2 dr mk 1 (nI 0))) else (r_firstParts1 dr mk 1 (nI 0)))
set_option maxRecDepth 20000 in
theorem c_X10_fewestParts (g : tq_G) (rest : List tq_S) (I : tq_I) (J : Int64) (dr : Int32) (mk : Nat) (hmk : mk ≤ 15) : CT g mX10_fewestParts 5 0 0 [.int dr, .int (nI mk)] (tq_SC ++ rest) tq_RR I J (tq_ret (tq_SC ++ rest) tq_RR (some (.int (r_X10_fewestParts dr mk))) I J) := by
  refine CT.ret kX10_fewestParts (Nat.le_of_ble_eq_true rfl) (fun x0 C hR hZ => ?_)
  refine EV_en (lv' := [some (.int dr), some (.int (nI mk)), none, none]) 2 rfl ?_
  refine EV_blk (own := 10) C rfl [(.iconst 1, 0, 0, 0, (nI 1)), (.istore_n 2, 0, 0, 0, 0)] (pc' := 2) (by decide +kernel) (lv' := [some (.int dr), some (.int (nI mk)), some (.int (nI 1)), none]) (st' := []) (I' := I) (J' := J) rfl ?_
  refine EV_blk (own := 10) C rfl [(.iload_n 2, 0, 0, 0, 0), (.iconst 4, 0, 0, 0, (nI 4))] (pc' := 4) (by decide +kernel) (lv' := [some (.int dr), some (.int (nI mk)), some (.int (nI 1)), none]) (st' := [.int (nI 4), .int (nI 1)]) (I' := I) (J' := J) rfl ?_
  refine EV_icmp_gt (off := 24) (tgt := 28) C (by decide +kernel) (by decide) (fun h1 => ?_) (fun h1 => ?_)
  · skip
    exact absurd h1 (by decide)
  · skip
    refine EV_blk (own := 10) C rfl [(.iload_n 0, 0, 0, 0, 0), (.iload_n 1, 0, 0, 0, 0), (.iconst 1, 0, 0, 0, (nI 1)), (.iconst 0, 0, 0, 0, (nI 0)), (.iload_n 2, 0, 0, 0, 0)] (pc' := 12) (by decide +kernel) (lv' := [some (.int dr), some (.int (nI mk)), some (.int (nI 1)), none]) (st' := [.int (nI 1), .int (nI 0), .int (nI 1), .int (nI mk), .int dr]) (I' := I) (J' := J) rfl ?_
    refine EV_cS (own := 10) (idx := 40) (μ' := mX10_firstParts) (av := [.int dr, .int (nI mk), .int (nI 1), .int (nI 0), .int (nI 1)]) (rest := []) C hR rfl (Or.inl ⟨626, by decide⟩) kX10_firstParts sX10_firstParts (c_firstParts1 g rest I J dr mk 1 (nI 0) (by omega) (by omega)) (by decide +kernel) rfl (by decide) (Nat.le_of_ble_eq_true rfl) rfl ⟨Nat.zero_le _, Nat.zero_le _⟩ ?_
    refine EV_blk (own := 10) C rfl [(.istore_n 3, 0, 0, 0, 0), (.iload_n 3, 0, 0, 0, 0)] (pc' := 17) (by decide +kernel) (lv' := [some (.int dr), some (.int (nI mk)), some (.int (nI 1)), some (.int (r_firstParts1 dr mk 1 (nI 0)))]) (st' := [.int (r_firstParts1 dr mk 1 (nI 0))]) (I' := I) (J' := J) rfl ?_
    refine EV_if_eq (off := 5) (tgt := 22) C (by decide +kernel) (by decide) (fun h2 => ?_) (fun h2 => ?_)
    · skip
      refine EV_blk (own := 10) C rfl [(.iinc 2 1, 0, 0, 0, (nI 1)), (.goto (-23), 0, 0, 0, 0)] (pc' := 2) (by decide +kernel) (lv' := [some (.int dr), some (.int (nI mk)), some (.int ((nI 1) + (nI 1))), some (.int (r_firstParts1 dr mk 1 (nI 0)))]) (st' := []) (I' := I) (J' := J) rfl ?_
      refine EV_lve (lv' := [some (.int dr), some (.int (nI mk)), some (.int (nI 2)), some (.int (r_firstParts1 dr mk 1 (nI 0)))]) (by rw [show ((nI 1) + (nI 1)) = (nI 2) from by decide]) ?_
      refine EV_blk (own := 10) C rfl [(.iload_n 2, 0, 0, 0, 0), (.iconst 4, 0, 0, 0, (nI 4))] (pc' := 4) (by decide +kernel) (lv' := [some (.int dr), some (.int (nI mk)), some (.int (nI 2)), some (.int (r_firstParts1 dr mk 1 (nI 0)))]) (st' := [.int (nI 4), .int (nI 2)]) (I' := I) (J' := J) rfl ?_
      refine EV_icmp_gt (off := 24) (tgt := 28) C (by decide +kernel) (by decide) (fun h3 => ?_) (fun h3 => ?_)
      · skip
        exact absurd h3 (by decide)
      · skip
        refine EV_blk (own := 10) C rfl [(.iload_n 0, 0, 0, 0, 0), (.iload_n 1, 0, 0, 0, 0), (.iconst 1, 0, 0, 0, (nI 1)), (.iconst 0, 0, 0, 0, (nI 0)), (.iload_n 2, 0, 0, 0, 0)] (pc' := 12) (by decide +kernel) (lv' := [some (.int dr), some (.int (nI mk)), some (.int (nI 2)), some (.int (r_firstParts1 dr mk 1 (nI 0)))]) (st' := [.int (nI 2), .int (nI 0), .int (nI 1), .int (nI mk), .int dr]) (I' := I) (J' := J) rfl ?_
        refine EV_cS (own := 10) (idx := 40) (μ' := mX10_firstParts) (av := [.int dr, .int (nI mk), .int (nI 1), .int (nI 0), .int (nI 2)]) (rest := []) C hR rfl (Or.inl ⟨626, by decide⟩) kX10_firstParts sX10_firstParts (c_firstParts2 g rest I J dr mk 1 (nI 0) (by omega) (by omega)) (by decide +kernel) rfl (by decide) (Nat.le_of_ble_eq_true rfl) rfl ⟨Nat.zero_le _, Nat.zero_le _⟩ ?_
        refine EV_blk (own := 10) C rfl [(.istore_n 3, 0, 0, 0, 0), (.iload_n 3, 0, 0, 0, 0)] (pc' := 17) (by decide +kernel) (lv' := [some (.int dr), some (.int (nI mk)), some (.int (nI 2)), some (.int (r_firstParts2 dr mk 1 (nI 0)))]) (st' := [.int (r_firstParts2 dr mk 1 (nI 0))]) (I' := I) (J' := J) rfl ?_
        refine EV_if_eq (off := 5) (tgt := 22) C (by decide +kernel) (by decide) (fun h4 => ?_) (fun h4 => ?_)
        · skip
          refine EV_blk (own := 10) C rfl [(.iinc 2 1, 0, 0, 0, (nI 1)), (.goto (-23), 0, 0, 0, 0)] (pc' := 2) (by decide +kernel) (lv' := [some (.int dr), some (.int (nI mk)), some (.int ((nI 2) + (nI 1))), some (.int (r_firstParts2 dr mk 1 (nI 0)))]) (st' := []) (I' := I) (J' := J) rfl ?_
          refine EV_lve (lv' := [some (.int dr), some (.int (nI mk)), some (.int (nI 3)), some (.int (r_firstParts2 dr mk 1 (nI 0)))]) (by rw [show ((nI 2) + (nI 1)) = (nI 3) from by decide]) ?_
          refine EV_blk (own := 10) C rfl [(.iload_n 2, 0, 0, 0, 0), (.iconst 4, 0, 0, 0, (nI 4))] (pc' := 4) (by decide +kernel) (lv' := [some (.int dr), some (.int (nI mk)), some (.int (nI 3)), some (.int (r_firstParts2 dr mk 1 (nI 0)))]) (st' := [.int (nI 4), .int (nI 3)]) (I' := I) (J' := J) rfl ?_
          refine EV_icmp_gt (off := 24) (tgt := 28) C (by decide +kernel) (by decide) (fun h5 => ?_) (fun h5 => ?_)
          · skip
            exact absurd h5 (by decide)
          · skip
            refine EV_blk (own := 10) C rfl [(.iload_n 0, 0, 0, 0, 0), (.iload_n 1, 0, 0, 0, 0), (.iconst 1, 0, 0, 0, (nI 1)), (.iconst 0, 0, 0, 0, (nI 0)), (.iload_n 2, 0, 0, 0, 0)] (pc' := 12) (by decide +kernel) (lv' := [some (.int dr), some (.int (nI mk)), some (.int (nI 3)), some (.int (r_firstParts2 dr mk 1 (nI 0)))]) (st' := [.int (nI 3), .int (nI 0), .int (nI 1), .int (nI mk), .int dr]) (I' := I) (J' := J) rfl ?_
            refine EV_cS (own := 10) (idx := 40) (μ' := mX10_firstParts) (av := [.int dr, .int (nI mk), .int (nI 1), .int (nI 0), .int (nI 3)]) (rest := []) C hR rfl (Or.inl ⟨626, by decide⟩) kX10_firstParts sX10_firstParts (c_firstParts3 g rest I J dr mk 1 (nI 0) (by omega) (by omega)) (by decide +kernel) rfl (by decide) (Nat.le_of_ble_eq_true rfl) rfl ⟨Nat.zero_le _, Nat.zero_le _⟩ ?_
            refine EV_blk (own := 10) C rfl [(.istore_n 3, 0, 0, 0, 0), (.iload_n 3, 0, 0, 0, 0)] (pc' := 17) (by decide +kernel) (lv' := [some (.int dr), some (.int (nI mk)), some (.int (nI 3)), some (.int (r_firstParts3 dr mk 1 (nI 0)))]) (st' := [.int (r_firstParts3 dr mk 1 (nI 0))]) (I' := I) (J' := J) rfl ?_
            refine EV_if_eq (off := 5) (tgt := 22) C (by decide +kernel) (by decide) (fun h6 => ?_) (fun h6 => ?_)
            · skip
              refine EV_blk (own := 10) C rfl [(.iinc 2 1, 0, 0, 0, (nI 1)), (.goto (-23), 0, 0, 0, 0)] (pc' := 2) (by decide +kernel) (lv' := [some (.int dr), some (.int (nI mk)), some (.int ((nI 3) + (nI 1))), some (.int (r_firstParts3 dr mk 1 (nI 0)))]) (st' := []) (I' := I) (J' := J) rfl ?_
              refine EV_lve (lv' := [some (.int dr), some (.int (nI mk)), some (.int (nI 4)), some (.int (r_firstParts3 dr mk 1 (nI 0)))]) (by rw [show ((nI 3) + (nI 1)) = (nI 4) from by decide]) ?_
              refine EV_blk (own := 10) C rfl [(.iload_n 2, 0, 0, 0, 0), (.iconst 4, 0, 0, 0, (nI 4))] (pc' := 4) (by decide +kernel) (lv' := [some (.int dr), some (.int (nI mk)), some (.int (nI 4)), some (.int (r_firstParts3 dr mk 1 (nI 0)))]) (st' := [.int (nI 4), .int (nI 4)]) (I' := I) (J' := J) rfl ?_
              refine EV_icmp_gt (off := 24) (tgt := 28) C (by decide +kernel) (by decide) (fun h7 => ?_) (fun h7 => ?_)
              · skip
                exact absurd h7 (by decide)
              · skip
                refine EV_blk (own := 10) C rfl [(.iload_n 0, 0, 0, 0, 0), (.iload_n 1, 0, 0, 0, 0), (.iconst 1, 0, 0, 0, (nI 1)), (.iconst 0, 0, 0, 0, (nI 0)), (.iload_n 2, 0, 0, 0, 0)] (pc' := 12) (by decide +kernel) (lv' := [some (.int dr), some (.int (nI mk)), some (.int (nI 4)), some (.int (r_firstParts3 dr mk 1 (nI 0)))]) (st' := [.int (nI 4), .int (nI 0), .int (nI 1), .int (nI mk), .int dr]) (I' := I) (J' := J) rfl ?_
                refine EV_cS (own := 10) (idx := 40) (μ' := mX10_firstParts) (av := [.int dr, .int (nI mk), .int (nI 1), .int (nI 0), .int (nI 4)]) (rest := []) C hR rfl (Or.inl ⟨626, by decide⟩) kX10_firstParts sX10_firstParts (c_firstParts4 g rest I J dr mk 1 (nI 0) (by omega) (by omega)) (by decide +kernel) rfl (by decide) (Nat.le_of_ble_eq_true rfl) rfl ⟨Nat.zero_le _, Nat.zero_le _⟩ ?_
                refine EV_blk (own := 10) C rfl [(.istore_n 3, 0, 0, 0, 0), (.iload_n 3, 0, 0, 0, 0)] (pc' := 17) (by decide +kernel) (lv' := [some (.int dr), some (.int (nI mk)), some (.int (nI 4)), some (.int (r_firstParts4 dr mk 1 (nI 0)))]) (st' := [.int (r_firstParts4 dr mk 1 (nI 0))]) (I' := I) (J' := J) rfl ?_
                refine EV_if_eq (off := 5) (tgt := 22) C (by decide +kernel) (by decide) (fun h8 => ?_) (fun h8 => ?_)
                · skip
                  refine EV_blk (own := 10) C rfl [(.iinc 2 1, 0, 0, 0, (nI 1)), (.goto (-23), 0, 0, 0, 0)] (pc' := 2) (by decide +kernel) (lv' := [some (.int dr), some (.int (nI mk)), some (.int ((nI 4) + (nI 1))), some (.int (r_firstParts4 dr mk 1 (nI 0)))]) (st' := []) (I' := I) (J' := J) rfl ?_
                  refine EV_lve (lv' := [some (.int dr), some (.int (nI mk)), some (.int (nI 5)), some (.int (r_firstParts4 dr mk 1 (nI 0)))]) (by rw [show ((nI 4) + (nI 1)) = (nI 5) from by decide]) ?_
                  refine EV_blk (own := 10) C rfl [(.iload_n 2, 0, 0, 0, 0), (.iconst 4, 0, 0, 0, (nI 4))] (pc' := 4) (by decide +kernel) (lv' := [some (.int dr), some (.int (nI mk)), some (.int (nI 5)), some (.int (r_firstParts4 dr mk 1 (nI 0)))]) (st' := [.int (nI 4), .int (nI 5)]) (I' := I) (J' := J) rfl ?_
                  refine EV_icmp_gt (off := 24) (tgt := 28) C (by decide +kernel) (by decide) (fun h9 => ?_) (fun h9 => ?_)
                  · skip
                    refine EV_blk (own := 10) C rfl [(.ldc 25, 0, 0, 612, (nI 32768))] (pc' := 30) (by decide +kernel) (lv' := [some (.int dr), some (.int (nI mk)), some (.int (nI 5)), some (.int (r_firstParts4 dr mk 1 (nI 0)))]) (st' := [.int (nI 32768)]) (I' := I) (J' := J) rfl ?_
                    exact EV_iret C hZ rfl (by decide +kernel) (Nat.le_refl _) (Nat.le_refl _) ⟨tq_some (by simp only [r_X10_fewestParts, if_neg h1, if_pos h2, if_neg h3, if_pos h4, if_neg h5, if_pos h6, if_neg h7, if_pos h8, if_pos h9]), rfl, rfl, rfl, rfl⟩
                  · skip
                    exact absurd (by decide) h9
                · skip
                  refine EV_blk (own := 10) C rfl [(.iload_n 3, 0, 0, 0, 0)] (pc' := 21) (by decide +kernel) (lv' := [some (.int dr), some (.int (nI mk)), some (.int (nI 4)), some (.int (r_firstParts4 dr mk 1 (nI 0)))]) (st' := [.int (r_firstParts4 dr mk 1 (nI 0))]) (I' := I) (J' := J) rfl ?_
                  exact EV_iret C hZ rfl (by decide +kernel) (Nat.le_refl _) (Nat.le_refl _) ⟨tq_some (by simp only [r_X10_fewestParts, if_neg h1, if_pos h2, if_neg h3, if_pos h4, if_neg h5, if_pos h6, if_neg h7, if_neg h8]), rfl, rfl, rfl, rfl⟩
            · skip
              refine EV_blk (own := 10) C rfl [(.iload_n 3, 0, 0, 0, 0)] (pc' := 21) (by decide +kernel) (lv' := [some (.int dr), some (.int (nI mk)), some (.int (nI 3)), some (.int (r_firstParts3 dr mk 1 (nI 0)))]) (st' := [.int (r_firstParts3 dr mk 1 (nI 0))]) (I' := I) (J' := J) rfl ?_
              exact EV_iret C hZ rfl (by decide +kernel) (Nat.le_refl _) (Nat.le_refl _) ⟨tq_some (by simp only [r_X10_fewestParts, if_neg h1, if_pos h2, if_neg h3, if_pos h4, if_neg h5, if_neg h6]), rfl, rfl, rfl, rfl⟩
        · skip
          refine EV_blk (own := 10) C rfl [(.iload_n 3, 0, 0, 0, 0)] (pc' := 21) (by decide +kernel) (lv' := [some (.int dr), some (.int (nI mk)), some (.int (nI 2)), some (.int (r_firstParts2 dr mk 1 (nI 0)))]) (st' := [.int (r_firstParts2 dr mk 1 (nI 0))]) (I' := I) (J' := J) rfl ?_
          exact EV_iret C hZ rfl (by decide +kernel) (Nat.le_refl _) (Nat.le_refl _) ⟨tq_some (by simp only [r_X10_fewestParts, if_neg h1, if_pos h2, if_neg h3, if_neg h4]), rfl, rfl, rfl, rfl⟩
    · skip
      refine EV_blk (own := 10) C rfl [(.iload_n 3, 0, 0, 0, 0)] (pc' := 21) (by decide +kernel) (lv' := [some (.int dr), some (.int (nI mk)), some (.int (nI 1)), some (.int (r_firstParts1 dr mk 1 (nI 0)))]) (st' := [.int (r_firstParts1 dr mk 1 (nI 0))]) (I' := I) (J' := J) rfl ?_
      exact EV_iret C hZ rfl (by decide +kernel) (Nat.le_refl _) (Nat.le_refl _) ⟨tq_some (by simp only [r_X10_fewestParts, if_neg h1, if_neg h2]), rfl, rfl, rfl, rfl⟩
def f_ch1 (I : tq_I) (t : Nat) (s : Int32) (i : Nat) (a : Int32) : Int32 := (if (r_X10_wayOf I t (1 + i)) = (-1) then a else (a ||| ((nI 1) <<< ((nI (1 + i)) &&& 31))))
set_option maxRecDepth 20000 in
theorem lp_ch1 {g : tq_G} {rest : List tq_S} {x0 : tq_X} (C : tq_C g mX10_choose x0) (hR : tq_ht x0 6 0 0) (I : tq_I) (J : Int64) (t : Nat) (s : Int32) (ht : t ≤ 5) : ∀ (n i : Nat) (a : Int32), i + n = 15 → EV g mX10_choose x0 0 0 49 [some (.ref 9), some (.int (nI t)), some (.int s), some (.int (tq_it (f_ch1 I t s) n i a)), some (.int (nI (1 + (i + n))))] [] (tq_SC ++ rest) tq_RR I J → EV g mX10_choose x0 0 0 18 [some (.ref 9), some (.int (nI t)), some (.int s), some (.int a), some (.int (nI (1 + i)))] [] (tq_SC ++ rest) tq_RR I J := by
  intro n
  induction n with
  | zero =>
    intro i a hi kk
    rw [Nat.add_zero] at kk
    refine EV_blk (own := 10) C rfl [(.iload 4, 0, 0, 0, 0), (.bipush 16, 0, 0, 0, (nI 16))] (pc' := 22) (by decide +kernel) (lv' := [some (.ref 9), some (.int (nI t)), some (.int s), some (.int a), some (.int (nI (1 + i)))]) (st' := [.int (nI 16), .int (nI (1 + i))]) (I' := I) (J' := J) rfl ?_
    refine EV_icmp_ge (off := 27) (tgt := 49) C (by decide +kernel) (by decide) (fun h1 => ?_) (fun h1 => ?_)
    · skip
      exact kk
    · skip
      exact absurd h1 (by simp (disch := omega) only [Int32.lt_iff_toInt_lt, Int32.le_iff_toInt_le, Int32.toInt_zero, nI_toInt, tq_m1]; omega)
  | succ n ih =>
    intro i a hi kk
    rw [show i + (n + 1) = (i + 1) + n by omega] at kk
    refine EV_blk (own := 10) C rfl [(.iload 4, 0, 0, 0, 0), (.bipush 16, 0, 0, 0, (nI 16))] (pc' := 22) (by decide +kernel) (lv' := [some (.ref 9), some (.int (nI t)), some (.int s), some (.int a), some (.int (nI (1 + i)))]) (st' := [.int (nI 16), .int (nI (1 + i))]) (I' := I) (J' := J) rfl ?_
    refine EV_icmp_ge (off := 27) (tgt := 49) C (by decide +kernel) (by decide) (fun h1 => ?_) (fun h1 => ?_)
    · skip
      exact absurd h1 (by simp (disch := omega) only [Int32.lt_iff_toInt_lt, Int32.le_iff_toInt_le, Int32.toInt_zero, nI_toInt, tq_m1]; omega)
    · skip
      refine EV_blk (own := 10) C rfl [(.aload_n 0, 0, 0, 0, 0), (.iload_n 1, 0, 0, 0, 0), (.iload 4, 0, 0, 0, 0)] (pc' := 29) (by decide +kernel) (lv' := [some (.ref 9), some (.int (nI t)), some (.int s), some (.int a), some (.int (nI (1 + i)))]) (st' := [.int (nI (1 + i)), .int (nI t), .ref 9]) (I' := I) (J' := J) rfl ?_
      refine EV_cV (own := 10) (idx := 26) (μ' := mX10_wayOf) (b := 9) (cb := 10) (av := [.int (nI t), .int (nI (1 + i))]) (rest := []) C hR rfl (Or.inl ⟨613, by decide⟩) kX10_wayOf sX10_wayOf (c_X10_wayOf g rest I J t (1 + i) (by omega)) rfl rfl (by decide +kernel) rfl (by decide) (Nat.le_of_ble_eq_true rfl) rfl ⟨Nat.zero_le _, Nat.zero_le _⟩ ?_
      refine EV_blk (own := 10) C rfl [(.iconst (-1), 0, 0, 0, (-1))] (pc' := 33) (by decide +kernel) (lv' := [some (.ref 9), some (.int (nI t)), some (.int s), some (.int a), some (.int (nI (1 + i)))]) (st' := [.int (-1), .int (r_X10_wayOf I t (1 + i))]) (I' := I) (J' := J) rfl ?_
      refine EV_icmp_eq (off := 10) (tgt := 43) C (by decide +kernel) (by decide) (fun h2 => ?_) (fun h2 => ?_)
      · skip
        refine EV_blk (own := 10) C rfl [(.iinc 4 1, 0, 0, 0, (nI 1)), (.goto (-28), 0, 0, 0, 0)] (pc' := 18) (by decide +kernel) (lv' := [some (.ref 9), some (.int (nI t)), some (.int s), some (.int a), some (.int ((nI (1 + i)) + (nI 1)))]) (st' := []) (I' := I) (J' := J) rfl ?_
        rw [show ((nI (1 + i)) + (nI 1)) = (nI (1 + (i + 1))) from by simp (disch := omega) only [nI_add, tq_mul] <;> exact congrArg nI (by omega)]
        rw [tq_its, show (f_ch1 I t s) i a = a from by simp only [f_ch1, if_neg h1, if_pos h2]] at kk
        exact ih (i + 1) a (by omega) kk
      · skip
        refine EV_blk (own := 10) C rfl [(.iload_n 3, 0, 0, 0, 0), (.iconst 1, 0, 0, 0, (nI 1)), (.iload 4, 0, 0, 0, 0), (.ishl, 0, 0, 0, 0), (.ior, 0, 0, 0, 0), (.istore_n 3, 0, 0, 0, 0), (.iinc 4 1, 0, 0, 0, (nI 1)), (.goto (-28), 0, 0, 0, 0)] (pc' := 18) (by decide +kernel) (lv' := [some (.ref 9), some (.int (nI t)), some (.int s), some (.int (a ||| ((nI 1) <<< ((nI (1 + i)) &&& 31)))), some (.int ((nI (1 + i)) + (nI 1)))]) (st' := []) (I' := I) (J' := J) rfl ?_
        rw [show ((nI (1 + i)) + (nI 1)) = (nI (1 + (i + 1))) from by simp (disch := omega) only [nI_add, tq_mul] <;> exact congrArg nI (by omega)]
        rw [tq_its, show (f_ch1 I t s) i a = (a ||| ((nI 1) <<< ((nI (1 + i)) &&& 31))) from by simp only [f_ch1, if_neg h1, if_neg h2]] at kk
        exact ih (i + 1) (a ||| ((nI 1) <<< ((nI (1 + i)) &&& 31))) (by omega) kk
def f_ch2 (t : Nat) (s dr : Int32) (i : Nat) (a : tq_I) : tq_I := (tq_u a 11 ((t * 16) + (1 + i)) (r_X10_fewestParts dr (1 + i)))
set_option maxRecDepth 20000 in
theorem lp_ch2 {g : tq_G} {rest : List tq_S} {x0 : tq_X} (C : tq_C g mX10_choose x0) (hR : tq_ht x0 6 0 0) (J : Int64) (t : Nat) (s dr : Int32) (ht : t ≤ 5) : ∀ (n i : Nat) (a : tq_I), i + n = 15 → EV g mX10_choose x0 0 0 83 [some (.ref 9), some (.int (nI t)), some (.int s), some (.int dr), some (.int (nI (1 + (i + n))))] [] (tq_SC ++ rest) tq_RR (tq_it (f_ch2 t s dr) n i a) J → EV g mX10_choose x0 0 0 52 [some (.ref 9), some (.int (nI t)), some (.int s), some (.int dr), some (.int (nI (1 + i)))] [] (tq_SC ++ rest) tq_RR a J := by
  intro n
  induction n with
  | zero =>
    intro i a hi kk
    rw [Nat.add_zero] at kk
    refine EV_blk (own := 10) C rfl [(.iload 4, 0, 0, 0, 0), (.bipush 16, 0, 0, 0, (nI 16))] (pc' := 56) (by decide +kernel) (lv' := [some (.ref 9), some (.int (nI t)), some (.int s), some (.int dr), some (.int (nI (1 + i)))]) (st' := [.int (nI 16), .int (nI (1 + i))]) (I' := a) (J' := J) rfl ?_
    refine EV_icmp_ge (off := 27) (tgt := 83) C (by decide +kernel) (by decide) (fun h1 => ?_) (fun h1 => ?_)
    · skip
      exact kk
    · skip
      exact absurd h1 (by simp (disch := omega) only [Int32.lt_iff_toInt_lt, Int32.le_iff_toInt_le, Int32.toInt_zero, nI_toInt, tq_m1]; omega)
  | succ n ih =>
    intro i a hi kk
    rw [show i + (n + 1) = (i + 1) + n by omega] at kk
    refine EV_blk (own := 10) C rfl [(.iload 4, 0, 0, 0, 0), (.bipush 16, 0, 0, 0, (nI 16))] (pc' := 56) (by decide +kernel) (lv' := [some (.ref 9), some (.int (nI t)), some (.int s), some (.int dr), some (.int (nI (1 + i)))]) (st' := [.int (nI 16), .int (nI (1 + i))]) (I' := a) (J' := J) rfl ?_
    refine EV_icmp_ge (off := 27) (tgt := 83) C (by decide +kernel) (by decide) (fun h1 => ?_) (fun h1 => ?_)
    · skip
      exact absurd h1 (by simp (disch := omega) only [Int32.lt_iff_toInt_lt, Int32.le_iff_toInt_le, Int32.toInt_zero, nI_toInt, tq_m1]; omega)
    · skip
      refine EV_blk (own := 10) C rfl [(.aload_n 0, 0, 0, 0, 0), (.getfield 15, 10, 1, 132, 0), (.iload_n 1, 0, 0, 0, 0), (.bipush 16, 0, 0, 0, (nI 16)), (.imul, 0, 0, 0, 0), (.iload 4, 0, 0, 0, 0), (.iadd, 0, 0, 0, 0), (.iload_n 3, 0, 0, 0, 0), (.iload 4, 0, 0, 0, 0)] (pc' := 73) (by decide +kernel) (lv' := [some (.ref 9), some (.int (nI t)), some (.int s), some (.int dr), some (.int (nI (1 + i)))]) (st' := [.int (nI (1 + i)), .int dr, .int (((nI t) * (nI 16)) + (nI (1 + i))), .ref 11]) (I' := a) (J' := J) rfl ?_
      refine EV_cS (own := 10) (idx := 30) (μ' := mX10_fewestParts) (av := [.int dr, .int (nI (1 + i))]) (rest := [.int (((nI t) * (nI 16)) + (nI (1 + i))), .ref 11]) C hR rfl (Or.inl ⟨623, by decide⟩) kX10_fewestParts sX10_fewestParts (c_X10_fewestParts g rest a J dr (1 + i) (by omega)) (by decide +kernel) rfl (by decide) (Nat.le_of_ble_eq_true rfl) rfl ⟨Nat.zero_le _, Nat.zero_le _⟩ ?_
      refine EV_iast (j := ((t * 16) + (1 + i))) C (by decide +kernel) rfl (tq_toI ((t * 16) + (1 + i)) (by simp (disch := omega) only [nI_add, tq_mul, tq_rem_nI, tq_div_nI, tq_sub_nI]) (by omega)) (by omega) ?_
      refine EV_blk (own := 10) C rfl [(.iinc 4 1, 0, 0, 0, (nI 1)), (.goto (-28), 0, 0, 0, 0)] (pc' := 52) (by decide +kernel) (lv' := [some (.ref 9), some (.int (nI t)), some (.int s), some (.int dr), some (.int ((nI (1 + i)) + (nI 1)))]) (st' := []) (I' := (tq_u a 11 ((t * 16) + (1 + i)) (r_X10_fewestParts dr (1 + i)))) (J' := J) rfl ?_
      rw [show ((nI (1 + i)) + (nI 1)) = (nI (1 + (i + 1))) from by simp (disch := omega) only [nI_add, tq_mul] <;> exact congrArg nI (by omega)]
      rw [tq_its, show (f_ch2 t s dr) i a = (tq_u a 11 ((t * 16) + (1 + i)) (r_X10_fewestParts dr (1 + i))) from by simp only [f_ch2, if_neg h1]] at kk
      exact ih (i + 1) (tq_u a 11 ((t * 16) + (1 + i)) (r_X10_fewestParts dr (1 + i))) (by omega) kk
theorem fr_ch2 (t : Nat) (s dr : Int32) {cz : Nat} (hc : cz ≠ 11) (n i : Nat) (a : tq_I) (jz : Nat) : (tq_it (f_ch2 t s dr) n i a) cz jz = a cz jz := by
  have hc0 := hc
  refine tq_itF (fun i a j => ?_) n i a jz
  simp only [f_ch2]
  (repeat' split) <;> simp (disch := first | assumption | (simp only [ne_eq] at *; simp [*])) [tq_u, tq_cp, hc0, fr_tb1, fr_tb2, fr_X8_touchBlock, fr_X8_touchAll, fr_X8_changeCorner, fr_X8_changePath, fr_cb1, fr_cb2, fr_X8_changeBlock, fr_wipe1, fr_X1_wipe, fr_sm1, fr_sm2, fr_X8_startMap, fr_X6_place, fr_mt1, fr_mt2, fr_X6_moveTo]
def I_X10_choose (I : tq_I) (t : Nat) (s : Int32) : tq_I := (tq_it (f_ch2 t s (tq_it (f_ch1 (tq_u I 10 t ((s &&& (-2)) ||| (nI 32768))) t s) 15 0 (nI 0))) 15 0 (tq_u I 10 t ((s &&& (-2)) ||| (nI 32768))))
set_option maxRecDepth 20000 in
theorem c_X10_choose (g : tq_G) (rest : List tq_S) (I : tq_I) (J : Int64) (t : Nat) (s : Int32) (ht : t ≤ 5) : CT g mX10_choose 6 0 0 [.ref 9, .int (nI t), .int s] (tq_SC ++ rest) tq_RR I J (tq_ret (tq_SC ++ rest) tq_RR none (I_X10_choose I t s) J) := by
  refine CT.ret kX10_choose (Nat.le_of_ble_eq_true rfl) (fun x0 C hR hZ => ?_)
  refine EV_en (lv' := [some (.ref 9), some (.int (nI t)), some (.int s), none, none]) 2 rfl ?_
  refine EV_blk (own := 10) C rfl [(.aload_n 0, 0, 0, 0, 0), (.getfield 9, 10, 0, 131, 0), (.iload_n 1, 0, 0, 0, 0), (.iload_n 2, 0, 0, 0, 0), (.bipush (-2), 0, 0, 0, (-2)), (.iand, 0, 0, 0, 0), (.ldc 25, 0, 0, 612, (nI 32768)), (.ior, 0, 0, 0, 0)] (pc' := 12) (by decide +kernel) (lv' := [some (.ref 9), some (.int (nI t)), some (.int s), none, none]) (st' := [.int ((s &&& (-2)) ||| (nI 32768)), .int (nI t), .ref 10]) (I' := I) (J' := J) rfl ?_
  refine EV_iast (j := t) C (by decide +kernel) rfl (nI_toInt (by omega)) (by omega) ?_
  refine EV_blk (own := 10) C rfl [(.iconst 0, 0, 0, 0, (nI 0)), (.istore_n 3, 0, 0, 0, 0), (.iconst 1, 0, 0, 0, (nI 1)), (.istore 4, 0, 0, 0, 0)] (pc' := 18) (by decide +kernel) (lv' := [some (.ref 9), some (.int (nI t)), some (.int s), some (.int (nI 0)), some (.int (nI 1))]) (st' := []) (I' := (tq_u I 10 t ((s &&& (-2)) ||| (nI 32768)))) (J' := J) rfl ?_
  refine lp_ch1 C hR (tq_u I 10 t ((s &&& (-2)) ||| (nI 32768))) J t s ht 15 0 (nI 0) (by omega) ?_
  refine EV_blk (own := 10) C rfl [(.iconst 1, 0, 0, 0, (nI 1)), (.istore 4, 0, 0, 0, 0)] (pc' := 52) (by decide +kernel) (lv' := [some (.ref 9), some (.int (nI t)), some (.int s), some (.int (tq_it (f_ch1 (tq_u I 10 t ((s &&& (-2)) ||| (nI 32768))) t s) 15 0 (nI 0))), some (.int (nI 1))]) (st' := []) (I' := (tq_u I 10 t ((s &&& (-2)) ||| (nI 32768)))) (J' := J) rfl ?_
  refine lp_ch2 C hR J t s (tq_it (f_ch1 (tq_u I 10 t ((s &&& (-2)) ||| (nI 32768))) t s) 15 0 (nI 0)) ht 15 0 (tq_u I 10 t ((s &&& (-2)) ||| (nI 32768))) (by omega) ?_
  exact EV_vret C hZ rfl (by decide +kernel) (Nat.le_refl _) (Nat.le_refl _) ⟨rfl, rfl, rfl, by simp only [I_X10_choose], rfl⟩
theorem fr_X10_choose (I : tq_I) (t : Nat) (s : Int32) {cz : Nat} (hc : cz ≠ 10 ∧ cz ≠ 11) (jz : Nat) : I_X10_choose I t s cz jz = I cz jz := by
  obtain ⟨hc0, hc1⟩ := hc
  simp only [I_X10_choose]
  (repeat' split) <;> simp (disch := first | assumption | (simp only [ne_eq] at *; simp [*])) [tq_u, tq_cp, hc0, hc1, fr_tb1, fr_tb2, fr_X8_touchBlock, fr_X8_touchAll, fr_X8_changeCorner, fr_X8_changePath, fr_cb1, fr_cb2, fr_X8_changeBlock, fr_wipe1, fr_X1_wipe, fr_sm1, fr_sm2, fr_X8_startMap, fr_X6_place, fr_mt1, fr_mt2, fr_X6_moveTo, fr_ch2]
def f_shows1 (I : tq_I) (c p : Nat) (i : Nat) : Option Int32 := (if (I 14 (c * 7 + i)) = (I 106 i) then none else (some (nI 0)))
set_option maxRecDepth 20000 in
theorem lp_shows1 {g : tq_G} {rest : List tq_S} {x0 : tq_X} {res : Int32} (I : tq_I) (J : Int64) (C : tq_C g mX1_shows x0) (hR : tq_ht x0 1 0 0) (hZ : tq_end g x0 (tq_ret (tq_SC ++ rest) tq_RR (some (.int res)) I J) 0 0) (c p : Nat) (hc : c ≤ 99) (hp : I 102 5 = nI p) (hp7 : p ≤ 7) : ∀ (n i : Nat), i + n = p → res = tq_sr (f_shows1 I c p) n i (nI 1) → (res = (nI 1) → EV g mX1_shows x0 0 0 61 [some (.ref 12), some (.int (nI c)), some (.ref 102), none] [] (tq_SC ++ rest) tq_RR I J) → EV g mX1_shows x0 0 0 30 [some (.ref 12), some (.int (nI c)), some (.ref 102), some (.int (nI i))] [] (tq_SC ++ rest) tq_RR I J := by
  intro n
  induction n with
  | zero =>
    intro i hi hr kk
    refine EV_blk (own := 1) C rfl [(.iload_n 3, 0, 0, 0, 0), (.aload_n 2, 0, 0, 0, 0), (.getfield 30, 7, 5, 261, 0)] (pc' := 35) (by decide +kernel) (lv' := [some (.ref 12), some (.int (nI c)), some (.ref 102), some (.int (nI i))]) (st' := [.int (I 102 5), .int (nI i)]) (I' := I) (J' := J) rfl ?_
    refine EV_icmp_ge (off := 26) (tgt := 61) C (by decide +kernel) (by decide) (fun h1 => ?_) (fun h1 => ?_)
    · skip
      exact EV_fg (lv' := [some (.ref 12), some (.int (nI c)), some (.ref 102), none]) ⟨rfl, rfl, rfl, trivial⟩ (kk hr)
    · skip
      exact absurd h1 (by simp (disch := omega) only [Int32.lt_iff_toInt_lt, Int32.le_iff_toInt_le, Int32.toInt_zero, nI_toInt, tq_m1, hp]; omega)
  | succ n ih =>
    intro i hi hr kk
    refine EV_blk (own := 1) C rfl [(.iload_n 3, 0, 0, 0, 0), (.aload_n 2, 0, 0, 0, 0), (.getfield 30, 7, 5, 261, 0)] (pc' := 35) (by decide +kernel) (lv' := [some (.ref 12), some (.int (nI c)), some (.ref 102), some (.int (nI i))]) (st' := [.int (I 102 5), .int (nI i)]) (I' := I) (J' := J) rfl ?_
    refine EV_icmp_ge (off := 26) (tgt := 61) C (by decide +kernel) (by decide) (fun h1 => ?_) (fun h1 => ?_)
    · skip
      exact absurd h1 (by simp (disch := omega) only [Int32.lt_iff_toInt_lt, Int32.le_iff_toInt_le, Int32.toInt_zero, nI_toInt, tq_m1, hp]; omega)
    · skip
      refine EV_blk (own := 1) C rfl [(.aload_n 0, 0, 0, 0, 0), (.iload_n 1, 0, 0, 0, 0), (.iload_n 3, 0, 0, 0, 0)] (pc' := 41) (by decide +kernel) (lv' := [some (.ref 12), some (.int (nI c)), some (.ref 102), some (.int (nI i))]) (st' := [.int (nI i), .int (nI c), .ref 12]) (I' := I) (J' := J) rfl ?_
      refine EV_cV (own := 1) (idx := 39) (μ' := mX1_codeAt) (b := 12) (cb := 1) (av := [.int (nI c), .int (nI i)]) (rest := []) C hR rfl (Or.inl ⟨732, by decide⟩) kX1_codeAt sX1_codeAt (c_X1_codeAt g rest I J c i (by omega) (by omega)) rfl rfl (by decide +kernel) rfl (by decide) (Nat.le_of_ble_eq_true rfl) rfl ⟨Nat.zero_le _, Nat.zero_le _⟩ ?_
      refine EV_blk (own := 1) C rfl [(.aload_n 2, 0, 0, 0, 0), (.getfield 43, 7, 4, 258, 0), (.iload_n 3, 0, 0, 0, 0)] (pc' := 49) (by decide +kernel) (lv' := [some (.ref 12), some (.int (nI c)), some (.ref 102), some (.int (nI i))]) (st' := [.int (nI i), .ref 106, .int (I 14 (c * 7 + i))]) (I' := I) (J' := J) rfl ?_
      refine EV_iald (j := i) C (by decide +kernel) rfl (nI_toInt (by omega)) (by omega) ?_
      refine EV_icmp_eq (off := 5) (tgt := 55) C (by decide +kernel) (by decide) (fun h2 => ?_) (fun h2 => ?_)
      · skip
        refine EV_blk (own := 1) C rfl [(.iinc 3 1, 0, 0, 0, (nI 1)), (.goto (-28), 0, 0, 0, 0)] (pc' := 30) (by decide +kernel) (lv' := [some (.ref 12), some (.int (nI c)), some (.ref 102), some (.int ((nI i) + (nI 1)))]) (st' := []) (I' := I) (J' := J) rfl ?_
        rw [show ((nI i) + (nI 1)) = (nI (i + 1)) from by simp (disch := omega) only [nI_add, tq_mul] <;> exact congrArg nI (by omega)]
        exact ih (i + 1) (by omega) (hr.trans (tq_sr_none (show (f_shows1 I c p) i = none from by simp only [f_shows1, if_neg h1, if_pos h2]))) kk
      · skip
        refine EV_blk (own := 1) C rfl [(.iconst 0, 0, 0, 0, (nI 0))] (pc' := 54) (by decide +kernel) (lv' := [some (.ref 12), some (.int (nI c)), some (.ref 102), some (.int (nI i))]) (st' := [.int (nI 0)]) (I' := I) (J' := J) rfl ?_
        exact EV_zret C hZ rfl (by decide) (by decide +kernel) (Nat.le_refl _) (Nat.le_refl _) ⟨tq_some ((hr.trans (tq_sr_some (show (f_shows1 I c p) i = some (nI 0) from by simp only [f_shows1, if_neg h1, if_neg h2]))).symm), rfl, rfl, rfl, rfl⟩
def r_X1_shows (I : tq_I) (c p : Nat) : Int32 := (if (I 13 c) = (I 102 5) then (if (I 15 c) = (I 102 6) then (tq_sr (f_shows1 I c p) p 0 (nI 1)) else (nI 0)) else (nI 0))
set_option maxRecDepth 20000 in
theorem c_X1_shows (g : tq_G) (rest : List tq_S) (I : tq_I) (J : Int64) (c p : Nat) (hc : c ≤ 99) (hp : I 102 5 = nI p) (hp7 : p ≤ 7) : CT g mX1_shows 1 0 0 [.ref 12, .int (nI c), .ref 102] (tq_SC ++ rest) tq_RR I J (tq_ret (tq_SC ++ rest) tq_RR (some (.int (r_X1_shows I c p))) I J) := by
  refine CT.ret kX1_shows (Nat.le_of_ble_eq_true rfl) (fun x0 C hR hZ => ?_)
  refine EV_en (lv' := [some (.ref 12), some (.int (nI c)), some (.ref 102), none]) 1 rfl ?_
  refine EV_blk (own := 1) C rfl [(.aload_n 0, 0, 0, 0, 0), (.getfield 9, 1, 0, 173, 0), (.iload_n 1, 0, 0, 0, 0)] (pc' := 5) (by decide +kernel) (lv' := [some (.ref 12), some (.int (nI c)), some (.ref 102), none]) (st' := [.int (nI c), .ref 13]) (I' := I) (J' := J) rfl ?_
  refine EV_iald (j := c) C (by decide +kernel) rfl (nI_toInt (by omega)) (by omega) ?_
  refine EV_blk (own := 1) C rfl [(.aload_n 2, 0, 0, 0, 0), (.getfield 30, 7, 5, 261, 0)] (pc' := 10) (by decide +kernel) (lv' := [some (.ref 12), some (.int (nI c)), some (.ref 102), none]) (st' := [.int (I 102 5), .int (I 13 c)]) (I' := I) (J' := J) rfl ?_
  refine EV_icmp_ne (off := 16) (tgt := 26) C (by decide +kernel) (by decide) (fun h1 => ?_) (fun h1 => ?_)
  · skip
    refine EV_blk (own := 1) C rfl [(.iconst 0, 0, 0, 0, (nI 0))] (pc' := 27) (by decide +kernel) (lv' := [some (.ref 12), some (.int (nI c)), some (.ref 102), none]) (st' := [.int (nI 0)]) (I' := I) (J' := J) rfl ?_
    exact EV_zret C hZ rfl (by decide) (by decide +kernel) (Nat.le_refl _) (Nat.le_refl _) ⟨tq_some (by simp only [r_X1_shows, if_neg h1]), rfl, rfl, rfl, rfl⟩
  · skip
    refine EV_blk (own := 1) C rfl [(.aload_n 0, 0, 0, 0, 0), (.getfield 18, 1, 2, 177, 0), (.iload_n 1, 0, 0, 0, 0)] (pc' := 18) (by decide +kernel) (lv' := [some (.ref 12), some (.int (nI c)), some (.ref 102), none]) (st' := [.int (nI c), .ref 15]) (I' := I) (J' := J) rfl ?_
    refine EV_iald (j := c) C (by decide +kernel) rfl (nI_toInt (by omega)) (by omega) ?_
    refine EV_blk (own := 1) C rfl [(.aload_n 2, 0, 0, 0, 0), (.getfield 36, 7, 6, 264, 0)] (pc' := 23) (by decide +kernel) (lv' := [some (.ref 12), some (.int (nI c)), some (.ref 102), none]) (st' := [.int (I 102 6), .int (I 15 c)]) (I' := I) (J' := J) rfl ?_
    refine EV_icmp_eq (off := 5) (tgt := 28) C (by decide +kernel) (by decide) (fun h2 => ?_) (fun h2 => ?_)
    · skip
      refine EV_blk (own := 1) C rfl [(.iconst 0, 0, 0, 0, (nI 0)), (.istore_n 3, 0, 0, 0, 0)] (pc' := 30) (by decide +kernel) (lv' := [some (.ref 12), some (.int (nI c)), some (.ref 102), some (.int (nI 0))]) (st' := []) (I' := I) (J' := J) rfl ?_
      refine lp_shows1 I J C hR hZ c p hc hp hp7 p 0 (by omega) (by simp only [r_X1_shows, if_pos h1, if_pos h2]) (fun hd => ?_)
      refine EV_blk (own := 1) C rfl [(.iconst 1, 0, 0, 0, (nI 1))] (pc' := 62) (by decide +kernel) (lv' := [some (.ref 12), some (.int (nI c)), some (.ref 102), none]) (st' := [.int (nI 1)]) (I' := I) (J' := J) rfl ?_
      exact EV_zret C hZ rfl (by decide) (by decide +kernel) (Nat.le_refl _) (Nat.le_refl _) ⟨tq_some hd.symm, rfl, rfl, rfl, rfl⟩
    · skip
      refine EV_blk (own := 1) C rfl [(.iconst 0, 0, 0, 0, (nI 0))] (pc' := 27) (by decide +kernel) (lv' := [some (.ref 12), some (.int (nI c)), some (.ref 102), none]) (st' := [.int (nI 0)]) (I' := I) (J' := J) rfl ?_
      exact EV_zret C hZ rfl (by decide) (by decide +kernel) (Nat.le_refl _) (Nat.le_refl _) ⟨tq_some (by simp only [r_X1_shows, if_pos h1, if_neg h2]), rfl, rfl, rfl, rfl⟩
def I_X1_take (I : tq_I) (c p : Nat) : tq_I := (tq_cp (tq_u (tq_u I 13 c (I 102 5)) 15 c ((tq_u I 13 c (I 102 5)) 102 6)) 106 0 14 (c * 7) p)
set_option maxRecDepth 20000 in
theorem c_X1_take (g : tq_G) (rest : List tq_S) (I : tq_I) (J : Int64) (c p : Nat) (hc : c ≤ 99) (hp : I 102 5 = nI p) (hp7 : p ≤ 7) : CT g mX1_take 2 0 0 [.ref 12, .int (nI c), .ref 102] (tq_SC ++ rest) tq_RR I J (tq_ret (tq_SC ++ rest) tq_RR none (I_X1_take I c p) J) := by
  refine CT.ret kX1_take (Nat.le_of_ble_eq_true rfl) (fun x0 C hR hZ => ?_)
  refine EV_en (lv' := [some (.ref 12), some (.int (nI c)), some (.ref 102)]) 0 rfl ?_
  refine EV_blk (own := 1) C rfl [(.aload_n 0, 0, 0, 0, 0), (.getfield 9, 1, 0, 173, 0), (.iload_n 1, 0, 0, 0, 0), (.aload_n 2, 0, 0, 0, 0), (.getfield 30, 7, 5, 261, 0)] (pc' := 9) (by decide +kernel) (lv' := [some (.ref 12), some (.int (nI c)), some (.ref 102)]) (st' := [.int (I 102 5), .int (nI c), .ref 13]) (I' := I) (J' := J) rfl ?_
  refine EV_iast (j := c) C (by decide +kernel) rfl (nI_toInt (by omega)) (by omega) ?_
  refine EV_blk (own := 1) C rfl [(.aload_n 0, 0, 0, 0, 0), (.getfield 18, 1, 2, 177, 0), (.iload_n 1, 0, 0, 0, 0), (.aload_n 2, 0, 0, 0, 0), (.getfield 36, 7, 6, 264, 0)] (pc' := 19) (by decide +kernel) (lv' := [some (.ref 12), some (.int (nI c)), some (.ref 102)]) (st' := [.int ((tq_u I 13 c (I 102 5)) 102 6), .int (nI c), .ref 15]) (I' := (tq_u I 13 c (I 102 5))) (J' := J) rfl ?_
  refine EV_iast (j := c) C (by decide +kernel) rfl (nI_toInt (by omega)) (by omega) ?_
  refine EV_blk (own := 1) C rfl [(.aload_n 2, 0, 0, 0, 0), (.getfield 43, 7, 4, 258, 0), (.iconst 0, 0, 0, 0, (nI 0)), (.aload_n 0, 0, 0, 0, 0), (.getfield 15, 1, 1, 176, 0), (.iload_n 1, 0, 0, 0, 0), (.bipush 7, 0, 0, 0, (nI 7)), (.imul, 0, 0, 0, 0), (.aload_n 2, 0, 0, 0, 0), (.getfield 30, 7, 5, 261, 0)] (pc' := 37) (by decide +kernel) (lv' := [some (.ref 12), some (.int (nI c)), some (.ref 102)]) (st' := [.int ((tq_u (tq_u I 13 c (I 102 5)) 15 c ((tq_u I 13 c (I 102 5)) 102 6)) 102 5), .int ((nI c) * (nI 7)), .ref 14, .int (nI 0), .ref 106]) (I' := (tq_u (tq_u I 13 c (I 102 5)) 15 c ((tq_u I 13 c (I 102 5)) 102 6))) (J' := J) rfl ?_
  refine EV_copy (own := 1) (idx := 24) (pl := 432) (sp' := 0) (dp' := c * 7) (z' := p) C hR rfl (by decide) (by decide +kernel) (by decide) (Nat.le_of_ble_eq_true rfl) rfl rfl (nI_toInt (by omega)) (tq_toI (c * 7) (by simp only [tq_mul]) (by omega)) (tq_toI p (by simp [tq_u, hp]) (by omega)) (by omega) (by omega) ?_
  exact EV_vret C hZ rfl (by decide +kernel) (Nat.le_refl _) (Nat.le_refl _) ⟨rfl, rfl, rfl, by simp only [I_X1_take], rfl⟩
theorem fr_X1_take (I : tq_I) (c p : Nat) {cz : Nat} (hc : cz ≠ 13 ∧ cz ≠ 14 ∧ cz ≠ 15) (jz : Nat) : I_X1_take I c p cz jz = I cz jz := by
  obtain ⟨hc0, hc1, hc2⟩ := hc
  simp only [I_X1_take]
  (repeat' split) <;> simp (disch := first | assumption | (simp only [ne_eq] at *; simp [*])) [tq_u, tq_cp, hc0, hc1, hc2, fr_tb1, fr_tb2, fr_X8_touchBlock, fr_X8_touchAll, fr_X8_changeCorner, fr_X8_changePath, fr_cb1, fr_cb2, fr_X8_changeBlock, fr_wipe1, fr_X1_wipe, fr_sm1, fr_sm2, fr_X8_startMap, fr_X6_place, fr_mt1, fr_mt2, fr_X6_moveTo, fr_ch2, fr_X10_choose]
end
section
/-! copies of states; the history: 17, its row 18, its states 19, 35, 51, 67, 83 -/
def tq_cpLand (I : tq_I) (a b : Nat) : tq_I := tq_cp (tq_cp (tq_u (tq_u I a 0 (I b 0)) a 1 ((tq_u I a 0 (I b 0)) b 1)) (b + 1) 0 (a + 1) 0 121) (b + 2) 0 (a + 2) 0 100
def tq_cpTiles (I : tq_I) (a b : Nat) : tq_I := tq_cp (tq_cp I (b + 1) 0 (a + 1) 0 6) (b + 2) 0 (a + 2) 0 96
def tq_cpRules3 (I : tq_I) (a b : Nat) : tq_I := tq_cp (tq_cp (tq_cp I (b + 1) 0 (a + 1) 0 6) (b + 2) 0 (a + 2) 0 6) (b + 3) 0 (a + 3) 0 6
def tq_cpRules4 (I : tq_I) (a b : Nat) : tq_I := tq_cpTiles (tq_cpRules3 I a b) (a + 4) (b + 4)
def tq_cpRules5 (I : tq_I) (a b : Nat) : tq_I := tq_u (tq_cpRules4 I a b) a 4 (tq_cpRules4 I a b b 4)
def tq_cpRules (I : tq_I) (a b : Nat) : tq_I := tq_u (tq_cpRules5 I a b) a 5 (tq_cpRules5 I a b b 5)
def tq_cpCanvas (I : tq_I) (a b : Nat) : tq_I := tq_cp (tq_cp (tq_cp (tq_cp I (b + 1) 0 (a + 1) 0 100) (b + 2) 0 (a + 2) 0 700) (b + 3) 0 (a + 3) 0 100) (b + 4) 0 (a + 4) 0 100
def tq_cpSt (I : tq_I) (a b : Nat) : tq_I := tq_cpCanvas (tq_cpRules (tq_cpLand I (a + 1) (b + 1)) (a + 4) (b + 4)) (a + 11) (b + 11)
set_option maxRecDepth 20000 in
theorem c_X3_copyFrom_20_2 (g : tq_G) (rest : List tq_S) (I : tq_I) (J : Int64)   : CT g mX3_copyFrom 2 0 0 [.ref 20, .ref 2] (tq_SC ++ rest) tq_RR I J (tq_ret (tq_SC ++ rest) tq_RR none (tq_cpLand I 20 2) J) := by
  refine CT.ret kX3_copyFrom (Nat.le_of_ble_eq_true rfl) (fun x0 C hR hZ => ?_)
  refine EV_en (lv' := [some (.ref 20), some (.ref 2)]) 0 rfl ?_
  refine EV_blk (own := 3) C rfl [(.aload_n 0, 0, 0, 0, 0), (.aload_n 1, 0, 0, 0, 0), (.getfield 18, 3, 0, 95, 0), (.putfield 18, 3, 0, 95, 0), (.aload_n 0, 0, 0, 0, 0), (.aload_n 1, 0, 0, 0, 0), (.getfield 22, 3, 1, 99, 0), (.putfield 22, 3, 1, 99, 0), (.aload_n 1, 0, 0, 0, 0), (.getfield 9, 3, 2, 103, 0), (.iconst 0, 0, 0, 0, (nI 0)), (.aload_n 0, 0, 0, 0, 0), (.getfield 9, 3, 2, 103, 0), (.iconst 0, 0, 0, 0, (nI 0)), (.bipush 121, 0, 0, 0, (nI 121))] (pc' := 28) (by decide +kernel) (lv' := [some (.ref 20), some (.ref 2)]) (st' := [.int (nI 121), .int (nI 0), .ref 21, .int (nI 0), .ref 3]) (I' := (tq_u (tq_u I 20 0 (I 2 0)) 20 1 ((tq_u I 20 0 (I 2 0)) 2 1))) (J' := J) rfl ?_
  refine EV_copy (own := 3) (idx := 25) (pl := 415) (sp' := 0) (dp' := 0) (z' := 121) C hR rfl (by decide) (by decide +kernel) (by decide) (Nat.le_of_ble_eq_true rfl) rfl rfl (nI_toInt (by omega)) (nI_toInt (by omega)) (nI_toInt (by omega)) (by omega) (by omega) ?_
  refine EV_blk (own := 3) C rfl [(.aload_n 1, 0, 0, 0, 0), (.getfield 15, 3, 3, 106, 0), (.iconst 0, 0, 0, 0, (nI 0)), (.aload_n 0, 0, 0, 0, 0), (.getfield 15, 3, 3, 106, 0), (.iconst 0, 0, 0, 0, (nI 0)), (.bipush 100, 0, 0, 0, (nI 100))] (pc' := 43) (by decide +kernel) (lv' := [some (.ref 20), some (.ref 2)]) (st' := [.int (nI 100), .int (nI 0), .ref 22, .int (nI 0), .ref 4]) (I' := (tq_cp (tq_u (tq_u I 20 0 (I 2 0)) 20 1 ((tq_u I 20 0 (I 2 0)) 2 1)) 3 0 21 0 121)) (J' := J) rfl ?_
  refine EV_copy (own := 3) (idx := 25) (pl := 415) (sp' := 0) (dp' := 0) (z' := 100) C hR rfl (by decide) (by decide +kernel) (by decide) (Nat.le_of_ble_eq_true rfl) rfl rfl (nI_toInt (by omega)) (nI_toInt (by omega)) (nI_toInt (by omega)) (by omega) (by omega) ?_
  exact EV_vret C hZ rfl (by decide +kernel) (Nat.le_refl _) (Nat.le_refl _) ⟨rfl, rfl, rfl, rfl, rfl⟩
set_option maxRecDepth 20000 in
theorem c_X10_copyFrom_27_9 (g : tq_G) (rest : List tq_S) (I : tq_I) (J : Int64)   : CT g mX10_copyFrom 2 0 0 [.ref 27, .ref 9] (tq_SC ++ rest) tq_RR I J (tq_ret (tq_SC ++ rest) tq_RR none (tq_cpTiles I 27 9) J) := by
  refine CT.ret kX10_copyFrom (Nat.le_of_ble_eq_true rfl) (fun x0 C hR hZ => ?_)
  refine EV_en (lv' := [some (.ref 27), some (.ref 9)]) 0 rfl ?_
  refine EV_blk (own := 10) C rfl [(.aload_n 1, 0, 0, 0, 0), (.getfield 9, 10, 0, 131, 0), (.iconst 0, 0, 0, 0, (nI 0)), (.aload_n 0, 0, 0, 0, 0), (.getfield 9, 10, 0, 131, 0), (.iconst 0, 0, 0, 0, (nI 0)), (.bipush 6, 0, 0, 0, (nI 6))] (pc' := 12) (by decide +kernel) (lv' := [some (.ref 27), some (.ref 9)]) (st' := [.int (nI 6), .int (nI 0), .ref 28, .int (nI 0), .ref 10]) (I' := I) (J' := J) rfl ?_
  refine EV_copy (own := 10) (idx := 19) (pl := 427) (sp' := 0) (dp' := 0) (z' := 6) C hR rfl (by decide) (by decide +kernel) (by decide) (Nat.le_of_ble_eq_true rfl) rfl rfl (nI_toInt (by omega)) (nI_toInt (by omega)) (nI_toInt (by omega)) (by omega) (by omega) ?_
  refine EV_blk (own := 10) C rfl [(.aload_n 1, 0, 0, 0, 0), (.getfield 15, 10, 1, 132, 0), (.iconst 0, 0, 0, 0, (nI 0)), (.aload_n 0, 0, 0, 0, 0), (.getfield 15, 10, 1, 132, 0), (.iconst 0, 0, 0, 0, (nI 0)), (.bipush 96, 0, 0, 0, (nI 96))] (pc' := 27) (by decide +kernel) (lv' := [some (.ref 27), some (.ref 9)]) (st' := [.int (nI 96), .int (nI 0), .ref 29, .int (nI 0), .ref 11]) (I' := (tq_cp I 10 0 28 0 6)) (J' := J) rfl ?_
  refine EV_copy (own := 10) (idx := 19) (pl := 427) (sp' := 0) (dp' := 0) (z' := 96) C hR rfl (by decide) (by decide +kernel) (by decide) (Nat.le_of_ble_eq_true rfl) rfl rfl (nI_toInt (by omega)) (nI_toInt (by omega)) (nI_toInt (by omega)) (by omega) (by omega) ?_
  exact EV_vret C hZ rfl (by decide +kernel) (Nat.le_refl _) (Nat.le_refl _) ⟨rfl, rfl, rfl, rfl, rfl⟩
set_option maxRecDepth 20000 in
theorem c_X6_copyFrom_23_5 (g : tq_G) (rest : List tq_S) (I : tq_I) (J : Int64)  (hbd : I 5 5 = 0 ∨ I 5 5 = 1) : CT g mX6_copyFrom 3 0 0 [.ref 23, .ref 5] (tq_SC ++ rest) tq_RR I J (tq_ret (tq_SC ++ rest) tq_RR none (tq_cpRules I 23 5) J) := by
  refine CT.ret kX6_copyFrom (Nat.le_of_ble_eq_true rfl) (fun x0 C hR hZ => ?_)
  refine EV_en (lv' := [some (.ref 23), some (.ref 5)]) 0 rfl ?_
  refine EV_blk (own := 6) C rfl [(.aload_n 1, 0, 0, 0, 0), (.getfield 9, 6, 0, 142, 0), (.iconst 0, 0, 0, 0, (nI 0)), (.aload_n 0, 0, 0, 0, 0), (.getfield 9, 6, 0, 142, 0), (.iconst 0, 0, 0, 0, (nI 0)), (.bipush 6, 0, 0, 0, (nI 6))] (pc' := 12) (by decide +kernel) (lv' := [some (.ref 23), some (.ref 5)]) (st' := [.int (nI 6), .int (nI 0), .ref 24, .int (nI 0), .ref 6]) (I' := I) (J' := J) rfl ?_
  refine EV_copy (own := 6) (idx := 32) (pl := 422) (sp' := 0) (dp' := 0) (z' := 6) C hR rfl (by decide) (by decide +kernel) (by decide) (Nat.le_of_ble_eq_true rfl) rfl rfl (nI_toInt (by omega)) (nI_toInt (by omega)) (nI_toInt (by omega)) (by omega) (by omega) ?_
  refine EV_blk (own := 6) C rfl [(.aload_n 1, 0, 0, 0, 0), (.getfield 15, 6, 1, 143, 0), (.iconst 0, 0, 0, 0, (nI 0)), (.aload_n 0, 0, 0, 0, 0), (.getfield 15, 6, 1, 143, 0), (.iconst 0, 0, 0, 0, (nI 0)), (.bipush 6, 0, 0, 0, (nI 6))] (pc' := 27) (by decide +kernel) (lv' := [some (.ref 23), some (.ref 5)]) (st' := [.int (nI 6), .int (nI 0), .ref 25, .int (nI 0), .ref 7]) (I' := (tq_cp I 6 0 24 0 6)) (J' := J) rfl ?_
  refine EV_copy (own := 6) (idx := 32) (pl := 422) (sp' := 0) (dp' := 0) (z' := 6) C hR rfl (by decide) (by decide +kernel) (by decide) (Nat.le_of_ble_eq_true rfl) rfl rfl (nI_toInt (by omega)) (nI_toInt (by omega)) (nI_toInt (by omega)) (by omega) (by omega) ?_
  refine EV_blk (own := 6) C rfl [(.aload_n 1, 0, 0, 0, 0), (.getfield 18, 6, 2, 144, 0), (.iconst 0, 0, 0, 0, (nI 0)), (.aload_n 0, 0, 0, 0, 0), (.getfield 18, 6, 2, 144, 0), (.iconst 0, 0, 0, 0, (nI 0)), (.bipush 6, 0, 0, 0, (nI 6))] (pc' := 42) (by decide +kernel) (lv' := [some (.ref 23), some (.ref 5)]) (st' := [.int (nI 6), .int (nI 0), .ref 26, .int (nI 0), .ref 8]) (I' := (tq_cp (tq_cp I 6 0 24 0 6) 7 0 25 0 6)) (J' := J) rfl ?_
  refine EV_copy (own := 6) (idx := 32) (pl := 422) (sp' := 0) (dp' := 0) (z' := 6) C hR rfl (by decide) (by decide +kernel) (by decide) (Nat.le_of_ble_eq_true rfl) rfl rfl (nI_toInt (by omega)) (nI_toInt (by omega)) (nI_toInt (by omega)) (by omega) (by omega) ?_
  refine EV_blk (own := 6) C rfl [(.aload_n 0, 0, 0, 0, 0), (.getfield 24, 6, 3, 146, 0), (.aload_n 1, 0, 0, 0, 0), (.getfield 24, 6, 3, 146, 0)] (pc' := 53) (by decide +kernel) (lv' := [some (.ref 23), some (.ref 5)]) (st' := [.ref 9, .ref 27]) (I' := (tq_cp (tq_cp (tq_cp I 6 0 24 0 6) 7 0 25 0 6) 8 0 26 0 6)) (J' := J) rfl ?_
  refine EV_cV (own := 6) (idx := 38) (μ' := mX10_copyFrom) (b := 27) (cb := 10) (av := [.ref 9]) (rest := []) C hR rfl (Or.inl ⟨423, by decide⟩) kX10_copyFrom sX10_copyFrom (c_X10_copyFrom_27_9 g rest (tq_cp (tq_cp (tq_cp I 6 0 24 0 6) 7 0 25 0 6) 8 0 26 0 6) J ) rfl rfl (by decide +kernel) rfl (by decide) (Nat.le_of_ble_eq_true rfl) rfl ⟨Nat.zero_le _, Nat.zero_le _⟩ ?_
  refine EV_blk (own := 6) C rfl [(.aload_n 0, 0, 0, 0, 0), (.aload_n 1, 0, 0, 0, 0), (.getfield 42, 6, 4, 149, 0), (.putfield 42, 6, 4, 149, 0), (.aload_n 0, 0, 0, 0, 0), (.aload_n 1, 0, 0, 0, 0), (.getfield 46, 6, 5, 152, 0)] (pc' := 69) (by decide +kernel) (lv' := [some (.ref 23), some (.ref 5)]) (st' := [.int ((tq_u (tq_cpTiles (tq_cp (tq_cp (tq_cp I 6 0 24 0 6) 7 0 25 0 6) 8 0 26 0 6) 27 9) 23 4 ((tq_cpTiles (tq_cp (tq_cp (tq_cp I 6 0 24 0 6) 7 0 25 0 6) 8 0 26 0 6) 27 9) 5 4)) 5 5), .ref 23]) (I' := (tq_u (tq_cpTiles (tq_cp (tq_cp (tq_cp I 6 0 24 0 6) 7 0 25 0 6) 8 0 26 0 6) 27 9) 23 4 ((tq_cpTiles (tq_cp (tq_cp (tq_cp I 6 0 24 0 6) 7 0 25 0 6) 8 0 26 0 6) 27 9) 5 4))) (J' := J) rfl ?_
  refine EV_puti (own := 6) (idx := 46) (c := 6) (j := 5) (pl := 152) C rfl (Or.inl (by decide)) (by decide +kernel) rfl rfl (Or.inr ⟨rfl, hbd⟩) ?_
  exact EV_vret C hZ rfl (by decide +kernel) (Nat.le_refl _) (Nat.le_refl _) ⟨rfl, rfl, rfl, rfl, rfl⟩
set_option maxRecDepth 20000 in
theorem c_X1_copyFrom_30_12 (g : tq_G) (rest : List tq_S) (I : tq_I) (J : Int64)   : CT g mX1_copyFrom 2 0 0 [.ref 30, .ref 12] (tq_SC ++ rest) tq_RR I J (tq_ret (tq_SC ++ rest) tq_RR none (tq_cpCanvas I 30 12) J) := by
  refine CT.ret kX1_copyFrom (Nat.le_of_ble_eq_true rfl) (fun x0 C hR hZ => ?_)
  refine EV_en (lv' := [some (.ref 30), some (.ref 12)]) 0 rfl ?_
  refine EV_blk (own := 1) C rfl [(.aload_n 1, 0, 0, 0, 0), (.getfield 9, 1, 0, 173, 0), (.iconst 0, 0, 0, 0, (nI 0)), (.aload_n 0, 0, 0, 0, 0), (.getfield 9, 1, 0, 173, 0), (.iconst 0, 0, 0, 0, (nI 0)), (.bipush 100, 0, 0, 0, (nI 100))] (pc' := 12) (by decide +kernel) (lv' := [some (.ref 30), some (.ref 12)]) (st' := [.int (nI 100), .int (nI 0), .ref 31, .int (nI 0), .ref 13]) (I' := I) (J' := J) rfl ?_
  refine EV_copy (own := 1) (idx := 24) (pl := 432) (sp' := 0) (dp' := 0) (z' := 100) C hR rfl (by decide) (by decide +kernel) (by decide) (Nat.le_of_ble_eq_true rfl) rfl rfl (nI_toInt (by omega)) (nI_toInt (by omega)) (nI_toInt (by omega)) (by omega) (by omega) ?_
  refine EV_blk (own := 1) C rfl [(.aload_n 1, 0, 0, 0, 0), (.getfield 15, 1, 1, 176, 0), (.iconst 0, 0, 0, 0, (nI 0)), (.aload_n 0, 0, 0, 0, 0), (.getfield 15, 1, 1, 176, 0), (.iconst 0, 0, 0, 0, (nI 0)), (.sipush 700, 0, 0, 0, (nI 700))] (pc' := 28) (by decide +kernel) (lv' := [some (.ref 30), some (.ref 12)]) (st' := [.int (nI 700), .int (nI 0), .ref 32, .int (nI 0), .ref 14]) (I' := (tq_cp I 13 0 31 0 100)) (J' := J) rfl ?_
  refine EV_copy (own := 1) (idx := 24) (pl := 432) (sp' := 0) (dp' := 0) (z' := 700) C hR rfl (by decide) (by decide +kernel) (by decide) (Nat.le_of_ble_eq_true rfl) rfl rfl (nI_toInt (by omega)) (nI_toInt (by omega)) (nI_toInt (by omega)) (by omega) (by omega) ?_
  refine EV_blk (own := 1) C rfl [(.aload_n 1, 0, 0, 0, 0), (.getfield 18, 1, 2, 177, 0), (.iconst 0, 0, 0, 0, (nI 0)), (.aload_n 0, 0, 0, 0, 0), (.getfield 18, 1, 2, 177, 0), (.iconst 0, 0, 0, 0, (nI 0)), (.bipush 100, 0, 0, 0, (nI 100))] (pc' := 43) (by decide +kernel) (lv' := [some (.ref 30), some (.ref 12)]) (st' := [.int (nI 100), .int (nI 0), .ref 33, .int (nI 0), .ref 15]) (I' := (tq_cp (tq_cp I 13 0 31 0 100) 14 0 32 0 700)) (J' := J) rfl ?_
  refine EV_copy (own := 1) (idx := 24) (pl := 432) (sp' := 0) (dp' := 0) (z' := 100) C hR rfl (by decide) (by decide +kernel) (by decide) (Nat.le_of_ble_eq_true rfl) rfl rfl (nI_toInt (by omega)) (nI_toInt (by omega)) (nI_toInt (by omega)) (by omega) (by omega) ?_
  refine EV_blk (own := 1) C rfl [(.aload_n 1, 0, 0, 0, 0), (.getfield 21, 1, 3, 178, 0), (.iconst 0, 0, 0, 0, (nI 0)), (.aload_n 0, 0, 0, 0, 0), (.getfield 21, 1, 3, 178, 0), (.iconst 0, 0, 0, 0, (nI 0)), (.bipush 100, 0, 0, 0, (nI 100))] (pc' := 58) (by decide +kernel) (lv' := [some (.ref 30), some (.ref 12)]) (st' := [.int (nI 100), .int (nI 0), .ref 34, .int (nI 0), .ref 16]) (I' := (tq_cp (tq_cp (tq_cp I 13 0 31 0 100) 14 0 32 0 700) 15 0 33 0 100)) (J' := J) rfl ?_
  refine EV_copy (own := 1) (idx := 24) (pl := 432) (sp' := 0) (dp' := 0) (z' := 100) C hR rfl (by decide) (by decide +kernel) (by decide) (Nat.le_of_ble_eq_true rfl) rfl rfl (nI_toInt (by omega)) (nI_toInt (by omega)) (nI_toInt (by omega)) (by omega) (by omega) ?_
  exact EV_vret C hZ rfl (by decide +kernel) (Nat.le_refl _) (Nat.le_refl _) ⟨rfl, rfl, rfl, rfl, rfl⟩
set_option maxRecDepth 20000 in
theorem c_X8_copyFrom_19_1 (g : tq_G) (rest : List tq_S) (I : tq_I) (J : Int64)  (hbd : I 5 5 = 0 ∨ I 5 5 = 1) : CT g mX8_copyFrom 4 0 0 [.ref 19, .ref 1] (tq_SC ++ rest) tq_RR I J (tq_ret (tq_SC ++ rest) tq_RR none (tq_cpSt I 19 1) J) := by
  refine CT.ret kX8_copyFrom (Nat.le_of_ble_eq_true rfl) (fun x0 C hR hZ => ?_)
  refine EV_en (lv' := [some (.ref 19), some (.ref 1)]) 0 rfl ?_
  refine EV_blk (own := 8) C rfl [(.aload_n 0, 0, 0, 0, 0), (.getfield 12, 8, 0, 190, 0), (.aload_n 1, 0, 0, 0, 0), (.getfield 12, 8, 0, 190, 0)] (pc' := 8) (by decide +kernel) (lv' := [some (.ref 19), some (.ref 1)]) (st' := [.ref 2, .ref 20]) (I' := I) (J' := J) rfl ?_
  refine EV_cV (own := 8) (idx := 32) (μ' := mX3_copyFrom) (b := 20) (cb := 3) (av := [.ref 2]) (rest := []) C hR rfl (Or.inl ⟨411, by decide⟩) kX3_copyFrom sX3_copyFrom (c_X3_copyFrom_20_2 g rest I J ) rfl rfl (by decide +kernel) rfl (by decide) (Nat.le_of_ble_eq_true rfl) rfl ⟨Nat.zero_le _, Nat.zero_le _⟩ ?_
  refine EV_blk (own := 8) C rfl [(.aload_n 0, 0, 0, 0, 0), (.getfield 21, 8, 1, 194, 0), (.aload_n 1, 0, 0, 0, 0), (.getfield 21, 8, 1, 194, 0)] (pc' := 19) (by decide +kernel) (lv' := [some (.ref 19), some (.ref 1)]) (st' := [.ref 5, .ref 23]) (I' := (tq_cpLand I 20 2)) (J' := J) rfl ?_
  refine EV_cV (own := 8) (idx := 36) (μ' := mX6_copyFrom) (b := 23) (cb := 6) (av := [.ref 5]) (rest := []) C hR rfl (Or.inl ⟨418, by decide⟩) kX6_copyFrom sX6_copyFrom (c_X6_copyFrom_23_5 g rest (tq_cpLand I 20 2) J hbd) rfl rfl (by decide +kernel) rfl (by decide) (Nat.le_of_ble_eq_true rfl) rfl ⟨Nat.zero_le _, Nat.zero_le _⟩ ?_
  refine EV_blk (own := 8) C rfl [(.aload_n 0, 0, 0, 0, 0), (.getfield 28, 8, 2, 197, 0), (.aload_n 1, 0, 0, 0, 0), (.getfield 28, 8, 2, 197, 0)] (pc' := 30) (by decide +kernel) (lv' := [some (.ref 19), some (.ref 1)]) (st' := [.ref 12, .ref 30]) (I' := (tq_cpRules (tq_cpLand I 20 2) 23 5)) (J' := J) rfl ?_
  refine EV_cV (own := 8) (idx := 39) (μ' := mX1_copyFrom) (b := 30) (cb := 1) (av := [.ref 12]) (rest := []) C hR rfl (Or.inl ⟨428, by decide⟩) kX1_copyFrom sX1_copyFrom (c_X1_copyFrom_30_12 g rest (tq_cpRules (tq_cpLand I 20 2) 23 5) J ) rfl rfl (by decide +kernel) rfl (by decide) (Nat.le_of_ble_eq_true rfl) rfl ⟨Nat.zero_le _, Nat.zero_le _⟩ ?_
  exact EV_vret C hZ rfl (by decide +kernel) (Nat.le_refl _) (Nat.le_refl _) ⟨rfl, rfl, rfl, rfl, rfl⟩
set_option maxRecDepth 20000 in
theorem c_X3_copyFrom_36_2 (g : tq_G) (rest : List tq_S) (I : tq_I) (J : Int64)   : CT g mX3_copyFrom 2 0 0 [.ref 36, .ref 2] (tq_SC ++ rest) tq_RR I J (tq_ret (tq_SC ++ rest) tq_RR none (tq_cpLand I 36 2) J) := by
  refine CT.ret kX3_copyFrom (Nat.le_of_ble_eq_true rfl) (fun x0 C hR hZ => ?_)
  refine EV_en (lv' := [some (.ref 36), some (.ref 2)]) 0 rfl ?_
  refine EV_blk (own := 3) C rfl [(.aload_n 0, 0, 0, 0, 0), (.aload_n 1, 0, 0, 0, 0), (.getfield 18, 3, 0, 95, 0), (.putfield 18, 3, 0, 95, 0), (.aload_n 0, 0, 0, 0, 0), (.aload_n 1, 0, 0, 0, 0), (.getfield 22, 3, 1, 99, 0), (.putfield 22, 3, 1, 99, 0), (.aload_n 1, 0, 0, 0, 0), (.getfield 9, 3, 2, 103, 0), (.iconst 0, 0, 0, 0, (nI 0)), (.aload_n 0, 0, 0, 0, 0), (.getfield 9, 3, 2, 103, 0), (.iconst 0, 0, 0, 0, (nI 0)), (.bipush 121, 0, 0, 0, (nI 121))] (pc' := 28) (by decide +kernel) (lv' := [some (.ref 36), some (.ref 2)]) (st' := [.int (nI 121), .int (nI 0), .ref 37, .int (nI 0), .ref 3]) (I' := (tq_u (tq_u I 36 0 (I 2 0)) 36 1 ((tq_u I 36 0 (I 2 0)) 2 1))) (J' := J) rfl ?_
  refine EV_copy (own := 3) (idx := 25) (pl := 415) (sp' := 0) (dp' := 0) (z' := 121) C hR rfl (by decide) (by decide +kernel) (by decide) (Nat.le_of_ble_eq_true rfl) rfl rfl (nI_toInt (by omega)) (nI_toInt (by omega)) (nI_toInt (by omega)) (by omega) (by omega) ?_
  refine EV_blk (own := 3) C rfl [(.aload_n 1, 0, 0, 0, 0), (.getfield 15, 3, 3, 106, 0), (.iconst 0, 0, 0, 0, (nI 0)), (.aload_n 0, 0, 0, 0, 0), (.getfield 15, 3, 3, 106, 0), (.iconst 0, 0, 0, 0, (nI 0)), (.bipush 100, 0, 0, 0, (nI 100))] (pc' := 43) (by decide +kernel) (lv' := [some (.ref 36), some (.ref 2)]) (st' := [.int (nI 100), .int (nI 0), .ref 38, .int (nI 0), .ref 4]) (I' := (tq_cp (tq_u (tq_u I 36 0 (I 2 0)) 36 1 ((tq_u I 36 0 (I 2 0)) 2 1)) 3 0 37 0 121)) (J' := J) rfl ?_
  refine EV_copy (own := 3) (idx := 25) (pl := 415) (sp' := 0) (dp' := 0) (z' := 100) C hR rfl (by decide) (by decide +kernel) (by decide) (Nat.le_of_ble_eq_true rfl) rfl rfl (nI_toInt (by omega)) (nI_toInt (by omega)) (nI_toInt (by omega)) (by omega) (by omega) ?_
  exact EV_vret C hZ rfl (by decide +kernel) (Nat.le_refl _) (Nat.le_refl _) ⟨rfl, rfl, rfl, rfl, rfl⟩
set_option maxRecDepth 20000 in
theorem c_X10_copyFrom_43_9 (g : tq_G) (rest : List tq_S) (I : tq_I) (J : Int64)   : CT g mX10_copyFrom 2 0 0 [.ref 43, .ref 9] (tq_SC ++ rest) tq_RR I J (tq_ret (tq_SC ++ rest) tq_RR none (tq_cpTiles I 43 9) J) := by
  refine CT.ret kX10_copyFrom (Nat.le_of_ble_eq_true rfl) (fun x0 C hR hZ => ?_)
  refine EV_en (lv' := [some (.ref 43), some (.ref 9)]) 0 rfl ?_
  refine EV_blk (own := 10) C rfl [(.aload_n 1, 0, 0, 0, 0), (.getfield 9, 10, 0, 131, 0), (.iconst 0, 0, 0, 0, (nI 0)), (.aload_n 0, 0, 0, 0, 0), (.getfield 9, 10, 0, 131, 0), (.iconst 0, 0, 0, 0, (nI 0)), (.bipush 6, 0, 0, 0, (nI 6))] (pc' := 12) (by decide +kernel) (lv' := [some (.ref 43), some (.ref 9)]) (st' := [.int (nI 6), .int (nI 0), .ref 44, .int (nI 0), .ref 10]) (I' := I) (J' := J) rfl ?_
  refine EV_copy (own := 10) (idx := 19) (pl := 427) (sp' := 0) (dp' := 0) (z' := 6) C hR rfl (by decide) (by decide +kernel) (by decide) (Nat.le_of_ble_eq_true rfl) rfl rfl (nI_toInt (by omega)) (nI_toInt (by omega)) (nI_toInt (by omega)) (by omega) (by omega) ?_
  refine EV_blk (own := 10) C rfl [(.aload_n 1, 0, 0, 0, 0), (.getfield 15, 10, 1, 132, 0), (.iconst 0, 0, 0, 0, (nI 0)), (.aload_n 0, 0, 0, 0, 0), (.getfield 15, 10, 1, 132, 0), (.iconst 0, 0, 0, 0, (nI 0)), (.bipush 96, 0, 0, 0, (nI 96))] (pc' := 27) (by decide +kernel) (lv' := [some (.ref 43), some (.ref 9)]) (st' := [.int (nI 96), .int (nI 0), .ref 45, .int (nI 0), .ref 11]) (I' := (tq_cp I 10 0 44 0 6)) (J' := J) rfl ?_
  refine EV_copy (own := 10) (idx := 19) (pl := 427) (sp' := 0) (dp' := 0) (z' := 96) C hR rfl (by decide) (by decide +kernel) (by decide) (Nat.le_of_ble_eq_true rfl) rfl rfl (nI_toInt (by omega)) (nI_toInt (by omega)) (nI_toInt (by omega)) (by omega) (by omega) ?_
  exact EV_vret C hZ rfl (by decide +kernel) (Nat.le_refl _) (Nat.le_refl _) ⟨rfl, rfl, rfl, rfl, rfl⟩
set_option maxRecDepth 20000 in
theorem c_X6_copyFrom_39_5 (g : tq_G) (rest : List tq_S) (I : tq_I) (J : Int64)  (hbd : I 5 5 = 0 ∨ I 5 5 = 1) : CT g mX6_copyFrom 3 0 0 [.ref 39, .ref 5] (tq_SC ++ rest) tq_RR I J (tq_ret (tq_SC ++ rest) tq_RR none (tq_cpRules I 39 5) J) := by
  refine CT.ret kX6_copyFrom (Nat.le_of_ble_eq_true rfl) (fun x0 C hR hZ => ?_)
  refine EV_en (lv' := [some (.ref 39), some (.ref 5)]) 0 rfl ?_
  refine EV_blk (own := 6) C rfl [(.aload_n 1, 0, 0, 0, 0), (.getfield 9, 6, 0, 142, 0), (.iconst 0, 0, 0, 0, (nI 0)), (.aload_n 0, 0, 0, 0, 0), (.getfield 9, 6, 0, 142, 0), (.iconst 0, 0, 0, 0, (nI 0)), (.bipush 6, 0, 0, 0, (nI 6))] (pc' := 12) (by decide +kernel) (lv' := [some (.ref 39), some (.ref 5)]) (st' := [.int (nI 6), .int (nI 0), .ref 40, .int (nI 0), .ref 6]) (I' := I) (J' := J) rfl ?_
  refine EV_copy (own := 6) (idx := 32) (pl := 422) (sp' := 0) (dp' := 0) (z' := 6) C hR rfl (by decide) (by decide +kernel) (by decide) (Nat.le_of_ble_eq_true rfl) rfl rfl (nI_toInt (by omega)) (nI_toInt (by omega)) (nI_toInt (by omega)) (by omega) (by omega) ?_
  refine EV_blk (own := 6) C rfl [(.aload_n 1, 0, 0, 0, 0), (.getfield 15, 6, 1, 143, 0), (.iconst 0, 0, 0, 0, (nI 0)), (.aload_n 0, 0, 0, 0, 0), (.getfield 15, 6, 1, 143, 0), (.iconst 0, 0, 0, 0, (nI 0)), (.bipush 6, 0, 0, 0, (nI 6))] (pc' := 27) (by decide +kernel) (lv' := [some (.ref 39), some (.ref 5)]) (st' := [.int (nI 6), .int (nI 0), .ref 41, .int (nI 0), .ref 7]) (I' := (tq_cp I 6 0 40 0 6)) (J' := J) rfl ?_
  refine EV_copy (own := 6) (idx := 32) (pl := 422) (sp' := 0) (dp' := 0) (z' := 6) C hR rfl (by decide) (by decide +kernel) (by decide) (Nat.le_of_ble_eq_true rfl) rfl rfl (nI_toInt (by omega)) (nI_toInt (by omega)) (nI_toInt (by omega)) (by omega) (by omega) ?_
  refine EV_blk (own := 6) C rfl [(.aload_n 1, 0, 0, 0, 0), (.getfield 18, 6, 2, 144, 0), (.iconst 0, 0, 0, 0, (nI 0)), (.aload_n 0, 0, 0, 0, 0), (.getfield 18, 6, 2, 144, 0), (.iconst 0, 0, 0, 0, (nI 0)), (.bipush 6, 0, 0, 0, (nI 6))] (pc' := 42) (by decide +kernel) (lv' := [some (.ref 39), some (.ref 5)]) (st' := [.int (nI 6), .int (nI 0), .ref 42, .int (nI 0), .ref 8]) (I' := (tq_cp (tq_cp I 6 0 40 0 6) 7 0 41 0 6)) (J' := J) rfl ?_
  refine EV_copy (own := 6) (idx := 32) (pl := 422) (sp' := 0) (dp' := 0) (z' := 6) C hR rfl (by decide) (by decide +kernel) (by decide) (Nat.le_of_ble_eq_true rfl) rfl rfl (nI_toInt (by omega)) (nI_toInt (by omega)) (nI_toInt (by omega)) (by omega) (by omega) ?_
  refine EV_blk (own := 6) C rfl [(.aload_n 0, 0, 0, 0, 0), (.getfield 24, 6, 3, 146, 0), (.aload_n 1, 0, 0, 0, 0), (.getfield 24, 6, 3, 146, 0)] (pc' := 53) (by decide +kernel) (lv' := [some (.ref 39), some (.ref 5)]) (st' := [.ref 9, .ref 43]) (I' := (tq_cp (tq_cp (tq_cp I 6 0 40 0 6) 7 0 41 0 6) 8 0 42 0 6)) (J' := J) rfl ?_
  refine EV_cV (own := 6) (idx := 38) (μ' := mX10_copyFrom) (b := 43) (cb := 10) (av := [.ref 9]) (rest := []) C hR rfl (Or.inl ⟨423, by decide⟩) kX10_copyFrom sX10_copyFrom (c_X10_copyFrom_43_9 g rest (tq_cp (tq_cp (tq_cp I 6 0 40 0 6) 7 0 41 0 6) 8 0 42 0 6) J ) rfl rfl (by decide +kernel) rfl (by decide) (Nat.le_of_ble_eq_true rfl) rfl ⟨Nat.zero_le _, Nat.zero_le _⟩ ?_
  refine EV_blk (own := 6) C rfl [(.aload_n 0, 0, 0, 0, 0), (.aload_n 1, 0, 0, 0, 0), (.getfield 42, 6, 4, 149, 0), (.putfield 42, 6, 4, 149, 0), (.aload_n 0, 0, 0, 0, 0), (.aload_n 1, 0, 0, 0, 0), (.getfield 46, 6, 5, 152, 0)] (pc' := 69) (by decide +kernel) (lv' := [some (.ref 39), some (.ref 5)]) (st' := [.int ((tq_u (tq_cpTiles (tq_cp (tq_cp (tq_cp I 6 0 40 0 6) 7 0 41 0 6) 8 0 42 0 6) 43 9) 39 4 ((tq_cpTiles (tq_cp (tq_cp (tq_cp I 6 0 40 0 6) 7 0 41 0 6) 8 0 42 0 6) 43 9) 5 4)) 5 5), .ref 39]) (I' := (tq_u (tq_cpTiles (tq_cp (tq_cp (tq_cp I 6 0 40 0 6) 7 0 41 0 6) 8 0 42 0 6) 43 9) 39 4 ((tq_cpTiles (tq_cp (tq_cp (tq_cp I 6 0 40 0 6) 7 0 41 0 6) 8 0 42 0 6) 43 9) 5 4))) (J' := J) rfl ?_
  refine EV_puti (own := 6) (idx := 46) (c := 6) (j := 5) (pl := 152) C rfl (Or.inl (by decide)) (by decide +kernel) rfl rfl (Or.inr ⟨rfl, hbd⟩) ?_
  exact EV_vret C hZ rfl (by decide +kernel) (Nat.le_refl _) (Nat.le_refl _) ⟨rfl, rfl, rfl, rfl, rfl⟩
set_option maxRecDepth 20000 in
theorem c_X1_copyFrom_46_12 (g : tq_G) (rest : List tq_S) (I : tq_I) (J : Int64)   : CT g mX1_copyFrom 2 0 0 [.ref 46, .ref 12] (tq_SC ++ rest) tq_RR I J (tq_ret (tq_SC ++ rest) tq_RR none (tq_cpCanvas I 46 12) J) := by
  refine CT.ret kX1_copyFrom (Nat.le_of_ble_eq_true rfl) (fun x0 C hR hZ => ?_)
  refine EV_en (lv' := [some (.ref 46), some (.ref 12)]) 0 rfl ?_
  refine EV_blk (own := 1) C rfl [(.aload_n 1, 0, 0, 0, 0), (.getfield 9, 1, 0, 173, 0), (.iconst 0, 0, 0, 0, (nI 0)), (.aload_n 0, 0, 0, 0, 0), (.getfield 9, 1, 0, 173, 0), (.iconst 0, 0, 0, 0, (nI 0)), (.bipush 100, 0, 0, 0, (nI 100))] (pc' := 12) (by decide +kernel) (lv' := [some (.ref 46), some (.ref 12)]) (st' := [.int (nI 100), .int (nI 0), .ref 47, .int (nI 0), .ref 13]) (I' := I) (J' := J) rfl ?_
  refine EV_copy (own := 1) (idx := 24) (pl := 432) (sp' := 0) (dp' := 0) (z' := 100) C hR rfl (by decide) (by decide +kernel) (by decide) (Nat.le_of_ble_eq_true rfl) rfl rfl (nI_toInt (by omega)) (nI_toInt (by omega)) (nI_toInt (by omega)) (by omega) (by omega) ?_
  refine EV_blk (own := 1) C rfl [(.aload_n 1, 0, 0, 0, 0), (.getfield 15, 1, 1, 176, 0), (.iconst 0, 0, 0, 0, (nI 0)), (.aload_n 0, 0, 0, 0, 0), (.getfield 15, 1, 1, 176, 0), (.iconst 0, 0, 0, 0, (nI 0)), (.sipush 700, 0, 0, 0, (nI 700))] (pc' := 28) (by decide +kernel) (lv' := [some (.ref 46), some (.ref 12)]) (st' := [.int (nI 700), .int (nI 0), .ref 48, .int (nI 0), .ref 14]) (I' := (tq_cp I 13 0 47 0 100)) (J' := J) rfl ?_
  refine EV_copy (own := 1) (idx := 24) (pl := 432) (sp' := 0) (dp' := 0) (z' := 700) C hR rfl (by decide) (by decide +kernel) (by decide) (Nat.le_of_ble_eq_true rfl) rfl rfl (nI_toInt (by omega)) (nI_toInt (by omega)) (nI_toInt (by omega)) (by omega) (by omega) ?_
  refine EV_blk (own := 1) C rfl [(.aload_n 1, 0, 0, 0, 0), (.getfield 18, 1, 2, 177, 0), (.iconst 0, 0, 0, 0, (nI 0)), (.aload_n 0, 0, 0, 0, 0), (.getfield 18, 1, 2, 177, 0), (.iconst 0, 0, 0, 0, (nI 0)), (.bipush 100, 0, 0, 0, (nI 100))] (pc' := 43) (by decide +kernel) (lv' := [some (.ref 46), some (.ref 12)]) (st' := [.int (nI 100), .int (nI 0), .ref 49, .int (nI 0), .ref 15]) (I' := (tq_cp (tq_cp I 13 0 47 0 100) 14 0 48 0 700)) (J' := J) rfl ?_
  refine EV_copy (own := 1) (idx := 24) (pl := 432) (sp' := 0) (dp' := 0) (z' := 100) C hR rfl (by decide) (by decide +kernel) (by decide) (Nat.le_of_ble_eq_true rfl) rfl rfl (nI_toInt (by omega)) (nI_toInt (by omega)) (nI_toInt (by omega)) (by omega) (by omega) ?_
  refine EV_blk (own := 1) C rfl [(.aload_n 1, 0, 0, 0, 0), (.getfield 21, 1, 3, 178, 0), (.iconst 0, 0, 0, 0, (nI 0)), (.aload_n 0, 0, 0, 0, 0), (.getfield 21, 1, 3, 178, 0), (.iconst 0, 0, 0, 0, (nI 0)), (.bipush 100, 0, 0, 0, (nI 100))] (pc' := 58) (by decide +kernel) (lv' := [some (.ref 46), some (.ref 12)]) (st' := [.int (nI 100), .int (nI 0), .ref 50, .int (nI 0), .ref 16]) (I' := (tq_cp (tq_cp (tq_cp I 13 0 47 0 100) 14 0 48 0 700) 15 0 49 0 100)) (J' := J) rfl ?_
  refine EV_copy (own := 1) (idx := 24) (pl := 432) (sp' := 0) (dp' := 0) (z' := 100) C hR rfl (by decide) (by decide +kernel) (by decide) (Nat.le_of_ble_eq_true rfl) rfl rfl (nI_toInt (by omega)) (nI_toInt (by omega)) (nI_toInt (by omega)) (by omega) (by omega) ?_
  exact EV_vret C hZ rfl (by decide +kernel) (Nat.le_refl _) (Nat.le_refl _) ⟨rfl, rfl, rfl, rfl, rfl⟩
set_option maxRecDepth 20000 in
theorem c_X8_copyFrom_35_1 (g : tq_G) (rest : List tq_S) (I : tq_I) (J : Int64)  (hbd : I 5 5 = 0 ∨ I 5 5 = 1) : CT g mX8_copyFrom 4 0 0 [.ref 35, .ref 1] (tq_SC ++ rest) tq_RR I J (tq_ret (tq_SC ++ rest) tq_RR none (tq_cpSt I 35 1) J) := by
  refine CT.ret kX8_copyFrom (Nat.le_of_ble_eq_true rfl) (fun x0 C hR hZ => ?_)
  refine EV_en (lv' := [some (.ref 35), some (.ref 1)]) 0 rfl ?_
  refine EV_blk (own := 8) C rfl [(.aload_n 0, 0, 0, 0, 0), (.getfield 12, 8, 0, 190, 0), (.aload_n 1, 0, 0, 0, 0), (.getfield 12, 8, 0, 190, 0)] (pc' := 8) (by decide +kernel) (lv' := [some (.ref 35), some (.ref 1)]) (st' := [.ref 2, .ref 36]) (I' := I) (J' := J) rfl ?_
  refine EV_cV (own := 8) (idx := 32) (μ' := mX3_copyFrom) (b := 36) (cb := 3) (av := [.ref 2]) (rest := []) C hR rfl (Or.inl ⟨411, by decide⟩) kX3_copyFrom sX3_copyFrom (c_X3_copyFrom_36_2 g rest I J ) rfl rfl (by decide +kernel) rfl (by decide) (Nat.le_of_ble_eq_true rfl) rfl ⟨Nat.zero_le _, Nat.zero_le _⟩ ?_
  refine EV_blk (own := 8) C rfl [(.aload_n 0, 0, 0, 0, 0), (.getfield 21, 8, 1, 194, 0), (.aload_n 1, 0, 0, 0, 0), (.getfield 21, 8, 1, 194, 0)] (pc' := 19) (by decide +kernel) (lv' := [some (.ref 35), some (.ref 1)]) (st' := [.ref 5, .ref 39]) (I' := (tq_cpLand I 36 2)) (J' := J) rfl ?_
  refine EV_cV (own := 8) (idx := 36) (μ' := mX6_copyFrom) (b := 39) (cb := 6) (av := [.ref 5]) (rest := []) C hR rfl (Or.inl ⟨418, by decide⟩) kX6_copyFrom sX6_copyFrom (c_X6_copyFrom_39_5 g rest (tq_cpLand I 36 2) J hbd) rfl rfl (by decide +kernel) rfl (by decide) (Nat.le_of_ble_eq_true rfl) rfl ⟨Nat.zero_le _, Nat.zero_le _⟩ ?_
  refine EV_blk (own := 8) C rfl [(.aload_n 0, 0, 0, 0, 0), (.getfield 28, 8, 2, 197, 0), (.aload_n 1, 0, 0, 0, 0), (.getfield 28, 8, 2, 197, 0)] (pc' := 30) (by decide +kernel) (lv' := [some (.ref 35), some (.ref 1)]) (st' := [.ref 12, .ref 46]) (I' := (tq_cpRules (tq_cpLand I 36 2) 39 5)) (J' := J) rfl ?_
  refine EV_cV (own := 8) (idx := 39) (μ' := mX1_copyFrom) (b := 46) (cb := 1) (av := [.ref 12]) (rest := []) C hR rfl (Or.inl ⟨428, by decide⟩) kX1_copyFrom sX1_copyFrom (c_X1_copyFrom_46_12 g rest (tq_cpRules (tq_cpLand I 36 2) 39 5) J ) rfl rfl (by decide +kernel) rfl (by decide) (Nat.le_of_ble_eq_true rfl) rfl ⟨Nat.zero_le _, Nat.zero_le _⟩ ?_
  exact EV_vret C hZ rfl (by decide +kernel) (Nat.le_refl _) (Nat.le_refl _) ⟨rfl, rfl, rfl, rfl, rfl⟩
set_option maxRecDepth 20000 in
theorem c_X3_copyFrom_52_2 (g : tq_G) (rest : List tq_S) (I : tq_I) (J : Int64)   : CT g mX3_copyFrom 2 0 0 [.ref 52, .ref 2] (tq_SC ++ rest) tq_RR I J (tq_ret (tq_SC ++ rest) tq_RR none (tq_cpLand I 52 2) J) := by
  refine CT.ret kX3_copyFrom (Nat.le_of_ble_eq_true rfl) (fun x0 C hR hZ => ?_)
  refine EV_en (lv' := [some (.ref 52), some (.ref 2)]) 0 rfl ?_
  refine EV_blk (own := 3) C rfl [(.aload_n 0, 0, 0, 0, 0), (.aload_n 1, 0, 0, 0, 0), (.getfield 18, 3, 0, 95, 0), (.putfield 18, 3, 0, 95, 0), (.aload_n 0, 0, 0, 0, 0), (.aload_n 1, 0, 0, 0, 0), (.getfield 22, 3, 1, 99, 0), (.putfield 22, 3, 1, 99, 0), (.aload_n 1, 0, 0, 0, 0), (.getfield 9, 3, 2, 103, 0), (.iconst 0, 0, 0, 0, (nI 0)), (.aload_n 0, 0, 0, 0, 0), (.getfield 9, 3, 2, 103, 0), (.iconst 0, 0, 0, 0, (nI 0)), (.bipush 121, 0, 0, 0, (nI 121))] (pc' := 28) (by decide +kernel) (lv' := [some (.ref 52), some (.ref 2)]) (st' := [.int (nI 121), .int (nI 0), .ref 53, .int (nI 0), .ref 3]) (I' := (tq_u (tq_u I 52 0 (I 2 0)) 52 1 ((tq_u I 52 0 (I 2 0)) 2 1))) (J' := J) rfl ?_
  refine EV_copy (own := 3) (idx := 25) (pl := 415) (sp' := 0) (dp' := 0) (z' := 121) C hR rfl (by decide) (by decide +kernel) (by decide) (Nat.le_of_ble_eq_true rfl) rfl rfl (nI_toInt (by omega)) (nI_toInt (by omega)) (nI_toInt (by omega)) (by omega) (by omega) ?_
  refine EV_blk (own := 3) C rfl [(.aload_n 1, 0, 0, 0, 0), (.getfield 15, 3, 3, 106, 0), (.iconst 0, 0, 0, 0, (nI 0)), (.aload_n 0, 0, 0, 0, 0), (.getfield 15, 3, 3, 106, 0), (.iconst 0, 0, 0, 0, (nI 0)), (.bipush 100, 0, 0, 0, (nI 100))] (pc' := 43) (by decide +kernel) (lv' := [some (.ref 52), some (.ref 2)]) (st' := [.int (nI 100), .int (nI 0), .ref 54, .int (nI 0), .ref 4]) (I' := (tq_cp (tq_u (tq_u I 52 0 (I 2 0)) 52 1 ((tq_u I 52 0 (I 2 0)) 2 1)) 3 0 53 0 121)) (J' := J) rfl ?_
  refine EV_copy (own := 3) (idx := 25) (pl := 415) (sp' := 0) (dp' := 0) (z' := 100) C hR rfl (by decide) (by decide +kernel) (by decide) (Nat.le_of_ble_eq_true rfl) rfl rfl (nI_toInt (by omega)) (nI_toInt (by omega)) (nI_toInt (by omega)) (by omega) (by omega) ?_
  exact EV_vret C hZ rfl (by decide +kernel) (Nat.le_refl _) (Nat.le_refl _) ⟨rfl, rfl, rfl, rfl, rfl⟩
set_option maxRecDepth 20000 in
theorem c_X10_copyFrom_59_9 (g : tq_G) (rest : List tq_S) (I : tq_I) (J : Int64)   : CT g mX10_copyFrom 2 0 0 [.ref 59, .ref 9] (tq_SC ++ rest) tq_RR I J (tq_ret (tq_SC ++ rest) tq_RR none (tq_cpTiles I 59 9) J) := by
  refine CT.ret kX10_copyFrom (Nat.le_of_ble_eq_true rfl) (fun x0 C hR hZ => ?_)
  refine EV_en (lv' := [some (.ref 59), some (.ref 9)]) 0 rfl ?_
  refine EV_blk (own := 10) C rfl [(.aload_n 1, 0, 0, 0, 0), (.getfield 9, 10, 0, 131, 0), (.iconst 0, 0, 0, 0, (nI 0)), (.aload_n 0, 0, 0, 0, 0), (.getfield 9, 10, 0, 131, 0), (.iconst 0, 0, 0, 0, (nI 0)), (.bipush 6, 0, 0, 0, (nI 6))] (pc' := 12) (by decide +kernel) (lv' := [some (.ref 59), some (.ref 9)]) (st' := [.int (nI 6), .int (nI 0), .ref 60, .int (nI 0), .ref 10]) (I' := I) (J' := J) rfl ?_
  refine EV_copy (own := 10) (idx := 19) (pl := 427) (sp' := 0) (dp' := 0) (z' := 6) C hR rfl (by decide) (by decide +kernel) (by decide) (Nat.le_of_ble_eq_true rfl) rfl rfl (nI_toInt (by omega)) (nI_toInt (by omega)) (nI_toInt (by omega)) (by omega) (by omega) ?_
  refine EV_blk (own := 10) C rfl [(.aload_n 1, 0, 0, 0, 0), (.getfield 15, 10, 1, 132, 0), (.iconst 0, 0, 0, 0, (nI 0)), (.aload_n 0, 0, 0, 0, 0), (.getfield 15, 10, 1, 132, 0), (.iconst 0, 0, 0, 0, (nI 0)), (.bipush 96, 0, 0, 0, (nI 96))] (pc' := 27) (by decide +kernel) (lv' := [some (.ref 59), some (.ref 9)]) (st' := [.int (nI 96), .int (nI 0), .ref 61, .int (nI 0), .ref 11]) (I' := (tq_cp I 10 0 60 0 6)) (J' := J) rfl ?_
  refine EV_copy (own := 10) (idx := 19) (pl := 427) (sp' := 0) (dp' := 0) (z' := 96) C hR rfl (by decide) (by decide +kernel) (by decide) (Nat.le_of_ble_eq_true rfl) rfl rfl (nI_toInt (by omega)) (nI_toInt (by omega)) (nI_toInt (by omega)) (by omega) (by omega) ?_
  exact EV_vret C hZ rfl (by decide +kernel) (Nat.le_refl _) (Nat.le_refl _) ⟨rfl, rfl, rfl, rfl, rfl⟩
set_option maxRecDepth 20000 in
theorem c_X6_copyFrom_55_5 (g : tq_G) (rest : List tq_S) (I : tq_I) (J : Int64)  (hbd : I 5 5 = 0 ∨ I 5 5 = 1) : CT g mX6_copyFrom 3 0 0 [.ref 55, .ref 5] (tq_SC ++ rest) tq_RR I J (tq_ret (tq_SC ++ rest) tq_RR none (tq_cpRules I 55 5) J) := by
  refine CT.ret kX6_copyFrom (Nat.le_of_ble_eq_true rfl) (fun x0 C hR hZ => ?_)
  refine EV_en (lv' := [some (.ref 55), some (.ref 5)]) 0 rfl ?_
  refine EV_blk (own := 6) C rfl [(.aload_n 1, 0, 0, 0, 0), (.getfield 9, 6, 0, 142, 0), (.iconst 0, 0, 0, 0, (nI 0)), (.aload_n 0, 0, 0, 0, 0), (.getfield 9, 6, 0, 142, 0), (.iconst 0, 0, 0, 0, (nI 0)), (.bipush 6, 0, 0, 0, (nI 6))] (pc' := 12) (by decide +kernel) (lv' := [some (.ref 55), some (.ref 5)]) (st' := [.int (nI 6), .int (nI 0), .ref 56, .int (nI 0), .ref 6]) (I' := I) (J' := J) rfl ?_
  refine EV_copy (own := 6) (idx := 32) (pl := 422) (sp' := 0) (dp' := 0) (z' := 6) C hR rfl (by decide) (by decide +kernel) (by decide) (Nat.le_of_ble_eq_true rfl) rfl rfl (nI_toInt (by omega)) (nI_toInt (by omega)) (nI_toInt (by omega)) (by omega) (by omega) ?_
  refine EV_blk (own := 6) C rfl [(.aload_n 1, 0, 0, 0, 0), (.getfield 15, 6, 1, 143, 0), (.iconst 0, 0, 0, 0, (nI 0)), (.aload_n 0, 0, 0, 0, 0), (.getfield 15, 6, 1, 143, 0), (.iconst 0, 0, 0, 0, (nI 0)), (.bipush 6, 0, 0, 0, (nI 6))] (pc' := 27) (by decide +kernel) (lv' := [some (.ref 55), some (.ref 5)]) (st' := [.int (nI 6), .int (nI 0), .ref 57, .int (nI 0), .ref 7]) (I' := (tq_cp I 6 0 56 0 6)) (J' := J) rfl ?_
  refine EV_copy (own := 6) (idx := 32) (pl := 422) (sp' := 0) (dp' := 0) (z' := 6) C hR rfl (by decide) (by decide +kernel) (by decide) (Nat.le_of_ble_eq_true rfl) rfl rfl (nI_toInt (by omega)) (nI_toInt (by omega)) (nI_toInt (by omega)) (by omega) (by omega) ?_
  refine EV_blk (own := 6) C rfl [(.aload_n 1, 0, 0, 0, 0), (.getfield 18, 6, 2, 144, 0), (.iconst 0, 0, 0, 0, (nI 0)), (.aload_n 0, 0, 0, 0, 0), (.getfield 18, 6, 2, 144, 0), (.iconst 0, 0, 0, 0, (nI 0)), (.bipush 6, 0, 0, 0, (nI 6))] (pc' := 42) (by decide +kernel) (lv' := [some (.ref 55), some (.ref 5)]) (st' := [.int (nI 6), .int (nI 0), .ref 58, .int (nI 0), .ref 8]) (I' := (tq_cp (tq_cp I 6 0 56 0 6) 7 0 57 0 6)) (J' := J) rfl ?_
  refine EV_copy (own := 6) (idx := 32) (pl := 422) (sp' := 0) (dp' := 0) (z' := 6) C hR rfl (by decide) (by decide +kernel) (by decide) (Nat.le_of_ble_eq_true rfl) rfl rfl (nI_toInt (by omega)) (nI_toInt (by omega)) (nI_toInt (by omega)) (by omega) (by omega) ?_
  refine EV_blk (own := 6) C rfl [(.aload_n 0, 0, 0, 0, 0), (.getfield 24, 6, 3, 146, 0), (.aload_n 1, 0, 0, 0, 0), (.getfield 24, 6, 3, 146, 0)] (pc' := 53) (by decide +kernel) (lv' := [some (.ref 55), some (.ref 5)]) (st' := [.ref 9, .ref 59]) (I' := (tq_cp (tq_cp (tq_cp I 6 0 56 0 6) 7 0 57 0 6) 8 0 58 0 6)) (J' := J) rfl ?_
  refine EV_cV (own := 6) (idx := 38) (μ' := mX10_copyFrom) (b := 59) (cb := 10) (av := [.ref 9]) (rest := []) C hR rfl (Or.inl ⟨423, by decide⟩) kX10_copyFrom sX10_copyFrom (c_X10_copyFrom_59_9 g rest (tq_cp (tq_cp (tq_cp I 6 0 56 0 6) 7 0 57 0 6) 8 0 58 0 6) J ) rfl rfl (by decide +kernel) rfl (by decide) (Nat.le_of_ble_eq_true rfl) rfl ⟨Nat.zero_le _, Nat.zero_le _⟩ ?_
  refine EV_blk (own := 6) C rfl [(.aload_n 0, 0, 0, 0, 0), (.aload_n 1, 0, 0, 0, 0), (.getfield 42, 6, 4, 149, 0), (.putfield 42, 6, 4, 149, 0), (.aload_n 0, 0, 0, 0, 0), (.aload_n 1, 0, 0, 0, 0), (.getfield 46, 6, 5, 152, 0)] (pc' := 69) (by decide +kernel) (lv' := [some (.ref 55), some (.ref 5)]) (st' := [.int ((tq_u (tq_cpTiles (tq_cp (tq_cp (tq_cp I 6 0 56 0 6) 7 0 57 0 6) 8 0 58 0 6) 59 9) 55 4 ((tq_cpTiles (tq_cp (tq_cp (tq_cp I 6 0 56 0 6) 7 0 57 0 6) 8 0 58 0 6) 59 9) 5 4)) 5 5), .ref 55]) (I' := (tq_u (tq_cpTiles (tq_cp (tq_cp (tq_cp I 6 0 56 0 6) 7 0 57 0 6) 8 0 58 0 6) 59 9) 55 4 ((tq_cpTiles (tq_cp (tq_cp (tq_cp I 6 0 56 0 6) 7 0 57 0 6) 8 0 58 0 6) 59 9) 5 4))) (J' := J) rfl ?_
  refine EV_puti (own := 6) (idx := 46) (c := 6) (j := 5) (pl := 152) C rfl (Or.inl (by decide)) (by decide +kernel) rfl rfl (Or.inr ⟨rfl, hbd⟩) ?_
  exact EV_vret C hZ rfl (by decide +kernel) (Nat.le_refl _) (Nat.le_refl _) ⟨rfl, rfl, rfl, rfl, rfl⟩
set_option maxRecDepth 20000 in
theorem c_X1_copyFrom_62_12 (g : tq_G) (rest : List tq_S) (I : tq_I) (J : Int64)   : CT g mX1_copyFrom 2 0 0 [.ref 62, .ref 12] (tq_SC ++ rest) tq_RR I J (tq_ret (tq_SC ++ rest) tq_RR none (tq_cpCanvas I 62 12) J) := by
  refine CT.ret kX1_copyFrom (Nat.le_of_ble_eq_true rfl) (fun x0 C hR hZ => ?_)
  refine EV_en (lv' := [some (.ref 62), some (.ref 12)]) 0 rfl ?_
  refine EV_blk (own := 1) C rfl [(.aload_n 1, 0, 0, 0, 0), (.getfield 9, 1, 0, 173, 0), (.iconst 0, 0, 0, 0, (nI 0)), (.aload_n 0, 0, 0, 0, 0), (.getfield 9, 1, 0, 173, 0), (.iconst 0, 0, 0, 0, (nI 0)), (.bipush 100, 0, 0, 0, (nI 100))] (pc' := 12) (by decide +kernel) (lv' := [some (.ref 62), some (.ref 12)]) (st' := [.int (nI 100), .int (nI 0), .ref 63, .int (nI 0), .ref 13]) (I' := I) (J' := J) rfl ?_
  refine EV_copy (own := 1) (idx := 24) (pl := 432) (sp' := 0) (dp' := 0) (z' := 100) C hR rfl (by decide) (by decide +kernel) (by decide) (Nat.le_of_ble_eq_true rfl) rfl rfl (nI_toInt (by omega)) (nI_toInt (by omega)) (nI_toInt (by omega)) (by omega) (by omega) ?_
  refine EV_blk (own := 1) C rfl [(.aload_n 1, 0, 0, 0, 0), (.getfield 15, 1, 1, 176, 0), (.iconst 0, 0, 0, 0, (nI 0)), (.aload_n 0, 0, 0, 0, 0), (.getfield 15, 1, 1, 176, 0), (.iconst 0, 0, 0, 0, (nI 0)), (.sipush 700, 0, 0, 0, (nI 700))] (pc' := 28) (by decide +kernel) (lv' := [some (.ref 62), some (.ref 12)]) (st' := [.int (nI 700), .int (nI 0), .ref 64, .int (nI 0), .ref 14]) (I' := (tq_cp I 13 0 63 0 100)) (J' := J) rfl ?_
  refine EV_copy (own := 1) (idx := 24) (pl := 432) (sp' := 0) (dp' := 0) (z' := 700) C hR rfl (by decide) (by decide +kernel) (by decide) (Nat.le_of_ble_eq_true rfl) rfl rfl (nI_toInt (by omega)) (nI_toInt (by omega)) (nI_toInt (by omega)) (by omega) (by omega) ?_
  refine EV_blk (own := 1) C rfl [(.aload_n 1, 0, 0, 0, 0), (.getfield 18, 1, 2, 177, 0), (.iconst 0, 0, 0, 0, (nI 0)), (.aload_n 0, 0, 0, 0, 0), (.getfield 18, 1, 2, 177, 0), (.iconst 0, 0, 0, 0, (nI 0)), (.bipush 100, 0, 0, 0, (nI 100))] (pc' := 43) (by decide +kernel) (lv' := [some (.ref 62), some (.ref 12)]) (st' := [.int (nI 100), .int (nI 0), .ref 65, .int (nI 0), .ref 15]) (I' := (tq_cp (tq_cp I 13 0 63 0 100) 14 0 64 0 700)) (J' := J) rfl ?_
  refine EV_copy (own := 1) (idx := 24) (pl := 432) (sp' := 0) (dp' := 0) (z' := 100) C hR rfl (by decide) (by decide +kernel) (by decide) (Nat.le_of_ble_eq_true rfl) rfl rfl (nI_toInt (by omega)) (nI_toInt (by omega)) (nI_toInt (by omega)) (by omega) (by omega) ?_
  refine EV_blk (own := 1) C rfl [(.aload_n 1, 0, 0, 0, 0), (.getfield 21, 1, 3, 178, 0), (.iconst 0, 0, 0, 0, (nI 0)), (.aload_n 0, 0, 0, 0, 0), (.getfield 21, 1, 3, 178, 0), (.iconst 0, 0, 0, 0, (nI 0)), (.bipush 100, 0, 0, 0, (nI 100))] (pc' := 58) (by decide +kernel) (lv' := [some (.ref 62), some (.ref 12)]) (st' := [.int (nI 100), .int (nI 0), .ref 66, .int (nI 0), .ref 16]) (I' := (tq_cp (tq_cp (tq_cp I 13 0 63 0 100) 14 0 64 0 700) 15 0 65 0 100)) (J' := J) rfl ?_
  refine EV_copy (own := 1) (idx := 24) (pl := 432) (sp' := 0) (dp' := 0) (z' := 100) C hR rfl (by decide) (by decide +kernel) (by decide) (Nat.le_of_ble_eq_true rfl) rfl rfl (nI_toInt (by omega)) (nI_toInt (by omega)) (nI_toInt (by omega)) (by omega) (by omega) ?_
  exact EV_vret C hZ rfl (by decide +kernel) (Nat.le_refl _) (Nat.le_refl _) ⟨rfl, rfl, rfl, rfl, rfl⟩
set_option maxRecDepth 20000 in
theorem c_X8_copyFrom_51_1 (g : tq_G) (rest : List tq_S) (I : tq_I) (J : Int64)  (hbd : I 5 5 = 0 ∨ I 5 5 = 1) : CT g mX8_copyFrom 4 0 0 [.ref 51, .ref 1] (tq_SC ++ rest) tq_RR I J (tq_ret (tq_SC ++ rest) tq_RR none (tq_cpSt I 51 1) J) := by
  refine CT.ret kX8_copyFrom (Nat.le_of_ble_eq_true rfl) (fun x0 C hR hZ => ?_)
  refine EV_en (lv' := [some (.ref 51), some (.ref 1)]) 0 rfl ?_
  refine EV_blk (own := 8) C rfl [(.aload_n 0, 0, 0, 0, 0), (.getfield 12, 8, 0, 190, 0), (.aload_n 1, 0, 0, 0, 0), (.getfield 12, 8, 0, 190, 0)] (pc' := 8) (by decide +kernel) (lv' := [some (.ref 51), some (.ref 1)]) (st' := [.ref 2, .ref 52]) (I' := I) (J' := J) rfl ?_
  refine EV_cV (own := 8) (idx := 32) (μ' := mX3_copyFrom) (b := 52) (cb := 3) (av := [.ref 2]) (rest := []) C hR rfl (Or.inl ⟨411, by decide⟩) kX3_copyFrom sX3_copyFrom (c_X3_copyFrom_52_2 g rest I J ) rfl rfl (by decide +kernel) rfl (by decide) (Nat.le_of_ble_eq_true rfl) rfl ⟨Nat.zero_le _, Nat.zero_le _⟩ ?_
  refine EV_blk (own := 8) C rfl [(.aload_n 0, 0, 0, 0, 0), (.getfield 21, 8, 1, 194, 0), (.aload_n 1, 0, 0, 0, 0), (.getfield 21, 8, 1, 194, 0)] (pc' := 19) (by decide +kernel) (lv' := [some (.ref 51), some (.ref 1)]) (st' := [.ref 5, .ref 55]) (I' := (tq_cpLand I 52 2)) (J' := J) rfl ?_
  refine EV_cV (own := 8) (idx := 36) (μ' := mX6_copyFrom) (b := 55) (cb := 6) (av := [.ref 5]) (rest := []) C hR rfl (Or.inl ⟨418, by decide⟩) kX6_copyFrom sX6_copyFrom (c_X6_copyFrom_55_5 g rest (tq_cpLand I 52 2) J hbd) rfl rfl (by decide +kernel) rfl (by decide) (Nat.le_of_ble_eq_true rfl) rfl ⟨Nat.zero_le _, Nat.zero_le _⟩ ?_
  refine EV_blk (own := 8) C rfl [(.aload_n 0, 0, 0, 0, 0), (.getfield 28, 8, 2, 197, 0), (.aload_n 1, 0, 0, 0, 0), (.getfield 28, 8, 2, 197, 0)] (pc' := 30) (by decide +kernel) (lv' := [some (.ref 51), some (.ref 1)]) (st' := [.ref 12, .ref 62]) (I' := (tq_cpRules (tq_cpLand I 52 2) 55 5)) (J' := J) rfl ?_
  refine EV_cV (own := 8) (idx := 39) (μ' := mX1_copyFrom) (b := 62) (cb := 1) (av := [.ref 12]) (rest := []) C hR rfl (Or.inl ⟨428, by decide⟩) kX1_copyFrom sX1_copyFrom (c_X1_copyFrom_62_12 g rest (tq_cpRules (tq_cpLand I 52 2) 55 5) J ) rfl rfl (by decide +kernel) rfl (by decide) (Nat.le_of_ble_eq_true rfl) rfl ⟨Nat.zero_le _, Nat.zero_le _⟩ ?_
  exact EV_vret C hZ rfl (by decide +kernel) (Nat.le_refl _) (Nat.le_refl _) ⟨rfl, rfl, rfl, rfl, rfl⟩
set_option maxRecDepth 20000 in
theorem c_X3_copyFrom_68_2 (g : tq_G) (rest : List tq_S) (I : tq_I) (J : Int64)   : CT g mX3_copyFrom 2 0 0 [.ref 68, .ref 2] (tq_SC ++ rest) tq_RR I J (tq_ret (tq_SC ++ rest) tq_RR none (tq_cpLand I 68 2) J) := by
  refine CT.ret kX3_copyFrom (Nat.le_of_ble_eq_true rfl) (fun x0 C hR hZ => ?_)
  refine EV_en (lv' := [some (.ref 68), some (.ref 2)]) 0 rfl ?_
  refine EV_blk (own := 3) C rfl [(.aload_n 0, 0, 0, 0, 0), (.aload_n 1, 0, 0, 0, 0), (.getfield 18, 3, 0, 95, 0), (.putfield 18, 3, 0, 95, 0), (.aload_n 0, 0, 0, 0, 0), (.aload_n 1, 0, 0, 0, 0), (.getfield 22, 3, 1, 99, 0), (.putfield 22, 3, 1, 99, 0), (.aload_n 1, 0, 0, 0, 0), (.getfield 9, 3, 2, 103, 0), (.iconst 0, 0, 0, 0, (nI 0)), (.aload_n 0, 0, 0, 0, 0), (.getfield 9, 3, 2, 103, 0), (.iconst 0, 0, 0, 0, (nI 0)), (.bipush 121, 0, 0, 0, (nI 121))] (pc' := 28) (by decide +kernel) (lv' := [some (.ref 68), some (.ref 2)]) (st' := [.int (nI 121), .int (nI 0), .ref 69, .int (nI 0), .ref 3]) (I' := (tq_u (tq_u I 68 0 (I 2 0)) 68 1 ((tq_u I 68 0 (I 2 0)) 2 1))) (J' := J) rfl ?_
  refine EV_copy (own := 3) (idx := 25) (pl := 415) (sp' := 0) (dp' := 0) (z' := 121) C hR rfl (by decide) (by decide +kernel) (by decide) (Nat.le_of_ble_eq_true rfl) rfl rfl (nI_toInt (by omega)) (nI_toInt (by omega)) (nI_toInt (by omega)) (by omega) (by omega) ?_
  refine EV_blk (own := 3) C rfl [(.aload_n 1, 0, 0, 0, 0), (.getfield 15, 3, 3, 106, 0), (.iconst 0, 0, 0, 0, (nI 0)), (.aload_n 0, 0, 0, 0, 0), (.getfield 15, 3, 3, 106, 0), (.iconst 0, 0, 0, 0, (nI 0)), (.bipush 100, 0, 0, 0, (nI 100))] (pc' := 43) (by decide +kernel) (lv' := [some (.ref 68), some (.ref 2)]) (st' := [.int (nI 100), .int (nI 0), .ref 70, .int (nI 0), .ref 4]) (I' := (tq_cp (tq_u (tq_u I 68 0 (I 2 0)) 68 1 ((tq_u I 68 0 (I 2 0)) 2 1)) 3 0 69 0 121)) (J' := J) rfl ?_
  refine EV_copy (own := 3) (idx := 25) (pl := 415) (sp' := 0) (dp' := 0) (z' := 100) C hR rfl (by decide) (by decide +kernel) (by decide) (Nat.le_of_ble_eq_true rfl) rfl rfl (nI_toInt (by omega)) (nI_toInt (by omega)) (nI_toInt (by omega)) (by omega) (by omega) ?_
  exact EV_vret C hZ rfl (by decide +kernel) (Nat.le_refl _) (Nat.le_refl _) ⟨rfl, rfl, rfl, rfl, rfl⟩
set_option maxRecDepth 20000 in
theorem c_X10_copyFrom_75_9 (g : tq_G) (rest : List tq_S) (I : tq_I) (J : Int64)   : CT g mX10_copyFrom 2 0 0 [.ref 75, .ref 9] (tq_SC ++ rest) tq_RR I J (tq_ret (tq_SC ++ rest) tq_RR none (tq_cpTiles I 75 9) J) := by
  refine CT.ret kX10_copyFrom (Nat.le_of_ble_eq_true rfl) (fun x0 C hR hZ => ?_)
  refine EV_en (lv' := [some (.ref 75), some (.ref 9)]) 0 rfl ?_
  refine EV_blk (own := 10) C rfl [(.aload_n 1, 0, 0, 0, 0), (.getfield 9, 10, 0, 131, 0), (.iconst 0, 0, 0, 0, (nI 0)), (.aload_n 0, 0, 0, 0, 0), (.getfield 9, 10, 0, 131, 0), (.iconst 0, 0, 0, 0, (nI 0)), (.bipush 6, 0, 0, 0, (nI 6))] (pc' := 12) (by decide +kernel) (lv' := [some (.ref 75), some (.ref 9)]) (st' := [.int (nI 6), .int (nI 0), .ref 76, .int (nI 0), .ref 10]) (I' := I) (J' := J) rfl ?_
  refine EV_copy (own := 10) (idx := 19) (pl := 427) (sp' := 0) (dp' := 0) (z' := 6) C hR rfl (by decide) (by decide +kernel) (by decide) (Nat.le_of_ble_eq_true rfl) rfl rfl (nI_toInt (by omega)) (nI_toInt (by omega)) (nI_toInt (by omega)) (by omega) (by omega) ?_
  refine EV_blk (own := 10) C rfl [(.aload_n 1, 0, 0, 0, 0), (.getfield 15, 10, 1, 132, 0), (.iconst 0, 0, 0, 0, (nI 0)), (.aload_n 0, 0, 0, 0, 0), (.getfield 15, 10, 1, 132, 0), (.iconst 0, 0, 0, 0, (nI 0)), (.bipush 96, 0, 0, 0, (nI 96))] (pc' := 27) (by decide +kernel) (lv' := [some (.ref 75), some (.ref 9)]) (st' := [.int (nI 96), .int (nI 0), .ref 77, .int (nI 0), .ref 11]) (I' := (tq_cp I 10 0 76 0 6)) (J' := J) rfl ?_
  refine EV_copy (own := 10) (idx := 19) (pl := 427) (sp' := 0) (dp' := 0) (z' := 96) C hR rfl (by decide) (by decide +kernel) (by decide) (Nat.le_of_ble_eq_true rfl) rfl rfl (nI_toInt (by omega)) (nI_toInt (by omega)) (nI_toInt (by omega)) (by omega) (by omega) ?_
  exact EV_vret C hZ rfl (by decide +kernel) (Nat.le_refl _) (Nat.le_refl _) ⟨rfl, rfl, rfl, rfl, rfl⟩
set_option maxRecDepth 20000 in
theorem c_X6_copyFrom_71_5 (g : tq_G) (rest : List tq_S) (I : tq_I) (J : Int64)  (hbd : I 5 5 = 0 ∨ I 5 5 = 1) : CT g mX6_copyFrom 3 0 0 [.ref 71, .ref 5] (tq_SC ++ rest) tq_RR I J (tq_ret (tq_SC ++ rest) tq_RR none (tq_cpRules I 71 5) J) := by
  refine CT.ret kX6_copyFrom (Nat.le_of_ble_eq_true rfl) (fun x0 C hR hZ => ?_)
  refine EV_en (lv' := [some (.ref 71), some (.ref 5)]) 0 rfl ?_
  refine EV_blk (own := 6) C rfl [(.aload_n 1, 0, 0, 0, 0), (.getfield 9, 6, 0, 142, 0), (.iconst 0, 0, 0, 0, (nI 0)), (.aload_n 0, 0, 0, 0, 0), (.getfield 9, 6, 0, 142, 0), (.iconst 0, 0, 0, 0, (nI 0)), (.bipush 6, 0, 0, 0, (nI 6))] (pc' := 12) (by decide +kernel) (lv' := [some (.ref 71), some (.ref 5)]) (st' := [.int (nI 6), .int (nI 0), .ref 72, .int (nI 0), .ref 6]) (I' := I) (J' := J) rfl ?_
  refine EV_copy (own := 6) (idx := 32) (pl := 422) (sp' := 0) (dp' := 0) (z' := 6) C hR rfl (by decide) (by decide +kernel) (by decide) (Nat.le_of_ble_eq_true rfl) rfl rfl (nI_toInt (by omega)) (nI_toInt (by omega)) (nI_toInt (by omega)) (by omega) (by omega) ?_
  refine EV_blk (own := 6) C rfl [(.aload_n 1, 0, 0, 0, 0), (.getfield 15, 6, 1, 143, 0), (.iconst 0, 0, 0, 0, (nI 0)), (.aload_n 0, 0, 0, 0, 0), (.getfield 15, 6, 1, 143, 0), (.iconst 0, 0, 0, 0, (nI 0)), (.bipush 6, 0, 0, 0, (nI 6))] (pc' := 27) (by decide +kernel) (lv' := [some (.ref 71), some (.ref 5)]) (st' := [.int (nI 6), .int (nI 0), .ref 73, .int (nI 0), .ref 7]) (I' := (tq_cp I 6 0 72 0 6)) (J' := J) rfl ?_
  refine EV_copy (own := 6) (idx := 32) (pl := 422) (sp' := 0) (dp' := 0) (z' := 6) C hR rfl (by decide) (by decide +kernel) (by decide) (Nat.le_of_ble_eq_true rfl) rfl rfl (nI_toInt (by omega)) (nI_toInt (by omega)) (nI_toInt (by omega)) (by omega) (by omega) ?_
  refine EV_blk (own := 6) C rfl [(.aload_n 1, 0, 0, 0, 0), (.getfield 18, 6, 2, 144, 0), (.iconst 0, 0, 0, 0, (nI 0)), (.aload_n 0, 0, 0, 0, 0), (.getfield 18, 6, 2, 144, 0), (.iconst 0, 0, 0, 0, (nI 0)), (.bipush 6, 0, 0, 0, (nI 6))] (pc' := 42) (by decide +kernel) (lv' := [some (.ref 71), some (.ref 5)]) (st' := [.int (nI 6), .int (nI 0), .ref 74, .int (nI 0), .ref 8]) (I' := (tq_cp (tq_cp I 6 0 72 0 6) 7 0 73 0 6)) (J' := J) rfl ?_
  refine EV_copy (own := 6) (idx := 32) (pl := 422) (sp' := 0) (dp' := 0) (z' := 6) C hR rfl (by decide) (by decide +kernel) (by decide) (Nat.le_of_ble_eq_true rfl) rfl rfl (nI_toInt (by omega)) (nI_toInt (by omega)) (nI_toInt (by omega)) (by omega) (by omega) ?_
  refine EV_blk (own := 6) C rfl [(.aload_n 0, 0, 0, 0, 0), (.getfield 24, 6, 3, 146, 0), (.aload_n 1, 0, 0, 0, 0), (.getfield 24, 6, 3, 146, 0)] (pc' := 53) (by decide +kernel) (lv' := [some (.ref 71), some (.ref 5)]) (st' := [.ref 9, .ref 75]) (I' := (tq_cp (tq_cp (tq_cp I 6 0 72 0 6) 7 0 73 0 6) 8 0 74 0 6)) (J' := J) rfl ?_
  refine EV_cV (own := 6) (idx := 38) (μ' := mX10_copyFrom) (b := 75) (cb := 10) (av := [.ref 9]) (rest := []) C hR rfl (Or.inl ⟨423, by decide⟩) kX10_copyFrom sX10_copyFrom (c_X10_copyFrom_75_9 g rest (tq_cp (tq_cp (tq_cp I 6 0 72 0 6) 7 0 73 0 6) 8 0 74 0 6) J ) rfl rfl (by decide +kernel) rfl (by decide) (Nat.le_of_ble_eq_true rfl) rfl ⟨Nat.zero_le _, Nat.zero_le _⟩ ?_
  refine EV_blk (own := 6) C rfl [(.aload_n 0, 0, 0, 0, 0), (.aload_n 1, 0, 0, 0, 0), (.getfield 42, 6, 4, 149, 0), (.putfield 42, 6, 4, 149, 0), (.aload_n 0, 0, 0, 0, 0), (.aload_n 1, 0, 0, 0, 0), (.getfield 46, 6, 5, 152, 0)] (pc' := 69) (by decide +kernel) (lv' := [some (.ref 71), some (.ref 5)]) (st' := [.int ((tq_u (tq_cpTiles (tq_cp (tq_cp (tq_cp I 6 0 72 0 6) 7 0 73 0 6) 8 0 74 0 6) 75 9) 71 4 ((tq_cpTiles (tq_cp (tq_cp (tq_cp I 6 0 72 0 6) 7 0 73 0 6) 8 0 74 0 6) 75 9) 5 4)) 5 5), .ref 71]) (I' := (tq_u (tq_cpTiles (tq_cp (tq_cp (tq_cp I 6 0 72 0 6) 7 0 73 0 6) 8 0 74 0 6) 75 9) 71 4 ((tq_cpTiles (tq_cp (tq_cp (tq_cp I 6 0 72 0 6) 7 0 73 0 6) 8 0 74 0 6) 75 9) 5 4))) (J' := J) rfl ?_
  refine EV_puti (own := 6) (idx := 46) (c := 6) (j := 5) (pl := 152) C rfl (Or.inl (by decide)) (by decide +kernel) rfl rfl (Or.inr ⟨rfl, hbd⟩) ?_
  exact EV_vret C hZ rfl (by decide +kernel) (Nat.le_refl _) (Nat.le_refl _) ⟨rfl, rfl, rfl, rfl, rfl⟩
set_option maxRecDepth 20000 in
theorem c_X1_copyFrom_78_12 (g : tq_G) (rest : List tq_S) (I : tq_I) (J : Int64)   : CT g mX1_copyFrom 2 0 0 [.ref 78, .ref 12] (tq_SC ++ rest) tq_RR I J (tq_ret (tq_SC ++ rest) tq_RR none (tq_cpCanvas I 78 12) J) := by
  refine CT.ret kX1_copyFrom (Nat.le_of_ble_eq_true rfl) (fun x0 C hR hZ => ?_)
  refine EV_en (lv' := [some (.ref 78), some (.ref 12)]) 0 rfl ?_
  refine EV_blk (own := 1) C rfl [(.aload_n 1, 0, 0, 0, 0), (.getfield 9, 1, 0, 173, 0), (.iconst 0, 0, 0, 0, (nI 0)), (.aload_n 0, 0, 0, 0, 0), (.getfield 9, 1, 0, 173, 0), (.iconst 0, 0, 0, 0, (nI 0)), (.bipush 100, 0, 0, 0, (nI 100))] (pc' := 12) (by decide +kernel) (lv' := [some (.ref 78), some (.ref 12)]) (st' := [.int (nI 100), .int (nI 0), .ref 79, .int (nI 0), .ref 13]) (I' := I) (J' := J) rfl ?_
  refine EV_copy (own := 1) (idx := 24) (pl := 432) (sp' := 0) (dp' := 0) (z' := 100) C hR rfl (by decide) (by decide +kernel) (by decide) (Nat.le_of_ble_eq_true rfl) rfl rfl (nI_toInt (by omega)) (nI_toInt (by omega)) (nI_toInt (by omega)) (by omega) (by omega) ?_
  refine EV_blk (own := 1) C rfl [(.aload_n 1, 0, 0, 0, 0), (.getfield 15, 1, 1, 176, 0), (.iconst 0, 0, 0, 0, (nI 0)), (.aload_n 0, 0, 0, 0, 0), (.getfield 15, 1, 1, 176, 0), (.iconst 0, 0, 0, 0, (nI 0)), (.sipush 700, 0, 0, 0, (nI 700))] (pc' := 28) (by decide +kernel) (lv' := [some (.ref 78), some (.ref 12)]) (st' := [.int (nI 700), .int (nI 0), .ref 80, .int (nI 0), .ref 14]) (I' := (tq_cp I 13 0 79 0 100)) (J' := J) rfl ?_
  refine EV_copy (own := 1) (idx := 24) (pl := 432) (sp' := 0) (dp' := 0) (z' := 700) C hR rfl (by decide) (by decide +kernel) (by decide) (Nat.le_of_ble_eq_true rfl) rfl rfl (nI_toInt (by omega)) (nI_toInt (by omega)) (nI_toInt (by omega)) (by omega) (by omega) ?_
  refine EV_blk (own := 1) C rfl [(.aload_n 1, 0, 0, 0, 0), (.getfield 18, 1, 2, 177, 0), (.iconst 0, 0, 0, 0, (nI 0)), (.aload_n 0, 0, 0, 0, 0), (.getfield 18, 1, 2, 177, 0), (.iconst 0, 0, 0, 0, (nI 0)), (.bipush 100, 0, 0, 0, (nI 100))] (pc' := 43) (by decide +kernel) (lv' := [some (.ref 78), some (.ref 12)]) (st' := [.int (nI 100), .int (nI 0), .ref 81, .int (nI 0), .ref 15]) (I' := (tq_cp (tq_cp I 13 0 79 0 100) 14 0 80 0 700)) (J' := J) rfl ?_
  refine EV_copy (own := 1) (idx := 24) (pl := 432) (sp' := 0) (dp' := 0) (z' := 100) C hR rfl (by decide) (by decide +kernel) (by decide) (Nat.le_of_ble_eq_true rfl) rfl rfl (nI_toInt (by omega)) (nI_toInt (by omega)) (nI_toInt (by omega)) (by omega) (by omega) ?_
  refine EV_blk (own := 1) C rfl [(.aload_n 1, 0, 0, 0, 0), (.getfield 21, 1, 3, 178, 0), (.iconst 0, 0, 0, 0, (nI 0)), (.aload_n 0, 0, 0, 0, 0), (.getfield 21, 1, 3, 178, 0), (.iconst 0, 0, 0, 0, (nI 0)), (.bipush 100, 0, 0, 0, (nI 100))] (pc' := 58) (by decide +kernel) (lv' := [some (.ref 78), some (.ref 12)]) (st' := [.int (nI 100), .int (nI 0), .ref 82, .int (nI 0), .ref 16]) (I' := (tq_cp (tq_cp (tq_cp I 13 0 79 0 100) 14 0 80 0 700) 15 0 81 0 100)) (J' := J) rfl ?_
  refine EV_copy (own := 1) (idx := 24) (pl := 432) (sp' := 0) (dp' := 0) (z' := 100) C hR rfl (by decide) (by decide +kernel) (by decide) (Nat.le_of_ble_eq_true rfl) rfl rfl (nI_toInt (by omega)) (nI_toInt (by omega)) (nI_toInt (by omega)) (by omega) (by omega) ?_
  exact EV_vret C hZ rfl (by decide +kernel) (Nat.le_refl _) (Nat.le_refl _) ⟨rfl, rfl, rfl, rfl, rfl⟩
set_option maxRecDepth 20000 in
theorem c_X8_copyFrom_67_1 (g : tq_G) (rest : List tq_S) (I : tq_I) (J : Int64)  (hbd : I 5 5 = 0 ∨ I 5 5 = 1) : CT g mX8_copyFrom 4 0 0 [.ref 67, .ref 1] (tq_SC ++ rest) tq_RR I J (tq_ret (tq_SC ++ rest) tq_RR none (tq_cpSt I 67 1) J) := by
  refine CT.ret kX8_copyFrom (Nat.le_of_ble_eq_true rfl) (fun x0 C hR hZ => ?_)
  refine EV_en (lv' := [some (.ref 67), some (.ref 1)]) 0 rfl ?_
  refine EV_blk (own := 8) C rfl [(.aload_n 0, 0, 0, 0, 0), (.getfield 12, 8, 0, 190, 0), (.aload_n 1, 0, 0, 0, 0), (.getfield 12, 8, 0, 190, 0)] (pc' := 8) (by decide +kernel) (lv' := [some (.ref 67), some (.ref 1)]) (st' := [.ref 2, .ref 68]) (I' := I) (J' := J) rfl ?_
  refine EV_cV (own := 8) (idx := 32) (μ' := mX3_copyFrom) (b := 68) (cb := 3) (av := [.ref 2]) (rest := []) C hR rfl (Or.inl ⟨411, by decide⟩) kX3_copyFrom sX3_copyFrom (c_X3_copyFrom_68_2 g rest I J ) rfl rfl (by decide +kernel) rfl (by decide) (Nat.le_of_ble_eq_true rfl) rfl ⟨Nat.zero_le _, Nat.zero_le _⟩ ?_
  refine EV_blk (own := 8) C rfl [(.aload_n 0, 0, 0, 0, 0), (.getfield 21, 8, 1, 194, 0), (.aload_n 1, 0, 0, 0, 0), (.getfield 21, 8, 1, 194, 0)] (pc' := 19) (by decide +kernel) (lv' := [some (.ref 67), some (.ref 1)]) (st' := [.ref 5, .ref 71]) (I' := (tq_cpLand I 68 2)) (J' := J) rfl ?_
  refine EV_cV (own := 8) (idx := 36) (μ' := mX6_copyFrom) (b := 71) (cb := 6) (av := [.ref 5]) (rest := []) C hR rfl (Or.inl ⟨418, by decide⟩) kX6_copyFrom sX6_copyFrom (c_X6_copyFrom_71_5 g rest (tq_cpLand I 68 2) J hbd) rfl rfl (by decide +kernel) rfl (by decide) (Nat.le_of_ble_eq_true rfl) rfl ⟨Nat.zero_le _, Nat.zero_le _⟩ ?_
  refine EV_blk (own := 8) C rfl [(.aload_n 0, 0, 0, 0, 0), (.getfield 28, 8, 2, 197, 0), (.aload_n 1, 0, 0, 0, 0), (.getfield 28, 8, 2, 197, 0)] (pc' := 30) (by decide +kernel) (lv' := [some (.ref 67), some (.ref 1)]) (st' := [.ref 12, .ref 78]) (I' := (tq_cpRules (tq_cpLand I 68 2) 71 5)) (J' := J) rfl ?_
  refine EV_cV (own := 8) (idx := 39) (μ' := mX1_copyFrom) (b := 78) (cb := 1) (av := [.ref 12]) (rest := []) C hR rfl (Or.inl ⟨428, by decide⟩) kX1_copyFrom sX1_copyFrom (c_X1_copyFrom_78_12 g rest (tq_cpRules (tq_cpLand I 68 2) 71 5) J ) rfl rfl (by decide +kernel) rfl (by decide) (Nat.le_of_ble_eq_true rfl) rfl ⟨Nat.zero_le _, Nat.zero_le _⟩ ?_
  exact EV_vret C hZ rfl (by decide +kernel) (Nat.le_refl _) (Nat.le_refl _) ⟨rfl, rfl, rfl, rfl, rfl⟩
set_option maxRecDepth 20000 in
theorem c_X3_copyFrom_84_2 (g : tq_G) (rest : List tq_S) (I : tq_I) (J : Int64)   : CT g mX3_copyFrom 2 0 0 [.ref 84, .ref 2] (tq_SC ++ rest) tq_RR I J (tq_ret (tq_SC ++ rest) tq_RR none (tq_cpLand I 84 2) J) := by
  refine CT.ret kX3_copyFrom (Nat.le_of_ble_eq_true rfl) (fun x0 C hR hZ => ?_)
  refine EV_en (lv' := [some (.ref 84), some (.ref 2)]) 0 rfl ?_
  refine EV_blk (own := 3) C rfl [(.aload_n 0, 0, 0, 0, 0), (.aload_n 1, 0, 0, 0, 0), (.getfield 18, 3, 0, 95, 0), (.putfield 18, 3, 0, 95, 0), (.aload_n 0, 0, 0, 0, 0), (.aload_n 1, 0, 0, 0, 0), (.getfield 22, 3, 1, 99, 0), (.putfield 22, 3, 1, 99, 0), (.aload_n 1, 0, 0, 0, 0), (.getfield 9, 3, 2, 103, 0), (.iconst 0, 0, 0, 0, (nI 0)), (.aload_n 0, 0, 0, 0, 0), (.getfield 9, 3, 2, 103, 0), (.iconst 0, 0, 0, 0, (nI 0)), (.bipush 121, 0, 0, 0, (nI 121))] (pc' := 28) (by decide +kernel) (lv' := [some (.ref 84), some (.ref 2)]) (st' := [.int (nI 121), .int (nI 0), .ref 85, .int (nI 0), .ref 3]) (I' := (tq_u (tq_u I 84 0 (I 2 0)) 84 1 ((tq_u I 84 0 (I 2 0)) 2 1))) (J' := J) rfl ?_
  refine EV_copy (own := 3) (idx := 25) (pl := 415) (sp' := 0) (dp' := 0) (z' := 121) C hR rfl (by decide) (by decide +kernel) (by decide) (Nat.le_of_ble_eq_true rfl) rfl rfl (nI_toInt (by omega)) (nI_toInt (by omega)) (nI_toInt (by omega)) (by omega) (by omega) ?_
  refine EV_blk (own := 3) C rfl [(.aload_n 1, 0, 0, 0, 0), (.getfield 15, 3, 3, 106, 0), (.iconst 0, 0, 0, 0, (nI 0)), (.aload_n 0, 0, 0, 0, 0), (.getfield 15, 3, 3, 106, 0), (.iconst 0, 0, 0, 0, (nI 0)), (.bipush 100, 0, 0, 0, (nI 100))] (pc' := 43) (by decide +kernel) (lv' := [some (.ref 84), some (.ref 2)]) (st' := [.int (nI 100), .int (nI 0), .ref 86, .int (nI 0), .ref 4]) (I' := (tq_cp (tq_u (tq_u I 84 0 (I 2 0)) 84 1 ((tq_u I 84 0 (I 2 0)) 2 1)) 3 0 85 0 121)) (J' := J) rfl ?_
  refine EV_copy (own := 3) (idx := 25) (pl := 415) (sp' := 0) (dp' := 0) (z' := 100) C hR rfl (by decide) (by decide +kernel) (by decide) (Nat.le_of_ble_eq_true rfl) rfl rfl (nI_toInt (by omega)) (nI_toInt (by omega)) (nI_toInt (by omega)) (by omega) (by omega) ?_
  exact EV_vret C hZ rfl (by decide +kernel) (Nat.le_refl _) (Nat.le_refl _) ⟨rfl, rfl, rfl, rfl, rfl⟩
set_option maxRecDepth 20000 in
theorem c_X10_copyFrom_91_9 (g : tq_G) (rest : List tq_S) (I : tq_I) (J : Int64)   : CT g mX10_copyFrom 2 0 0 [.ref 91, .ref 9] (tq_SC ++ rest) tq_RR I J (tq_ret (tq_SC ++ rest) tq_RR none (tq_cpTiles I 91 9) J) := by
  refine CT.ret kX10_copyFrom (Nat.le_of_ble_eq_true rfl) (fun x0 C hR hZ => ?_)
  refine EV_en (lv' := [some (.ref 91), some (.ref 9)]) 0 rfl ?_
  refine EV_blk (own := 10) C rfl [(.aload_n 1, 0, 0, 0, 0), (.getfield 9, 10, 0, 131, 0), (.iconst 0, 0, 0, 0, (nI 0)), (.aload_n 0, 0, 0, 0, 0), (.getfield 9, 10, 0, 131, 0), (.iconst 0, 0, 0, 0, (nI 0)), (.bipush 6, 0, 0, 0, (nI 6))] (pc' := 12) (by decide +kernel) (lv' := [some (.ref 91), some (.ref 9)]) (st' := [.int (nI 6), .int (nI 0), .ref 92, .int (nI 0), .ref 10]) (I' := I) (J' := J) rfl ?_
  refine EV_copy (own := 10) (idx := 19) (pl := 427) (sp' := 0) (dp' := 0) (z' := 6) C hR rfl (by decide) (by decide +kernel) (by decide) (Nat.le_of_ble_eq_true rfl) rfl rfl (nI_toInt (by omega)) (nI_toInt (by omega)) (nI_toInt (by omega)) (by omega) (by omega) ?_
  refine EV_blk (own := 10) C rfl [(.aload_n 1, 0, 0, 0, 0), (.getfield 15, 10, 1, 132, 0), (.iconst 0, 0, 0, 0, (nI 0)), (.aload_n 0, 0, 0, 0, 0), (.getfield 15, 10, 1, 132, 0), (.iconst 0, 0, 0, 0, (nI 0)), (.bipush 96, 0, 0, 0, (nI 96))] (pc' := 27) (by decide +kernel) (lv' := [some (.ref 91), some (.ref 9)]) (st' := [.int (nI 96), .int (nI 0), .ref 93, .int (nI 0), .ref 11]) (I' := (tq_cp I 10 0 92 0 6)) (J' := J) rfl ?_
  refine EV_copy (own := 10) (idx := 19) (pl := 427) (sp' := 0) (dp' := 0) (z' := 96) C hR rfl (by decide) (by decide +kernel) (by decide) (Nat.le_of_ble_eq_true rfl) rfl rfl (nI_toInt (by omega)) (nI_toInt (by omega)) (nI_toInt (by omega)) (by omega) (by omega) ?_
  exact EV_vret C hZ rfl (by decide +kernel) (Nat.le_refl _) (Nat.le_refl _) ⟨rfl, rfl, rfl, rfl, rfl⟩
set_option maxRecDepth 20000 in
theorem c_X6_copyFrom_87_5 (g : tq_G) (rest : List tq_S) (I : tq_I) (J : Int64)  (hbd : I 5 5 = 0 ∨ I 5 5 = 1) : CT g mX6_copyFrom 3 0 0 [.ref 87, .ref 5] (tq_SC ++ rest) tq_RR I J (tq_ret (tq_SC ++ rest) tq_RR none (tq_cpRules I 87 5) J) := by
  refine CT.ret kX6_copyFrom (Nat.le_of_ble_eq_true rfl) (fun x0 C hR hZ => ?_)
  refine EV_en (lv' := [some (.ref 87), some (.ref 5)]) 0 rfl ?_
  refine EV_blk (own := 6) C rfl [(.aload_n 1, 0, 0, 0, 0), (.getfield 9, 6, 0, 142, 0), (.iconst 0, 0, 0, 0, (nI 0)), (.aload_n 0, 0, 0, 0, 0), (.getfield 9, 6, 0, 142, 0), (.iconst 0, 0, 0, 0, (nI 0)), (.bipush 6, 0, 0, 0, (nI 6))] (pc' := 12) (by decide +kernel) (lv' := [some (.ref 87), some (.ref 5)]) (st' := [.int (nI 6), .int (nI 0), .ref 88, .int (nI 0), .ref 6]) (I' := I) (J' := J) rfl ?_
  refine EV_copy (own := 6) (idx := 32) (pl := 422) (sp' := 0) (dp' := 0) (z' := 6) C hR rfl (by decide) (by decide +kernel) (by decide) (Nat.le_of_ble_eq_true rfl) rfl rfl (nI_toInt (by omega)) (nI_toInt (by omega)) (nI_toInt (by omega)) (by omega) (by omega) ?_
  refine EV_blk (own := 6) C rfl [(.aload_n 1, 0, 0, 0, 0), (.getfield 15, 6, 1, 143, 0), (.iconst 0, 0, 0, 0, (nI 0)), (.aload_n 0, 0, 0, 0, 0), (.getfield 15, 6, 1, 143, 0), (.iconst 0, 0, 0, 0, (nI 0)), (.bipush 6, 0, 0, 0, (nI 6))] (pc' := 27) (by decide +kernel) (lv' := [some (.ref 87), some (.ref 5)]) (st' := [.int (nI 6), .int (nI 0), .ref 89, .int (nI 0), .ref 7]) (I' := (tq_cp I 6 0 88 0 6)) (J' := J) rfl ?_
  refine EV_copy (own := 6) (idx := 32) (pl := 422) (sp' := 0) (dp' := 0) (z' := 6) C hR rfl (by decide) (by decide +kernel) (by decide) (Nat.le_of_ble_eq_true rfl) rfl rfl (nI_toInt (by omega)) (nI_toInt (by omega)) (nI_toInt (by omega)) (by omega) (by omega) ?_
  refine EV_blk (own := 6) C rfl [(.aload_n 1, 0, 0, 0, 0), (.getfield 18, 6, 2, 144, 0), (.iconst 0, 0, 0, 0, (nI 0)), (.aload_n 0, 0, 0, 0, 0), (.getfield 18, 6, 2, 144, 0), (.iconst 0, 0, 0, 0, (nI 0)), (.bipush 6, 0, 0, 0, (nI 6))] (pc' := 42) (by decide +kernel) (lv' := [some (.ref 87), some (.ref 5)]) (st' := [.int (nI 6), .int (nI 0), .ref 90, .int (nI 0), .ref 8]) (I' := (tq_cp (tq_cp I 6 0 88 0 6) 7 0 89 0 6)) (J' := J) rfl ?_
  refine EV_copy (own := 6) (idx := 32) (pl := 422) (sp' := 0) (dp' := 0) (z' := 6) C hR rfl (by decide) (by decide +kernel) (by decide) (Nat.le_of_ble_eq_true rfl) rfl rfl (nI_toInt (by omega)) (nI_toInt (by omega)) (nI_toInt (by omega)) (by omega) (by omega) ?_
  refine EV_blk (own := 6) C rfl [(.aload_n 0, 0, 0, 0, 0), (.getfield 24, 6, 3, 146, 0), (.aload_n 1, 0, 0, 0, 0), (.getfield 24, 6, 3, 146, 0)] (pc' := 53) (by decide +kernel) (lv' := [some (.ref 87), some (.ref 5)]) (st' := [.ref 9, .ref 91]) (I' := (tq_cp (tq_cp (tq_cp I 6 0 88 0 6) 7 0 89 0 6) 8 0 90 0 6)) (J' := J) rfl ?_
  refine EV_cV (own := 6) (idx := 38) (μ' := mX10_copyFrom) (b := 91) (cb := 10) (av := [.ref 9]) (rest := []) C hR rfl (Or.inl ⟨423, by decide⟩) kX10_copyFrom sX10_copyFrom (c_X10_copyFrom_91_9 g rest (tq_cp (tq_cp (tq_cp I 6 0 88 0 6) 7 0 89 0 6) 8 0 90 0 6) J ) rfl rfl (by decide +kernel) rfl (by decide) (Nat.le_of_ble_eq_true rfl) rfl ⟨Nat.zero_le _, Nat.zero_le _⟩ ?_
  refine EV_blk (own := 6) C rfl [(.aload_n 0, 0, 0, 0, 0), (.aload_n 1, 0, 0, 0, 0), (.getfield 42, 6, 4, 149, 0), (.putfield 42, 6, 4, 149, 0), (.aload_n 0, 0, 0, 0, 0), (.aload_n 1, 0, 0, 0, 0), (.getfield 46, 6, 5, 152, 0)] (pc' := 69) (by decide +kernel) (lv' := [some (.ref 87), some (.ref 5)]) (st' := [.int ((tq_u (tq_cpTiles (tq_cp (tq_cp (tq_cp I 6 0 88 0 6) 7 0 89 0 6) 8 0 90 0 6) 91 9) 87 4 ((tq_cpTiles (tq_cp (tq_cp (tq_cp I 6 0 88 0 6) 7 0 89 0 6) 8 0 90 0 6) 91 9) 5 4)) 5 5), .ref 87]) (I' := (tq_u (tq_cpTiles (tq_cp (tq_cp (tq_cp I 6 0 88 0 6) 7 0 89 0 6) 8 0 90 0 6) 91 9) 87 4 ((tq_cpTiles (tq_cp (tq_cp (tq_cp I 6 0 88 0 6) 7 0 89 0 6) 8 0 90 0 6) 91 9) 5 4))) (J' := J) rfl ?_
  refine EV_puti (own := 6) (idx := 46) (c := 6) (j := 5) (pl := 152) C rfl (Or.inl (by decide)) (by decide +kernel) rfl rfl (Or.inr ⟨rfl, hbd⟩) ?_
  exact EV_vret C hZ rfl (by decide +kernel) (Nat.le_refl _) (Nat.le_refl _) ⟨rfl, rfl, rfl, rfl, rfl⟩
set_option maxRecDepth 20000 in
theorem c_X1_copyFrom_94_12 (g : tq_G) (rest : List tq_S) (I : tq_I) (J : Int64)   : CT g mX1_copyFrom 2 0 0 [.ref 94, .ref 12] (tq_SC ++ rest) tq_RR I J (tq_ret (tq_SC ++ rest) tq_RR none (tq_cpCanvas I 94 12) J) := by
  refine CT.ret kX1_copyFrom (Nat.le_of_ble_eq_true rfl) (fun x0 C hR hZ => ?_)
  refine EV_en (lv' := [some (.ref 94), some (.ref 12)]) 0 rfl ?_
  refine EV_blk (own := 1) C rfl [(.aload_n 1, 0, 0, 0, 0), (.getfield 9, 1, 0, 173, 0), (.iconst 0, 0, 0, 0, (nI 0)), (.aload_n 0, 0, 0, 0, 0), (.getfield 9, 1, 0, 173, 0), (.iconst 0, 0, 0, 0, (nI 0)), (.bipush 100, 0, 0, 0, (nI 100))] (pc' := 12) (by decide +kernel) (lv' := [some (.ref 94), some (.ref 12)]) (st' := [.int (nI 100), .int (nI 0), .ref 95, .int (nI 0), .ref 13]) (I' := I) (J' := J) rfl ?_
  refine EV_copy (own := 1) (idx := 24) (pl := 432) (sp' := 0) (dp' := 0) (z' := 100) C hR rfl (by decide) (by decide +kernel) (by decide) (Nat.le_of_ble_eq_true rfl) rfl rfl (nI_toInt (by omega)) (nI_toInt (by omega)) (nI_toInt (by omega)) (by omega) (by omega) ?_
  refine EV_blk (own := 1) C rfl [(.aload_n 1, 0, 0, 0, 0), (.getfield 15, 1, 1, 176, 0), (.iconst 0, 0, 0, 0, (nI 0)), (.aload_n 0, 0, 0, 0, 0), (.getfield 15, 1, 1, 176, 0), (.iconst 0, 0, 0, 0, (nI 0)), (.sipush 700, 0, 0, 0, (nI 700))] (pc' := 28) (by decide +kernel) (lv' := [some (.ref 94), some (.ref 12)]) (st' := [.int (nI 700), .int (nI 0), .ref 96, .int (nI 0), .ref 14]) (I' := (tq_cp I 13 0 95 0 100)) (J' := J) rfl ?_
  refine EV_copy (own := 1) (idx := 24) (pl := 432) (sp' := 0) (dp' := 0) (z' := 700) C hR rfl (by decide) (by decide +kernel) (by decide) (Nat.le_of_ble_eq_true rfl) rfl rfl (nI_toInt (by omega)) (nI_toInt (by omega)) (nI_toInt (by omega)) (by omega) (by omega) ?_
  refine EV_blk (own := 1) C rfl [(.aload_n 1, 0, 0, 0, 0), (.getfield 18, 1, 2, 177, 0), (.iconst 0, 0, 0, 0, (nI 0)), (.aload_n 0, 0, 0, 0, 0), (.getfield 18, 1, 2, 177, 0), (.iconst 0, 0, 0, 0, (nI 0)), (.bipush 100, 0, 0, 0, (nI 100))] (pc' := 43) (by decide +kernel) (lv' := [some (.ref 94), some (.ref 12)]) (st' := [.int (nI 100), .int (nI 0), .ref 97, .int (nI 0), .ref 15]) (I' := (tq_cp (tq_cp I 13 0 95 0 100) 14 0 96 0 700)) (J' := J) rfl ?_
  refine EV_copy (own := 1) (idx := 24) (pl := 432) (sp' := 0) (dp' := 0) (z' := 100) C hR rfl (by decide) (by decide +kernel) (by decide) (Nat.le_of_ble_eq_true rfl) rfl rfl (nI_toInt (by omega)) (nI_toInt (by omega)) (nI_toInt (by omega)) (by omega) (by omega) ?_
  refine EV_blk (own := 1) C rfl [(.aload_n 1, 0, 0, 0, 0), (.getfield 21, 1, 3, 178, 0), (.iconst 0, 0, 0, 0, (nI 0)), (.aload_n 0, 0, 0, 0, 0), (.getfield 21, 1, 3, 178, 0), (.iconst 0, 0, 0, 0, (nI 0)), (.bipush 100, 0, 0, 0, (nI 100))] (pc' := 58) (by decide +kernel) (lv' := [some (.ref 94), some (.ref 12)]) (st' := [.int (nI 100), .int (nI 0), .ref 98, .int (nI 0), .ref 16]) (I' := (tq_cp (tq_cp (tq_cp I 13 0 95 0 100) 14 0 96 0 700) 15 0 97 0 100)) (J' := J) rfl ?_
  refine EV_copy (own := 1) (idx := 24) (pl := 432) (sp' := 0) (dp' := 0) (z' := 100) C hR rfl (by decide) (by decide +kernel) (by decide) (Nat.le_of_ble_eq_true rfl) rfl rfl (nI_toInt (by omega)) (nI_toInt (by omega)) (nI_toInt (by omega)) (by omega) (by omega) ?_
  exact EV_vret C hZ rfl (by decide +kernel) (Nat.le_refl _) (Nat.le_refl _) ⟨rfl, rfl, rfl, rfl, rfl⟩
set_option maxRecDepth 20000 in
theorem c_X8_copyFrom_83_1 (g : tq_G) (rest : List tq_S) (I : tq_I) (J : Int64)  (hbd : I 5 5 = 0 ∨ I 5 5 = 1) : CT g mX8_copyFrom 4 0 0 [.ref 83, .ref 1] (tq_SC ++ rest) tq_RR I J (tq_ret (tq_SC ++ rest) tq_RR none (tq_cpSt I 83 1) J) := by
  refine CT.ret kX8_copyFrom (Nat.le_of_ble_eq_true rfl) (fun x0 C hR hZ => ?_)
  refine EV_en (lv' := [some (.ref 83), some (.ref 1)]) 0 rfl ?_
  refine EV_blk (own := 8) C rfl [(.aload_n 0, 0, 0, 0, 0), (.getfield 12, 8, 0, 190, 0), (.aload_n 1, 0, 0, 0, 0), (.getfield 12, 8, 0, 190, 0)] (pc' := 8) (by decide +kernel) (lv' := [some (.ref 83), some (.ref 1)]) (st' := [.ref 2, .ref 84]) (I' := I) (J' := J) rfl ?_
  refine EV_cV (own := 8) (idx := 32) (μ' := mX3_copyFrom) (b := 84) (cb := 3) (av := [.ref 2]) (rest := []) C hR rfl (Or.inl ⟨411, by decide⟩) kX3_copyFrom sX3_copyFrom (c_X3_copyFrom_84_2 g rest I J ) rfl rfl (by decide +kernel) rfl (by decide) (Nat.le_of_ble_eq_true rfl) rfl ⟨Nat.zero_le _, Nat.zero_le _⟩ ?_
  refine EV_blk (own := 8) C rfl [(.aload_n 0, 0, 0, 0, 0), (.getfield 21, 8, 1, 194, 0), (.aload_n 1, 0, 0, 0, 0), (.getfield 21, 8, 1, 194, 0)] (pc' := 19) (by decide +kernel) (lv' := [some (.ref 83), some (.ref 1)]) (st' := [.ref 5, .ref 87]) (I' := (tq_cpLand I 84 2)) (J' := J) rfl ?_
  refine EV_cV (own := 8) (idx := 36) (μ' := mX6_copyFrom) (b := 87) (cb := 6) (av := [.ref 5]) (rest := []) C hR rfl (Or.inl ⟨418, by decide⟩) kX6_copyFrom sX6_copyFrom (c_X6_copyFrom_87_5 g rest (tq_cpLand I 84 2) J hbd) rfl rfl (by decide +kernel) rfl (by decide) (Nat.le_of_ble_eq_true rfl) rfl ⟨Nat.zero_le _, Nat.zero_le _⟩ ?_
  refine EV_blk (own := 8) C rfl [(.aload_n 0, 0, 0, 0, 0), (.getfield 28, 8, 2, 197, 0), (.aload_n 1, 0, 0, 0, 0), (.getfield 28, 8, 2, 197, 0)] (pc' := 30) (by decide +kernel) (lv' := [some (.ref 83), some (.ref 1)]) (st' := [.ref 12, .ref 94]) (I' := (tq_cpRules (tq_cpLand I 84 2) 87 5)) (J' := J) rfl ?_
  refine EV_cV (own := 8) (idx := 39) (μ' := mX1_copyFrom) (b := 94) (cb := 1) (av := [.ref 12]) (rest := []) C hR rfl (Or.inl ⟨428, by decide⟩) kX1_copyFrom sX1_copyFrom (c_X1_copyFrom_94_12 g rest (tq_cpRules (tq_cpLand I 84 2) 87 5) J ) rfl rfl (by decide +kernel) rfl (by decide) (Nat.le_of_ble_eq_true rfl) rfl ⟨Nat.zero_le _, Nat.zero_le _⟩ ?_
  exact EV_vret C hZ rfl (by decide +kernel) (Nat.le_refl _) (Nat.le_refl _) ⟨rfl, rfl, rfl, rfl, rfl⟩
set_option maxRecDepth 20000 in
theorem c_X3_copyFrom_2_20 (g : tq_G) (rest : List tq_S) (I : tq_I) (J : Int64)   : CT g mX3_copyFrom 2 0 0 [.ref 2, .ref 20] (tq_SC ++ rest) tq_RR I J (tq_ret (tq_SC ++ rest) tq_RR none (tq_cpLand I 2 20) J) := by
  refine CT.ret kX3_copyFrom (Nat.le_of_ble_eq_true rfl) (fun x0 C hR hZ => ?_)
  refine EV_en (lv' := [some (.ref 2), some (.ref 20)]) 0 rfl ?_
  refine EV_blk (own := 3) C rfl [(.aload_n 0, 0, 0, 0, 0), (.aload_n 1, 0, 0, 0, 0), (.getfield 18, 3, 0, 95, 0), (.putfield 18, 3, 0, 95, 0), (.aload_n 0, 0, 0, 0, 0), (.aload_n 1, 0, 0, 0, 0), (.getfield 22, 3, 1, 99, 0), (.putfield 22, 3, 1, 99, 0), (.aload_n 1, 0, 0, 0, 0), (.getfield 9, 3, 2, 103, 0), (.iconst 0, 0, 0, 0, (nI 0)), (.aload_n 0, 0, 0, 0, 0), (.getfield 9, 3, 2, 103, 0), (.iconst 0, 0, 0, 0, (nI 0)), (.bipush 121, 0, 0, 0, (nI 121))] (pc' := 28) (by decide +kernel) (lv' := [some (.ref 2), some (.ref 20)]) (st' := [.int (nI 121), .int (nI 0), .ref 3, .int (nI 0), .ref 21]) (I' := (tq_u (tq_u I 2 0 (I 20 0)) 2 1 ((tq_u I 2 0 (I 20 0)) 20 1))) (J' := J) rfl ?_
  refine EV_copy (own := 3) (idx := 25) (pl := 415) (sp' := 0) (dp' := 0) (z' := 121) C hR rfl (by decide) (by decide +kernel) (by decide) (Nat.le_of_ble_eq_true rfl) rfl rfl (nI_toInt (by omega)) (nI_toInt (by omega)) (nI_toInt (by omega)) (by omega) (by omega) ?_
  refine EV_blk (own := 3) C rfl [(.aload_n 1, 0, 0, 0, 0), (.getfield 15, 3, 3, 106, 0), (.iconst 0, 0, 0, 0, (nI 0)), (.aload_n 0, 0, 0, 0, 0), (.getfield 15, 3, 3, 106, 0), (.iconst 0, 0, 0, 0, (nI 0)), (.bipush 100, 0, 0, 0, (nI 100))] (pc' := 43) (by decide +kernel) (lv' := [some (.ref 2), some (.ref 20)]) (st' := [.int (nI 100), .int (nI 0), .ref 4, .int (nI 0), .ref 22]) (I' := (tq_cp (tq_u (tq_u I 2 0 (I 20 0)) 2 1 ((tq_u I 2 0 (I 20 0)) 20 1)) 21 0 3 0 121)) (J' := J) rfl ?_
  refine EV_copy (own := 3) (idx := 25) (pl := 415) (sp' := 0) (dp' := 0) (z' := 100) C hR rfl (by decide) (by decide +kernel) (by decide) (Nat.le_of_ble_eq_true rfl) rfl rfl (nI_toInt (by omega)) (nI_toInt (by omega)) (nI_toInt (by omega)) (by omega) (by omega) ?_
  exact EV_vret C hZ rfl (by decide +kernel) (Nat.le_refl _) (Nat.le_refl _) ⟨rfl, rfl, rfl, rfl, rfl⟩
set_option maxRecDepth 20000 in
theorem c_X10_copyFrom_9_27 (g : tq_G) (rest : List tq_S) (I : tq_I) (J : Int64)   : CT g mX10_copyFrom 2 0 0 [.ref 9, .ref 27] (tq_SC ++ rest) tq_RR I J (tq_ret (tq_SC ++ rest) tq_RR none (tq_cpTiles I 9 27) J) := by
  refine CT.ret kX10_copyFrom (Nat.le_of_ble_eq_true rfl) (fun x0 C hR hZ => ?_)
  refine EV_en (lv' := [some (.ref 9), some (.ref 27)]) 0 rfl ?_
  refine EV_blk (own := 10) C rfl [(.aload_n 1, 0, 0, 0, 0), (.getfield 9, 10, 0, 131, 0), (.iconst 0, 0, 0, 0, (nI 0)), (.aload_n 0, 0, 0, 0, 0), (.getfield 9, 10, 0, 131, 0), (.iconst 0, 0, 0, 0, (nI 0)), (.bipush 6, 0, 0, 0, (nI 6))] (pc' := 12) (by decide +kernel) (lv' := [some (.ref 9), some (.ref 27)]) (st' := [.int (nI 6), .int (nI 0), .ref 10, .int (nI 0), .ref 28]) (I' := I) (J' := J) rfl ?_
  refine EV_copy (own := 10) (idx := 19) (pl := 427) (sp' := 0) (dp' := 0) (z' := 6) C hR rfl (by decide) (by decide +kernel) (by decide) (Nat.le_of_ble_eq_true rfl) rfl rfl (nI_toInt (by omega)) (nI_toInt (by omega)) (nI_toInt (by omega)) (by omega) (by omega) ?_
  refine EV_blk (own := 10) C rfl [(.aload_n 1, 0, 0, 0, 0), (.getfield 15, 10, 1, 132, 0), (.iconst 0, 0, 0, 0, (nI 0)), (.aload_n 0, 0, 0, 0, 0), (.getfield 15, 10, 1, 132, 0), (.iconst 0, 0, 0, 0, (nI 0)), (.bipush 96, 0, 0, 0, (nI 96))] (pc' := 27) (by decide +kernel) (lv' := [some (.ref 9), some (.ref 27)]) (st' := [.int (nI 96), .int (nI 0), .ref 11, .int (nI 0), .ref 29]) (I' := (tq_cp I 28 0 10 0 6)) (J' := J) rfl ?_
  refine EV_copy (own := 10) (idx := 19) (pl := 427) (sp' := 0) (dp' := 0) (z' := 96) C hR rfl (by decide) (by decide +kernel) (by decide) (Nat.le_of_ble_eq_true rfl) rfl rfl (nI_toInt (by omega)) (nI_toInt (by omega)) (nI_toInt (by omega)) (by omega) (by omega) ?_
  exact EV_vret C hZ rfl (by decide +kernel) (Nat.le_refl _) (Nat.le_refl _) ⟨rfl, rfl, rfl, rfl, rfl⟩
set_option maxRecDepth 20000 in
theorem c_X6_copyFrom_5_23 (g : tq_G) (rest : List tq_S) (I : tq_I) (J : Int64)  (hbd : I 23 5 = 0 ∨ I 23 5 = 1) : CT g mX6_copyFrom 3 0 0 [.ref 5, .ref 23] (tq_SC ++ rest) tq_RR I J (tq_ret (tq_SC ++ rest) tq_RR none (tq_cpRules I 5 23) J) := by
  refine CT.ret kX6_copyFrom (Nat.le_of_ble_eq_true rfl) (fun x0 C hR hZ => ?_)
  refine EV_en (lv' := [some (.ref 5), some (.ref 23)]) 0 rfl ?_
  refine EV_blk (own := 6) C rfl [(.aload_n 1, 0, 0, 0, 0), (.getfield 9, 6, 0, 142, 0), (.iconst 0, 0, 0, 0, (nI 0)), (.aload_n 0, 0, 0, 0, 0), (.getfield 9, 6, 0, 142, 0), (.iconst 0, 0, 0, 0, (nI 0)), (.bipush 6, 0, 0, 0, (nI 6))] (pc' := 12) (by decide +kernel) (lv' := [some (.ref 5), some (.ref 23)]) (st' := [.int (nI 6), .int (nI 0), .ref 6, .int (nI 0), .ref 24]) (I' := I) (J' := J) rfl ?_
  refine EV_copy (own := 6) (idx := 32) (pl := 422) (sp' := 0) (dp' := 0) (z' := 6) C hR rfl (by decide) (by decide +kernel) (by decide) (Nat.le_of_ble_eq_true rfl) rfl rfl (nI_toInt (by omega)) (nI_toInt (by omega)) (nI_toInt (by omega)) (by omega) (by omega) ?_
  refine EV_blk (own := 6) C rfl [(.aload_n 1, 0, 0, 0, 0), (.getfield 15, 6, 1, 143, 0), (.iconst 0, 0, 0, 0, (nI 0)), (.aload_n 0, 0, 0, 0, 0), (.getfield 15, 6, 1, 143, 0), (.iconst 0, 0, 0, 0, (nI 0)), (.bipush 6, 0, 0, 0, (nI 6))] (pc' := 27) (by decide +kernel) (lv' := [some (.ref 5), some (.ref 23)]) (st' := [.int (nI 6), .int (nI 0), .ref 7, .int (nI 0), .ref 25]) (I' := (tq_cp I 24 0 6 0 6)) (J' := J) rfl ?_
  refine EV_copy (own := 6) (idx := 32) (pl := 422) (sp' := 0) (dp' := 0) (z' := 6) C hR rfl (by decide) (by decide +kernel) (by decide) (Nat.le_of_ble_eq_true rfl) rfl rfl (nI_toInt (by omega)) (nI_toInt (by omega)) (nI_toInt (by omega)) (by omega) (by omega) ?_
  refine EV_blk (own := 6) C rfl [(.aload_n 1, 0, 0, 0, 0), (.getfield 18, 6, 2, 144, 0), (.iconst 0, 0, 0, 0, (nI 0)), (.aload_n 0, 0, 0, 0, 0), (.getfield 18, 6, 2, 144, 0), (.iconst 0, 0, 0, 0, (nI 0)), (.bipush 6, 0, 0, 0, (nI 6))] (pc' := 42) (by decide +kernel) (lv' := [some (.ref 5), some (.ref 23)]) (st' := [.int (nI 6), .int (nI 0), .ref 8, .int (nI 0), .ref 26]) (I' := (tq_cp (tq_cp I 24 0 6 0 6) 25 0 7 0 6)) (J' := J) rfl ?_
  refine EV_copy (own := 6) (idx := 32) (pl := 422) (sp' := 0) (dp' := 0) (z' := 6) C hR rfl (by decide) (by decide +kernel) (by decide) (Nat.le_of_ble_eq_true rfl) rfl rfl (nI_toInt (by omega)) (nI_toInt (by omega)) (nI_toInt (by omega)) (by omega) (by omega) ?_
  refine EV_blk (own := 6) C rfl [(.aload_n 0, 0, 0, 0, 0), (.getfield 24, 6, 3, 146, 0), (.aload_n 1, 0, 0, 0, 0), (.getfield 24, 6, 3, 146, 0)] (pc' := 53) (by decide +kernel) (lv' := [some (.ref 5), some (.ref 23)]) (st' := [.ref 27, .ref 9]) (I' := (tq_cp (tq_cp (tq_cp I 24 0 6 0 6) 25 0 7 0 6) 26 0 8 0 6)) (J' := J) rfl ?_
  refine EV_cV (own := 6) (idx := 38) (μ' := mX10_copyFrom) (b := 9) (cb := 10) (av := [.ref 27]) (rest := []) C hR rfl (Or.inl ⟨423, by decide⟩) kX10_copyFrom sX10_copyFrom (c_X10_copyFrom_9_27 g rest (tq_cp (tq_cp (tq_cp I 24 0 6 0 6) 25 0 7 0 6) 26 0 8 0 6) J ) rfl rfl (by decide +kernel) rfl (by decide) (Nat.le_of_ble_eq_true rfl) rfl ⟨Nat.zero_le _, Nat.zero_le _⟩ ?_
  refine EV_blk (own := 6) C rfl [(.aload_n 0, 0, 0, 0, 0), (.aload_n 1, 0, 0, 0, 0), (.getfield 42, 6, 4, 149, 0), (.putfield 42, 6, 4, 149, 0), (.aload_n 0, 0, 0, 0, 0), (.aload_n 1, 0, 0, 0, 0), (.getfield 46, 6, 5, 152, 0)] (pc' := 69) (by decide +kernel) (lv' := [some (.ref 5), some (.ref 23)]) (st' := [.int ((tq_u (tq_cpTiles (tq_cp (tq_cp (tq_cp I 24 0 6 0 6) 25 0 7 0 6) 26 0 8 0 6) 9 27) 5 4 ((tq_cpTiles (tq_cp (tq_cp (tq_cp I 24 0 6 0 6) 25 0 7 0 6) 26 0 8 0 6) 9 27) 23 4)) 23 5), .ref 5]) (I' := (tq_u (tq_cpTiles (tq_cp (tq_cp (tq_cp I 24 0 6 0 6) 25 0 7 0 6) 26 0 8 0 6) 9 27) 5 4 ((tq_cpTiles (tq_cp (tq_cp (tq_cp I 24 0 6 0 6) 25 0 7 0 6) 26 0 8 0 6) 9 27) 23 4))) (J' := J) rfl ?_
  refine EV_puti (own := 6) (idx := 46) (c := 6) (j := 5) (pl := 152) C rfl (Or.inl (by decide)) (by decide +kernel) rfl rfl (Or.inr ⟨rfl, hbd⟩) ?_
  exact EV_vret C hZ rfl (by decide +kernel) (Nat.le_refl _) (Nat.le_refl _) ⟨rfl, rfl, rfl, rfl, rfl⟩
set_option maxRecDepth 20000 in
theorem c_X1_copyFrom_12_30 (g : tq_G) (rest : List tq_S) (I : tq_I) (J : Int64)   : CT g mX1_copyFrom 2 0 0 [.ref 12, .ref 30] (tq_SC ++ rest) tq_RR I J (tq_ret (tq_SC ++ rest) tq_RR none (tq_cpCanvas I 12 30) J) := by
  refine CT.ret kX1_copyFrom (Nat.le_of_ble_eq_true rfl) (fun x0 C hR hZ => ?_)
  refine EV_en (lv' := [some (.ref 12), some (.ref 30)]) 0 rfl ?_
  refine EV_blk (own := 1) C rfl [(.aload_n 1, 0, 0, 0, 0), (.getfield 9, 1, 0, 173, 0), (.iconst 0, 0, 0, 0, (nI 0)), (.aload_n 0, 0, 0, 0, 0), (.getfield 9, 1, 0, 173, 0), (.iconst 0, 0, 0, 0, (nI 0)), (.bipush 100, 0, 0, 0, (nI 100))] (pc' := 12) (by decide +kernel) (lv' := [some (.ref 12), some (.ref 30)]) (st' := [.int (nI 100), .int (nI 0), .ref 13, .int (nI 0), .ref 31]) (I' := I) (J' := J) rfl ?_
  refine EV_copy (own := 1) (idx := 24) (pl := 432) (sp' := 0) (dp' := 0) (z' := 100) C hR rfl (by decide) (by decide +kernel) (by decide) (Nat.le_of_ble_eq_true rfl) rfl rfl (nI_toInt (by omega)) (nI_toInt (by omega)) (nI_toInt (by omega)) (by omega) (by omega) ?_
  refine EV_blk (own := 1) C rfl [(.aload_n 1, 0, 0, 0, 0), (.getfield 15, 1, 1, 176, 0), (.iconst 0, 0, 0, 0, (nI 0)), (.aload_n 0, 0, 0, 0, 0), (.getfield 15, 1, 1, 176, 0), (.iconst 0, 0, 0, 0, (nI 0)), (.sipush 700, 0, 0, 0, (nI 700))] (pc' := 28) (by decide +kernel) (lv' := [some (.ref 12), some (.ref 30)]) (st' := [.int (nI 700), .int (nI 0), .ref 14, .int (nI 0), .ref 32]) (I' := (tq_cp I 31 0 13 0 100)) (J' := J) rfl ?_
  refine EV_copy (own := 1) (idx := 24) (pl := 432) (sp' := 0) (dp' := 0) (z' := 700) C hR rfl (by decide) (by decide +kernel) (by decide) (Nat.le_of_ble_eq_true rfl) rfl rfl (nI_toInt (by omega)) (nI_toInt (by omega)) (nI_toInt (by omega)) (by omega) (by omega) ?_
  refine EV_blk (own := 1) C rfl [(.aload_n 1, 0, 0, 0, 0), (.getfield 18, 1, 2, 177, 0), (.iconst 0, 0, 0, 0, (nI 0)), (.aload_n 0, 0, 0, 0, 0), (.getfield 18, 1, 2, 177, 0), (.iconst 0, 0, 0, 0, (nI 0)), (.bipush 100, 0, 0, 0, (nI 100))] (pc' := 43) (by decide +kernel) (lv' := [some (.ref 12), some (.ref 30)]) (st' := [.int (nI 100), .int (nI 0), .ref 15, .int (nI 0), .ref 33]) (I' := (tq_cp (tq_cp I 31 0 13 0 100) 32 0 14 0 700)) (J' := J) rfl ?_
  refine EV_copy (own := 1) (idx := 24) (pl := 432) (sp' := 0) (dp' := 0) (z' := 100) C hR rfl (by decide) (by decide +kernel) (by decide) (Nat.le_of_ble_eq_true rfl) rfl rfl (nI_toInt (by omega)) (nI_toInt (by omega)) (nI_toInt (by omega)) (by omega) (by omega) ?_
  refine EV_blk (own := 1) C rfl [(.aload_n 1, 0, 0, 0, 0), (.getfield 21, 1, 3, 178, 0), (.iconst 0, 0, 0, 0, (nI 0)), (.aload_n 0, 0, 0, 0, 0), (.getfield 21, 1, 3, 178, 0), (.iconst 0, 0, 0, 0, (nI 0)), (.bipush 100, 0, 0, 0, (nI 100))] (pc' := 58) (by decide +kernel) (lv' := [some (.ref 12), some (.ref 30)]) (st' := [.int (nI 100), .int (nI 0), .ref 16, .int (nI 0), .ref 34]) (I' := (tq_cp (tq_cp (tq_cp I 31 0 13 0 100) 32 0 14 0 700) 33 0 15 0 100)) (J' := J) rfl ?_
  refine EV_copy (own := 1) (idx := 24) (pl := 432) (sp' := 0) (dp' := 0) (z' := 100) C hR rfl (by decide) (by decide +kernel) (by decide) (Nat.le_of_ble_eq_true rfl) rfl rfl (nI_toInt (by omega)) (nI_toInt (by omega)) (nI_toInt (by omega)) (by omega) (by omega) ?_
  exact EV_vret C hZ rfl (by decide +kernel) (Nat.le_refl _) (Nat.le_refl _) ⟨rfl, rfl, rfl, rfl, rfl⟩
set_option maxRecDepth 20000 in
theorem c_X8_copyFrom_1_19 (g : tq_G) (rest : List tq_S) (I : tq_I) (J : Int64)  (hbd : I 23 5 = 0 ∨ I 23 5 = 1) : CT g mX8_copyFrom 4 0 0 [.ref 1, .ref 19] (tq_SC ++ rest) tq_RR I J (tq_ret (tq_SC ++ rest) tq_RR none (tq_cpSt I 1 19) J) := by
  refine CT.ret kX8_copyFrom (Nat.le_of_ble_eq_true rfl) (fun x0 C hR hZ => ?_)
  refine EV_en (lv' := [some (.ref 1), some (.ref 19)]) 0 rfl ?_
  refine EV_blk (own := 8) C rfl [(.aload_n 0, 0, 0, 0, 0), (.getfield 12, 8, 0, 190, 0), (.aload_n 1, 0, 0, 0, 0), (.getfield 12, 8, 0, 190, 0)] (pc' := 8) (by decide +kernel) (lv' := [some (.ref 1), some (.ref 19)]) (st' := [.ref 20, .ref 2]) (I' := I) (J' := J) rfl ?_
  refine EV_cV (own := 8) (idx := 32) (μ' := mX3_copyFrom) (b := 2) (cb := 3) (av := [.ref 20]) (rest := []) C hR rfl (Or.inl ⟨411, by decide⟩) kX3_copyFrom sX3_copyFrom (c_X3_copyFrom_2_20 g rest I J ) rfl rfl (by decide +kernel) rfl (by decide) (Nat.le_of_ble_eq_true rfl) rfl ⟨Nat.zero_le _, Nat.zero_le _⟩ ?_
  refine EV_blk (own := 8) C rfl [(.aload_n 0, 0, 0, 0, 0), (.getfield 21, 8, 1, 194, 0), (.aload_n 1, 0, 0, 0, 0), (.getfield 21, 8, 1, 194, 0)] (pc' := 19) (by decide +kernel) (lv' := [some (.ref 1), some (.ref 19)]) (st' := [.ref 23, .ref 5]) (I' := (tq_cpLand I 2 20)) (J' := J) rfl ?_
  refine EV_cV (own := 8) (idx := 36) (μ' := mX6_copyFrom) (b := 5) (cb := 6) (av := [.ref 23]) (rest := []) C hR rfl (Or.inl ⟨418, by decide⟩) kX6_copyFrom sX6_copyFrom (c_X6_copyFrom_5_23 g rest (tq_cpLand I 2 20) J hbd) rfl rfl (by decide +kernel) rfl (by decide) (Nat.le_of_ble_eq_true rfl) rfl ⟨Nat.zero_le _, Nat.zero_le _⟩ ?_
  refine EV_blk (own := 8) C rfl [(.aload_n 0, 0, 0, 0, 0), (.getfield 28, 8, 2, 197, 0), (.aload_n 1, 0, 0, 0, 0), (.getfield 28, 8, 2, 197, 0)] (pc' := 30) (by decide +kernel) (lv' := [some (.ref 1), some (.ref 19)]) (st' := [.ref 30, .ref 12]) (I' := (tq_cpRules (tq_cpLand I 2 20) 5 23)) (J' := J) rfl ?_
  refine EV_cV (own := 8) (idx := 39) (μ' := mX1_copyFrom) (b := 12) (cb := 1) (av := [.ref 30]) (rest := []) C hR rfl (Or.inl ⟨428, by decide⟩) kX1_copyFrom sX1_copyFrom (c_X1_copyFrom_12_30 g rest (tq_cpRules (tq_cpLand I 2 20) 5 23) J ) rfl rfl (by decide +kernel) rfl (by decide) (Nat.le_of_ble_eq_true rfl) rfl ⟨Nat.zero_le _, Nat.zero_le _⟩ ?_
  exact EV_vret C hZ rfl (by decide +kernel) (Nat.le_refl _) (Nat.le_refl _) ⟨rfl, rfl, rfl, rfl, rfl⟩
set_option maxRecDepth 20000 in
theorem c_X3_copyFrom_2_36 (g : tq_G) (rest : List tq_S) (I : tq_I) (J : Int64)   : CT g mX3_copyFrom 2 0 0 [.ref 2, .ref 36] (tq_SC ++ rest) tq_RR I J (tq_ret (tq_SC ++ rest) tq_RR none (tq_cpLand I 2 36) J) := by
  refine CT.ret kX3_copyFrom (Nat.le_of_ble_eq_true rfl) (fun x0 C hR hZ => ?_)
  refine EV_en (lv' := [some (.ref 2), some (.ref 36)]) 0 rfl ?_
  refine EV_blk (own := 3) C rfl [(.aload_n 0, 0, 0, 0, 0), (.aload_n 1, 0, 0, 0, 0), (.getfield 18, 3, 0, 95, 0), (.putfield 18, 3, 0, 95, 0), (.aload_n 0, 0, 0, 0, 0), (.aload_n 1, 0, 0, 0, 0), (.getfield 22, 3, 1, 99, 0), (.putfield 22, 3, 1, 99, 0), (.aload_n 1, 0, 0, 0, 0), (.getfield 9, 3, 2, 103, 0), (.iconst 0, 0, 0, 0, (nI 0)), (.aload_n 0, 0, 0, 0, 0), (.getfield 9, 3, 2, 103, 0), (.iconst 0, 0, 0, 0, (nI 0)), (.bipush 121, 0, 0, 0, (nI 121))] (pc' := 28) (by decide +kernel) (lv' := [some (.ref 2), some (.ref 36)]) (st' := [.int (nI 121), .int (nI 0), .ref 3, .int (nI 0), .ref 37]) (I' := (tq_u (tq_u I 2 0 (I 36 0)) 2 1 ((tq_u I 2 0 (I 36 0)) 36 1))) (J' := J) rfl ?_
  refine EV_copy (own := 3) (idx := 25) (pl := 415) (sp' := 0) (dp' := 0) (z' := 121) C hR rfl (by decide) (by decide +kernel) (by decide) (Nat.le_of_ble_eq_true rfl) rfl rfl (nI_toInt (by omega)) (nI_toInt (by omega)) (nI_toInt (by omega)) (by omega) (by omega) ?_
  refine EV_blk (own := 3) C rfl [(.aload_n 1, 0, 0, 0, 0), (.getfield 15, 3, 3, 106, 0), (.iconst 0, 0, 0, 0, (nI 0)), (.aload_n 0, 0, 0, 0, 0), (.getfield 15, 3, 3, 106, 0), (.iconst 0, 0, 0, 0, (nI 0)), (.bipush 100, 0, 0, 0, (nI 100))] (pc' := 43) (by decide +kernel) (lv' := [some (.ref 2), some (.ref 36)]) (st' := [.int (nI 100), .int (nI 0), .ref 4, .int (nI 0), .ref 38]) (I' := (tq_cp (tq_u (tq_u I 2 0 (I 36 0)) 2 1 ((tq_u I 2 0 (I 36 0)) 36 1)) 37 0 3 0 121)) (J' := J) rfl ?_
  refine EV_copy (own := 3) (idx := 25) (pl := 415) (sp' := 0) (dp' := 0) (z' := 100) C hR rfl (by decide) (by decide +kernel) (by decide) (Nat.le_of_ble_eq_true rfl) rfl rfl (nI_toInt (by omega)) (nI_toInt (by omega)) (nI_toInt (by omega)) (by omega) (by omega) ?_
  exact EV_vret C hZ rfl (by decide +kernel) (Nat.le_refl _) (Nat.le_refl _) ⟨rfl, rfl, rfl, rfl, rfl⟩
set_option maxRecDepth 20000 in
theorem c_X10_copyFrom_9_43 (g : tq_G) (rest : List tq_S) (I : tq_I) (J : Int64)   : CT g mX10_copyFrom 2 0 0 [.ref 9, .ref 43] (tq_SC ++ rest) tq_RR I J (tq_ret (tq_SC ++ rest) tq_RR none (tq_cpTiles I 9 43) J) := by
  refine CT.ret kX10_copyFrom (Nat.le_of_ble_eq_true rfl) (fun x0 C hR hZ => ?_)
  refine EV_en (lv' := [some (.ref 9), some (.ref 43)]) 0 rfl ?_
  refine EV_blk (own := 10) C rfl [(.aload_n 1, 0, 0, 0, 0), (.getfield 9, 10, 0, 131, 0), (.iconst 0, 0, 0, 0, (nI 0)), (.aload_n 0, 0, 0, 0, 0), (.getfield 9, 10, 0, 131, 0), (.iconst 0, 0, 0, 0, (nI 0)), (.bipush 6, 0, 0, 0, (nI 6))] (pc' := 12) (by decide +kernel) (lv' := [some (.ref 9), some (.ref 43)]) (st' := [.int (nI 6), .int (nI 0), .ref 10, .int (nI 0), .ref 44]) (I' := I) (J' := J) rfl ?_
  refine EV_copy (own := 10) (idx := 19) (pl := 427) (sp' := 0) (dp' := 0) (z' := 6) C hR rfl (by decide) (by decide +kernel) (by decide) (Nat.le_of_ble_eq_true rfl) rfl rfl (nI_toInt (by omega)) (nI_toInt (by omega)) (nI_toInt (by omega)) (by omega) (by omega) ?_
  refine EV_blk (own := 10) C rfl [(.aload_n 1, 0, 0, 0, 0), (.getfield 15, 10, 1, 132, 0), (.iconst 0, 0, 0, 0, (nI 0)), (.aload_n 0, 0, 0, 0, 0), (.getfield 15, 10, 1, 132, 0), (.iconst 0, 0, 0, 0, (nI 0)), (.bipush 96, 0, 0, 0, (nI 96))] (pc' := 27) (by decide +kernel) (lv' := [some (.ref 9), some (.ref 43)]) (st' := [.int (nI 96), .int (nI 0), .ref 11, .int (nI 0), .ref 45]) (I' := (tq_cp I 44 0 10 0 6)) (J' := J) rfl ?_
  refine EV_copy (own := 10) (idx := 19) (pl := 427) (sp' := 0) (dp' := 0) (z' := 96) C hR rfl (by decide) (by decide +kernel) (by decide) (Nat.le_of_ble_eq_true rfl) rfl rfl (nI_toInt (by omega)) (nI_toInt (by omega)) (nI_toInt (by omega)) (by omega) (by omega) ?_
  exact EV_vret C hZ rfl (by decide +kernel) (Nat.le_refl _) (Nat.le_refl _) ⟨rfl, rfl, rfl, rfl, rfl⟩
set_option maxRecDepth 20000 in
theorem c_X6_copyFrom_5_39 (g : tq_G) (rest : List tq_S) (I : tq_I) (J : Int64)  (hbd : I 39 5 = 0 ∨ I 39 5 = 1) : CT g mX6_copyFrom 3 0 0 [.ref 5, .ref 39] (tq_SC ++ rest) tq_RR I J (tq_ret (tq_SC ++ rest) tq_RR none (tq_cpRules I 5 39) J) := by
  refine CT.ret kX6_copyFrom (Nat.le_of_ble_eq_true rfl) (fun x0 C hR hZ => ?_)
  refine EV_en (lv' := [some (.ref 5), some (.ref 39)]) 0 rfl ?_
  refine EV_blk (own := 6) C rfl [(.aload_n 1, 0, 0, 0, 0), (.getfield 9, 6, 0, 142, 0), (.iconst 0, 0, 0, 0, (nI 0)), (.aload_n 0, 0, 0, 0, 0), (.getfield 9, 6, 0, 142, 0), (.iconst 0, 0, 0, 0, (nI 0)), (.bipush 6, 0, 0, 0, (nI 6))] (pc' := 12) (by decide +kernel) (lv' := [some (.ref 5), some (.ref 39)]) (st' := [.int (nI 6), .int (nI 0), .ref 6, .int (nI 0), .ref 40]) (I' := I) (J' := J) rfl ?_
  refine EV_copy (own := 6) (idx := 32) (pl := 422) (sp' := 0) (dp' := 0) (z' := 6) C hR rfl (by decide) (by decide +kernel) (by decide) (Nat.le_of_ble_eq_true rfl) rfl rfl (nI_toInt (by omega)) (nI_toInt (by omega)) (nI_toInt (by omega)) (by omega) (by omega) ?_
  refine EV_blk (own := 6) C rfl [(.aload_n 1, 0, 0, 0, 0), (.getfield 15, 6, 1, 143, 0), (.iconst 0, 0, 0, 0, (nI 0)), (.aload_n 0, 0, 0, 0, 0), (.getfield 15, 6, 1, 143, 0), (.iconst 0, 0, 0, 0, (nI 0)), (.bipush 6, 0, 0, 0, (nI 6))] (pc' := 27) (by decide +kernel) (lv' := [some (.ref 5), some (.ref 39)]) (st' := [.int (nI 6), .int (nI 0), .ref 7, .int (nI 0), .ref 41]) (I' := (tq_cp I 40 0 6 0 6)) (J' := J) rfl ?_
  refine EV_copy (own := 6) (idx := 32) (pl := 422) (sp' := 0) (dp' := 0) (z' := 6) C hR rfl (by decide) (by decide +kernel) (by decide) (Nat.le_of_ble_eq_true rfl) rfl rfl (nI_toInt (by omega)) (nI_toInt (by omega)) (nI_toInt (by omega)) (by omega) (by omega) ?_
  refine EV_blk (own := 6) C rfl [(.aload_n 1, 0, 0, 0, 0), (.getfield 18, 6, 2, 144, 0), (.iconst 0, 0, 0, 0, (nI 0)), (.aload_n 0, 0, 0, 0, 0), (.getfield 18, 6, 2, 144, 0), (.iconst 0, 0, 0, 0, (nI 0)), (.bipush 6, 0, 0, 0, (nI 6))] (pc' := 42) (by decide +kernel) (lv' := [some (.ref 5), some (.ref 39)]) (st' := [.int (nI 6), .int (nI 0), .ref 8, .int (nI 0), .ref 42]) (I' := (tq_cp (tq_cp I 40 0 6 0 6) 41 0 7 0 6)) (J' := J) rfl ?_
  refine EV_copy (own := 6) (idx := 32) (pl := 422) (sp' := 0) (dp' := 0) (z' := 6) C hR rfl (by decide) (by decide +kernel) (by decide) (Nat.le_of_ble_eq_true rfl) rfl rfl (nI_toInt (by omega)) (nI_toInt (by omega)) (nI_toInt (by omega)) (by omega) (by omega) ?_
  refine EV_blk (own := 6) C rfl [(.aload_n 0, 0, 0, 0, 0), (.getfield 24, 6, 3, 146, 0), (.aload_n 1, 0, 0, 0, 0), (.getfield 24, 6, 3, 146, 0)] (pc' := 53) (by decide +kernel) (lv' := [some (.ref 5), some (.ref 39)]) (st' := [.ref 43, .ref 9]) (I' := (tq_cp (tq_cp (tq_cp I 40 0 6 0 6) 41 0 7 0 6) 42 0 8 0 6)) (J' := J) rfl ?_
  refine EV_cV (own := 6) (idx := 38) (μ' := mX10_copyFrom) (b := 9) (cb := 10) (av := [.ref 43]) (rest := []) C hR rfl (Or.inl ⟨423, by decide⟩) kX10_copyFrom sX10_copyFrom (c_X10_copyFrom_9_43 g rest (tq_cp (tq_cp (tq_cp I 40 0 6 0 6) 41 0 7 0 6) 42 0 8 0 6) J ) rfl rfl (by decide +kernel) rfl (by decide) (Nat.le_of_ble_eq_true rfl) rfl ⟨Nat.zero_le _, Nat.zero_le _⟩ ?_
  refine EV_blk (own := 6) C rfl [(.aload_n 0, 0, 0, 0, 0), (.aload_n 1, 0, 0, 0, 0), (.getfield 42, 6, 4, 149, 0), (.putfield 42, 6, 4, 149, 0), (.aload_n 0, 0, 0, 0, 0), (.aload_n 1, 0, 0, 0, 0), (.getfield 46, 6, 5, 152, 0)] (pc' := 69) (by decide +kernel) (lv' := [some (.ref 5), some (.ref 39)]) (st' := [.int ((tq_u (tq_cpTiles (tq_cp (tq_cp (tq_cp I 40 0 6 0 6) 41 0 7 0 6) 42 0 8 0 6) 9 43) 5 4 ((tq_cpTiles (tq_cp (tq_cp (tq_cp I 40 0 6 0 6) 41 0 7 0 6) 42 0 8 0 6) 9 43) 39 4)) 39 5), .ref 5]) (I' := (tq_u (tq_cpTiles (tq_cp (tq_cp (tq_cp I 40 0 6 0 6) 41 0 7 0 6) 42 0 8 0 6) 9 43) 5 4 ((tq_cpTiles (tq_cp (tq_cp (tq_cp I 40 0 6 0 6) 41 0 7 0 6) 42 0 8 0 6) 9 43) 39 4))) (J' := J) rfl ?_
  refine EV_puti (own := 6) (idx := 46) (c := 6) (j := 5) (pl := 152) C rfl (Or.inl (by decide)) (by decide +kernel) rfl rfl (Or.inr ⟨rfl, hbd⟩) ?_
  exact EV_vret C hZ rfl (by decide +kernel) (Nat.le_refl _) (Nat.le_refl _) ⟨rfl, rfl, rfl, rfl, rfl⟩
set_option maxRecDepth 20000 in
theorem c_X1_copyFrom_12_46 (g : tq_G) (rest : List tq_S) (I : tq_I) (J : Int64)   : CT g mX1_copyFrom 2 0 0 [.ref 12, .ref 46] (tq_SC ++ rest) tq_RR I J (tq_ret (tq_SC ++ rest) tq_RR none (tq_cpCanvas I 12 46) J) := by
  refine CT.ret kX1_copyFrom (Nat.le_of_ble_eq_true rfl) (fun x0 C hR hZ => ?_)
  refine EV_en (lv' := [some (.ref 12), some (.ref 46)]) 0 rfl ?_
  refine EV_blk (own := 1) C rfl [(.aload_n 1, 0, 0, 0, 0), (.getfield 9, 1, 0, 173, 0), (.iconst 0, 0, 0, 0, (nI 0)), (.aload_n 0, 0, 0, 0, 0), (.getfield 9, 1, 0, 173, 0), (.iconst 0, 0, 0, 0, (nI 0)), (.bipush 100, 0, 0, 0, (nI 100))] (pc' := 12) (by decide +kernel) (lv' := [some (.ref 12), some (.ref 46)]) (st' := [.int (nI 100), .int (nI 0), .ref 13, .int (nI 0), .ref 47]) (I' := I) (J' := J) rfl ?_
  refine EV_copy (own := 1) (idx := 24) (pl := 432) (sp' := 0) (dp' := 0) (z' := 100) C hR rfl (by decide) (by decide +kernel) (by decide) (Nat.le_of_ble_eq_true rfl) rfl rfl (nI_toInt (by omega)) (nI_toInt (by omega)) (nI_toInt (by omega)) (by omega) (by omega) ?_
  refine EV_blk (own := 1) C rfl [(.aload_n 1, 0, 0, 0, 0), (.getfield 15, 1, 1, 176, 0), (.iconst 0, 0, 0, 0, (nI 0)), (.aload_n 0, 0, 0, 0, 0), (.getfield 15, 1, 1, 176, 0), (.iconst 0, 0, 0, 0, (nI 0)), (.sipush 700, 0, 0, 0, (nI 700))] (pc' := 28) (by decide +kernel) (lv' := [some (.ref 12), some (.ref 46)]) (st' := [.int (nI 700), .int (nI 0), .ref 14, .int (nI 0), .ref 48]) (I' := (tq_cp I 47 0 13 0 100)) (J' := J) rfl ?_
  refine EV_copy (own := 1) (idx := 24) (pl := 432) (sp' := 0) (dp' := 0) (z' := 700) C hR rfl (by decide) (by decide +kernel) (by decide) (Nat.le_of_ble_eq_true rfl) rfl rfl (nI_toInt (by omega)) (nI_toInt (by omega)) (nI_toInt (by omega)) (by omega) (by omega) ?_
  refine EV_blk (own := 1) C rfl [(.aload_n 1, 0, 0, 0, 0), (.getfield 18, 1, 2, 177, 0), (.iconst 0, 0, 0, 0, (nI 0)), (.aload_n 0, 0, 0, 0, 0), (.getfield 18, 1, 2, 177, 0), (.iconst 0, 0, 0, 0, (nI 0)), (.bipush 100, 0, 0, 0, (nI 100))] (pc' := 43) (by decide +kernel) (lv' := [some (.ref 12), some (.ref 46)]) (st' := [.int (nI 100), .int (nI 0), .ref 15, .int (nI 0), .ref 49]) (I' := (tq_cp (tq_cp I 47 0 13 0 100) 48 0 14 0 700)) (J' := J) rfl ?_
  refine EV_copy (own := 1) (idx := 24) (pl := 432) (sp' := 0) (dp' := 0) (z' := 100) C hR rfl (by decide) (by decide +kernel) (by decide) (Nat.le_of_ble_eq_true rfl) rfl rfl (nI_toInt (by omega)) (nI_toInt (by omega)) (nI_toInt (by omega)) (by omega) (by omega) ?_
  refine EV_blk (own := 1) C rfl [(.aload_n 1, 0, 0, 0, 0), (.getfield 21, 1, 3, 178, 0), (.iconst 0, 0, 0, 0, (nI 0)), (.aload_n 0, 0, 0, 0, 0), (.getfield 21, 1, 3, 178, 0), (.iconst 0, 0, 0, 0, (nI 0)), (.bipush 100, 0, 0, 0, (nI 100))] (pc' := 58) (by decide +kernel) (lv' := [some (.ref 12), some (.ref 46)]) (st' := [.int (nI 100), .int (nI 0), .ref 16, .int (nI 0), .ref 50]) (I' := (tq_cp (tq_cp (tq_cp I 47 0 13 0 100) 48 0 14 0 700) 49 0 15 0 100)) (J' := J) rfl ?_
  refine EV_copy (own := 1) (idx := 24) (pl := 432) (sp' := 0) (dp' := 0) (z' := 100) C hR rfl (by decide) (by decide +kernel) (by decide) (Nat.le_of_ble_eq_true rfl) rfl rfl (nI_toInt (by omega)) (nI_toInt (by omega)) (nI_toInt (by omega)) (by omega) (by omega) ?_
  exact EV_vret C hZ rfl (by decide +kernel) (Nat.le_refl _) (Nat.le_refl _) ⟨rfl, rfl, rfl, rfl, rfl⟩
set_option maxRecDepth 20000 in
theorem c_X8_copyFrom_1_35 (g : tq_G) (rest : List tq_S) (I : tq_I) (J : Int64)  (hbd : I 39 5 = 0 ∨ I 39 5 = 1) : CT g mX8_copyFrom 4 0 0 [.ref 1, .ref 35] (tq_SC ++ rest) tq_RR I J (tq_ret (tq_SC ++ rest) tq_RR none (tq_cpSt I 1 35) J) := by
  refine CT.ret kX8_copyFrom (Nat.le_of_ble_eq_true rfl) (fun x0 C hR hZ => ?_)
  refine EV_en (lv' := [some (.ref 1), some (.ref 35)]) 0 rfl ?_
  refine EV_blk (own := 8) C rfl [(.aload_n 0, 0, 0, 0, 0), (.getfield 12, 8, 0, 190, 0), (.aload_n 1, 0, 0, 0, 0), (.getfield 12, 8, 0, 190, 0)] (pc' := 8) (by decide +kernel) (lv' := [some (.ref 1), some (.ref 35)]) (st' := [.ref 36, .ref 2]) (I' := I) (J' := J) rfl ?_
  refine EV_cV (own := 8) (idx := 32) (μ' := mX3_copyFrom) (b := 2) (cb := 3) (av := [.ref 36]) (rest := []) C hR rfl (Or.inl ⟨411, by decide⟩) kX3_copyFrom sX3_copyFrom (c_X3_copyFrom_2_36 g rest I J ) rfl rfl (by decide +kernel) rfl (by decide) (Nat.le_of_ble_eq_true rfl) rfl ⟨Nat.zero_le _, Nat.zero_le _⟩ ?_
  refine EV_blk (own := 8) C rfl [(.aload_n 0, 0, 0, 0, 0), (.getfield 21, 8, 1, 194, 0), (.aload_n 1, 0, 0, 0, 0), (.getfield 21, 8, 1, 194, 0)] (pc' := 19) (by decide +kernel) (lv' := [some (.ref 1), some (.ref 35)]) (st' := [.ref 39, .ref 5]) (I' := (tq_cpLand I 2 36)) (J' := J) rfl ?_
  refine EV_cV (own := 8) (idx := 36) (μ' := mX6_copyFrom) (b := 5) (cb := 6) (av := [.ref 39]) (rest := []) C hR rfl (Or.inl ⟨418, by decide⟩) kX6_copyFrom sX6_copyFrom (c_X6_copyFrom_5_39 g rest (tq_cpLand I 2 36) J hbd) rfl rfl (by decide +kernel) rfl (by decide) (Nat.le_of_ble_eq_true rfl) rfl ⟨Nat.zero_le _, Nat.zero_le _⟩ ?_
  refine EV_blk (own := 8) C rfl [(.aload_n 0, 0, 0, 0, 0), (.getfield 28, 8, 2, 197, 0), (.aload_n 1, 0, 0, 0, 0), (.getfield 28, 8, 2, 197, 0)] (pc' := 30) (by decide +kernel) (lv' := [some (.ref 1), some (.ref 35)]) (st' := [.ref 46, .ref 12]) (I' := (tq_cpRules (tq_cpLand I 2 36) 5 39)) (J' := J) rfl ?_
  refine EV_cV (own := 8) (idx := 39) (μ' := mX1_copyFrom) (b := 12) (cb := 1) (av := [.ref 46]) (rest := []) C hR rfl (Or.inl ⟨428, by decide⟩) kX1_copyFrom sX1_copyFrom (c_X1_copyFrom_12_46 g rest (tq_cpRules (tq_cpLand I 2 36) 5 39) J ) rfl rfl (by decide +kernel) rfl (by decide) (Nat.le_of_ble_eq_true rfl) rfl ⟨Nat.zero_le _, Nat.zero_le _⟩ ?_
  exact EV_vret C hZ rfl (by decide +kernel) (Nat.le_refl _) (Nat.le_refl _) ⟨rfl, rfl, rfl, rfl, rfl⟩
set_option maxRecDepth 20000 in
theorem c_X3_copyFrom_2_52 (g : tq_G) (rest : List tq_S) (I : tq_I) (J : Int64)   : CT g mX3_copyFrom 2 0 0 [.ref 2, .ref 52] (tq_SC ++ rest) tq_RR I J (tq_ret (tq_SC ++ rest) tq_RR none (tq_cpLand I 2 52) J) := by
  refine CT.ret kX3_copyFrom (Nat.le_of_ble_eq_true rfl) (fun x0 C hR hZ => ?_)
  refine EV_en (lv' := [some (.ref 2), some (.ref 52)]) 0 rfl ?_
  refine EV_blk (own := 3) C rfl [(.aload_n 0, 0, 0, 0, 0), (.aload_n 1, 0, 0, 0, 0), (.getfield 18, 3, 0, 95, 0), (.putfield 18, 3, 0, 95, 0), (.aload_n 0, 0, 0, 0, 0), (.aload_n 1, 0, 0, 0, 0), (.getfield 22, 3, 1, 99, 0), (.putfield 22, 3, 1, 99, 0), (.aload_n 1, 0, 0, 0, 0), (.getfield 9, 3, 2, 103, 0), (.iconst 0, 0, 0, 0, (nI 0)), (.aload_n 0, 0, 0, 0, 0), (.getfield 9, 3, 2, 103, 0), (.iconst 0, 0, 0, 0, (nI 0)), (.bipush 121, 0, 0, 0, (nI 121))] (pc' := 28) (by decide +kernel) (lv' := [some (.ref 2), some (.ref 52)]) (st' := [.int (nI 121), .int (nI 0), .ref 3, .int (nI 0), .ref 53]) (I' := (tq_u (tq_u I 2 0 (I 52 0)) 2 1 ((tq_u I 2 0 (I 52 0)) 52 1))) (J' := J) rfl ?_
  refine EV_copy (own := 3) (idx := 25) (pl := 415) (sp' := 0) (dp' := 0) (z' := 121) C hR rfl (by decide) (by decide +kernel) (by decide) (Nat.le_of_ble_eq_true rfl) rfl rfl (nI_toInt (by omega)) (nI_toInt (by omega)) (nI_toInt (by omega)) (by omega) (by omega) ?_
  refine EV_blk (own := 3) C rfl [(.aload_n 1, 0, 0, 0, 0), (.getfield 15, 3, 3, 106, 0), (.iconst 0, 0, 0, 0, (nI 0)), (.aload_n 0, 0, 0, 0, 0), (.getfield 15, 3, 3, 106, 0), (.iconst 0, 0, 0, 0, (nI 0)), (.bipush 100, 0, 0, 0, (nI 100))] (pc' := 43) (by decide +kernel) (lv' := [some (.ref 2), some (.ref 52)]) (st' := [.int (nI 100), .int (nI 0), .ref 4, .int (nI 0), .ref 54]) (I' := (tq_cp (tq_u (tq_u I 2 0 (I 52 0)) 2 1 ((tq_u I 2 0 (I 52 0)) 52 1)) 53 0 3 0 121)) (J' := J) rfl ?_
  refine EV_copy (own := 3) (idx := 25) (pl := 415) (sp' := 0) (dp' := 0) (z' := 100) C hR rfl (by decide) (by decide +kernel) (by decide) (Nat.le_of_ble_eq_true rfl) rfl rfl (nI_toInt (by omega)) (nI_toInt (by omega)) (nI_toInt (by omega)) (by omega) (by omega) ?_
  exact EV_vret C hZ rfl (by decide +kernel) (Nat.le_refl _) (Nat.le_refl _) ⟨rfl, rfl, rfl, rfl, rfl⟩
set_option maxRecDepth 20000 in
theorem c_X10_copyFrom_9_59 (g : tq_G) (rest : List tq_S) (I : tq_I) (J : Int64)   : CT g mX10_copyFrom 2 0 0 [.ref 9, .ref 59] (tq_SC ++ rest) tq_RR I J (tq_ret (tq_SC ++ rest) tq_RR none (tq_cpTiles I 9 59) J) := by
  refine CT.ret kX10_copyFrom (Nat.le_of_ble_eq_true rfl) (fun x0 C hR hZ => ?_)
  refine EV_en (lv' := [some (.ref 9), some (.ref 59)]) 0 rfl ?_
  refine EV_blk (own := 10) C rfl [(.aload_n 1, 0, 0, 0, 0), (.getfield 9, 10, 0, 131, 0), (.iconst 0, 0, 0, 0, (nI 0)), (.aload_n 0, 0, 0, 0, 0), (.getfield 9, 10, 0, 131, 0), (.iconst 0, 0, 0, 0, (nI 0)), (.bipush 6, 0, 0, 0, (nI 6))] (pc' := 12) (by decide +kernel) (lv' := [some (.ref 9), some (.ref 59)]) (st' := [.int (nI 6), .int (nI 0), .ref 10, .int (nI 0), .ref 60]) (I' := I) (J' := J) rfl ?_
  refine EV_copy (own := 10) (idx := 19) (pl := 427) (sp' := 0) (dp' := 0) (z' := 6) C hR rfl (by decide) (by decide +kernel) (by decide) (Nat.le_of_ble_eq_true rfl) rfl rfl (nI_toInt (by omega)) (nI_toInt (by omega)) (nI_toInt (by omega)) (by omega) (by omega) ?_
  refine EV_blk (own := 10) C rfl [(.aload_n 1, 0, 0, 0, 0), (.getfield 15, 10, 1, 132, 0), (.iconst 0, 0, 0, 0, (nI 0)), (.aload_n 0, 0, 0, 0, 0), (.getfield 15, 10, 1, 132, 0), (.iconst 0, 0, 0, 0, (nI 0)), (.bipush 96, 0, 0, 0, (nI 96))] (pc' := 27) (by decide +kernel) (lv' := [some (.ref 9), some (.ref 59)]) (st' := [.int (nI 96), .int (nI 0), .ref 11, .int (nI 0), .ref 61]) (I' := (tq_cp I 60 0 10 0 6)) (J' := J) rfl ?_
  refine EV_copy (own := 10) (idx := 19) (pl := 427) (sp' := 0) (dp' := 0) (z' := 96) C hR rfl (by decide) (by decide +kernel) (by decide) (Nat.le_of_ble_eq_true rfl) rfl rfl (nI_toInt (by omega)) (nI_toInt (by omega)) (nI_toInt (by omega)) (by omega) (by omega) ?_
  exact EV_vret C hZ rfl (by decide +kernel) (Nat.le_refl _) (Nat.le_refl _) ⟨rfl, rfl, rfl, rfl, rfl⟩
set_option maxRecDepth 20000 in
theorem c_X6_copyFrom_5_55 (g : tq_G) (rest : List tq_S) (I : tq_I) (J : Int64)  (hbd : I 55 5 = 0 ∨ I 55 5 = 1) : CT g mX6_copyFrom 3 0 0 [.ref 5, .ref 55] (tq_SC ++ rest) tq_RR I J (tq_ret (tq_SC ++ rest) tq_RR none (tq_cpRules I 5 55) J) := by
  refine CT.ret kX6_copyFrom (Nat.le_of_ble_eq_true rfl) (fun x0 C hR hZ => ?_)
  refine EV_en (lv' := [some (.ref 5), some (.ref 55)]) 0 rfl ?_
  refine EV_blk (own := 6) C rfl [(.aload_n 1, 0, 0, 0, 0), (.getfield 9, 6, 0, 142, 0), (.iconst 0, 0, 0, 0, (nI 0)), (.aload_n 0, 0, 0, 0, 0), (.getfield 9, 6, 0, 142, 0), (.iconst 0, 0, 0, 0, (nI 0)), (.bipush 6, 0, 0, 0, (nI 6))] (pc' := 12) (by decide +kernel) (lv' := [some (.ref 5), some (.ref 55)]) (st' := [.int (nI 6), .int (nI 0), .ref 6, .int (nI 0), .ref 56]) (I' := I) (J' := J) rfl ?_
  refine EV_copy (own := 6) (idx := 32) (pl := 422) (sp' := 0) (dp' := 0) (z' := 6) C hR rfl (by decide) (by decide +kernel) (by decide) (Nat.le_of_ble_eq_true rfl) rfl rfl (nI_toInt (by omega)) (nI_toInt (by omega)) (nI_toInt (by omega)) (by omega) (by omega) ?_
  refine EV_blk (own := 6) C rfl [(.aload_n 1, 0, 0, 0, 0), (.getfield 15, 6, 1, 143, 0), (.iconst 0, 0, 0, 0, (nI 0)), (.aload_n 0, 0, 0, 0, 0), (.getfield 15, 6, 1, 143, 0), (.iconst 0, 0, 0, 0, (nI 0)), (.bipush 6, 0, 0, 0, (nI 6))] (pc' := 27) (by decide +kernel) (lv' := [some (.ref 5), some (.ref 55)]) (st' := [.int (nI 6), .int (nI 0), .ref 7, .int (nI 0), .ref 57]) (I' := (tq_cp I 56 0 6 0 6)) (J' := J) rfl ?_
  refine EV_copy (own := 6) (idx := 32) (pl := 422) (sp' := 0) (dp' := 0) (z' := 6) C hR rfl (by decide) (by decide +kernel) (by decide) (Nat.le_of_ble_eq_true rfl) rfl rfl (nI_toInt (by omega)) (nI_toInt (by omega)) (nI_toInt (by omega)) (by omega) (by omega) ?_
  refine EV_blk (own := 6) C rfl [(.aload_n 1, 0, 0, 0, 0), (.getfield 18, 6, 2, 144, 0), (.iconst 0, 0, 0, 0, (nI 0)), (.aload_n 0, 0, 0, 0, 0), (.getfield 18, 6, 2, 144, 0), (.iconst 0, 0, 0, 0, (nI 0)), (.bipush 6, 0, 0, 0, (nI 6))] (pc' := 42) (by decide +kernel) (lv' := [some (.ref 5), some (.ref 55)]) (st' := [.int (nI 6), .int (nI 0), .ref 8, .int (nI 0), .ref 58]) (I' := (tq_cp (tq_cp I 56 0 6 0 6) 57 0 7 0 6)) (J' := J) rfl ?_
  refine EV_copy (own := 6) (idx := 32) (pl := 422) (sp' := 0) (dp' := 0) (z' := 6) C hR rfl (by decide) (by decide +kernel) (by decide) (Nat.le_of_ble_eq_true rfl) rfl rfl (nI_toInt (by omega)) (nI_toInt (by omega)) (nI_toInt (by omega)) (by omega) (by omega) ?_
  refine EV_blk (own := 6) C rfl [(.aload_n 0, 0, 0, 0, 0), (.getfield 24, 6, 3, 146, 0), (.aload_n 1, 0, 0, 0, 0), (.getfield 24, 6, 3, 146, 0)] (pc' := 53) (by decide +kernel) (lv' := [some (.ref 5), some (.ref 55)]) (st' := [.ref 59, .ref 9]) (I' := (tq_cp (tq_cp (tq_cp I 56 0 6 0 6) 57 0 7 0 6) 58 0 8 0 6)) (J' := J) rfl ?_
  refine EV_cV (own := 6) (idx := 38) (μ' := mX10_copyFrom) (b := 9) (cb := 10) (av := [.ref 59]) (rest := []) C hR rfl (Or.inl ⟨423, by decide⟩) kX10_copyFrom sX10_copyFrom (c_X10_copyFrom_9_59 g rest (tq_cp (tq_cp (tq_cp I 56 0 6 0 6) 57 0 7 0 6) 58 0 8 0 6) J ) rfl rfl (by decide +kernel) rfl (by decide) (Nat.le_of_ble_eq_true rfl) rfl ⟨Nat.zero_le _, Nat.zero_le _⟩ ?_
  refine EV_blk (own := 6) C rfl [(.aload_n 0, 0, 0, 0, 0), (.aload_n 1, 0, 0, 0, 0), (.getfield 42, 6, 4, 149, 0), (.putfield 42, 6, 4, 149, 0), (.aload_n 0, 0, 0, 0, 0), (.aload_n 1, 0, 0, 0, 0), (.getfield 46, 6, 5, 152, 0)] (pc' := 69) (by decide +kernel) (lv' := [some (.ref 5), some (.ref 55)]) (st' := [.int ((tq_u (tq_cpTiles (tq_cp (tq_cp (tq_cp I 56 0 6 0 6) 57 0 7 0 6) 58 0 8 0 6) 9 59) 5 4 ((tq_cpTiles (tq_cp (tq_cp (tq_cp I 56 0 6 0 6) 57 0 7 0 6) 58 0 8 0 6) 9 59) 55 4)) 55 5), .ref 5]) (I' := (tq_u (tq_cpTiles (tq_cp (tq_cp (tq_cp I 56 0 6 0 6) 57 0 7 0 6) 58 0 8 0 6) 9 59) 5 4 ((tq_cpTiles (tq_cp (tq_cp (tq_cp I 56 0 6 0 6) 57 0 7 0 6) 58 0 8 0 6) 9 59) 55 4))) (J' := J) rfl ?_
  refine EV_puti (own := 6) (idx := 46) (c := 6) (j := 5) (pl := 152) C rfl (Or.inl (by decide)) (by decide +kernel) rfl rfl (Or.inr ⟨rfl, hbd⟩) ?_
  exact EV_vret C hZ rfl (by decide +kernel) (Nat.le_refl _) (Nat.le_refl _) ⟨rfl, rfl, rfl, rfl, rfl⟩
set_option maxRecDepth 20000 in
theorem c_X1_copyFrom_12_62 (g : tq_G) (rest : List tq_S) (I : tq_I) (J : Int64)   : CT g mX1_copyFrom 2 0 0 [.ref 12, .ref 62] (tq_SC ++ rest) tq_RR I J (tq_ret (tq_SC ++ rest) tq_RR none (tq_cpCanvas I 12 62) J) := by
  refine CT.ret kX1_copyFrom (Nat.le_of_ble_eq_true rfl) (fun x0 C hR hZ => ?_)
  refine EV_en (lv' := [some (.ref 12), some (.ref 62)]) 0 rfl ?_
  refine EV_blk (own := 1) C rfl [(.aload_n 1, 0, 0, 0, 0), (.getfield 9, 1, 0, 173, 0), (.iconst 0, 0, 0, 0, (nI 0)), (.aload_n 0, 0, 0, 0, 0), (.getfield 9, 1, 0, 173, 0), (.iconst 0, 0, 0, 0, (nI 0)), (.bipush 100, 0, 0, 0, (nI 100))] (pc' := 12) (by decide +kernel) (lv' := [some (.ref 12), some (.ref 62)]) (st' := [.int (nI 100), .int (nI 0), .ref 13, .int (nI 0), .ref 63]) (I' := I) (J' := J) rfl ?_
  refine EV_copy (own := 1) (idx := 24) (pl := 432) (sp' := 0) (dp' := 0) (z' := 100) C hR rfl (by decide) (by decide +kernel) (by decide) (Nat.le_of_ble_eq_true rfl) rfl rfl (nI_toInt (by omega)) (nI_toInt (by omega)) (nI_toInt (by omega)) (by omega) (by omega) ?_
  refine EV_blk (own := 1) C rfl [(.aload_n 1, 0, 0, 0, 0), (.getfield 15, 1, 1, 176, 0), (.iconst 0, 0, 0, 0, (nI 0)), (.aload_n 0, 0, 0, 0, 0), (.getfield 15, 1, 1, 176, 0), (.iconst 0, 0, 0, 0, (nI 0)), (.sipush 700, 0, 0, 0, (nI 700))] (pc' := 28) (by decide +kernel) (lv' := [some (.ref 12), some (.ref 62)]) (st' := [.int (nI 700), .int (nI 0), .ref 14, .int (nI 0), .ref 64]) (I' := (tq_cp I 63 0 13 0 100)) (J' := J) rfl ?_
  refine EV_copy (own := 1) (idx := 24) (pl := 432) (sp' := 0) (dp' := 0) (z' := 700) C hR rfl (by decide) (by decide +kernel) (by decide) (Nat.le_of_ble_eq_true rfl) rfl rfl (nI_toInt (by omega)) (nI_toInt (by omega)) (nI_toInt (by omega)) (by omega) (by omega) ?_
  refine EV_blk (own := 1) C rfl [(.aload_n 1, 0, 0, 0, 0), (.getfield 18, 1, 2, 177, 0), (.iconst 0, 0, 0, 0, (nI 0)), (.aload_n 0, 0, 0, 0, 0), (.getfield 18, 1, 2, 177, 0), (.iconst 0, 0, 0, 0, (nI 0)), (.bipush 100, 0, 0, 0, (nI 100))] (pc' := 43) (by decide +kernel) (lv' := [some (.ref 12), some (.ref 62)]) (st' := [.int (nI 100), .int (nI 0), .ref 15, .int (nI 0), .ref 65]) (I' := (tq_cp (tq_cp I 63 0 13 0 100) 64 0 14 0 700)) (J' := J) rfl ?_
  refine EV_copy (own := 1) (idx := 24) (pl := 432) (sp' := 0) (dp' := 0) (z' := 100) C hR rfl (by decide) (by decide +kernel) (by decide) (Nat.le_of_ble_eq_true rfl) rfl rfl (nI_toInt (by omega)) (nI_toInt (by omega)) (nI_toInt (by omega)) (by omega) (by omega) ?_
  refine EV_blk (own := 1) C rfl [(.aload_n 1, 0, 0, 0, 0), (.getfield 21, 1, 3, 178, 0), (.iconst 0, 0, 0, 0, (nI 0)), (.aload_n 0, 0, 0, 0, 0), (.getfield 21, 1, 3, 178, 0), (.iconst 0, 0, 0, 0, (nI 0)), (.bipush 100, 0, 0, 0, (nI 100))] (pc' := 58) (by decide +kernel) (lv' := [some (.ref 12), some (.ref 62)]) (st' := [.int (nI 100), .int (nI 0), .ref 16, .int (nI 0), .ref 66]) (I' := (tq_cp (tq_cp (tq_cp I 63 0 13 0 100) 64 0 14 0 700) 65 0 15 0 100)) (J' := J) rfl ?_
  refine EV_copy (own := 1) (idx := 24) (pl := 432) (sp' := 0) (dp' := 0) (z' := 100) C hR rfl (by decide) (by decide +kernel) (by decide) (Nat.le_of_ble_eq_true rfl) rfl rfl (nI_toInt (by omega)) (nI_toInt (by omega)) (nI_toInt (by omega)) (by omega) (by omega) ?_
  exact EV_vret C hZ rfl (by decide +kernel) (Nat.le_refl _) (Nat.le_refl _) ⟨rfl, rfl, rfl, rfl, rfl⟩
set_option maxRecDepth 20000 in
theorem c_X8_copyFrom_1_51 (g : tq_G) (rest : List tq_S) (I : tq_I) (J : Int64)  (hbd : I 55 5 = 0 ∨ I 55 5 = 1) : CT g mX8_copyFrom 4 0 0 [.ref 1, .ref 51] (tq_SC ++ rest) tq_RR I J (tq_ret (tq_SC ++ rest) tq_RR none (tq_cpSt I 1 51) J) := by
  refine CT.ret kX8_copyFrom (Nat.le_of_ble_eq_true rfl) (fun x0 C hR hZ => ?_)
  refine EV_en (lv' := [some (.ref 1), some (.ref 51)]) 0 rfl ?_
  refine EV_blk (own := 8) C rfl [(.aload_n 0, 0, 0, 0, 0), (.getfield 12, 8, 0, 190, 0), (.aload_n 1, 0, 0, 0, 0), (.getfield 12, 8, 0, 190, 0)] (pc' := 8) (by decide +kernel) (lv' := [some (.ref 1), some (.ref 51)]) (st' := [.ref 52, .ref 2]) (I' := I) (J' := J) rfl ?_
  refine EV_cV (own := 8) (idx := 32) (μ' := mX3_copyFrom) (b := 2) (cb := 3) (av := [.ref 52]) (rest := []) C hR rfl (Or.inl ⟨411, by decide⟩) kX3_copyFrom sX3_copyFrom (c_X3_copyFrom_2_52 g rest I J ) rfl rfl (by decide +kernel) rfl (by decide) (Nat.le_of_ble_eq_true rfl) rfl ⟨Nat.zero_le _, Nat.zero_le _⟩ ?_
  refine EV_blk (own := 8) C rfl [(.aload_n 0, 0, 0, 0, 0), (.getfield 21, 8, 1, 194, 0), (.aload_n 1, 0, 0, 0, 0), (.getfield 21, 8, 1, 194, 0)] (pc' := 19) (by decide +kernel) (lv' := [some (.ref 1), some (.ref 51)]) (st' := [.ref 55, .ref 5]) (I' := (tq_cpLand I 2 52)) (J' := J) rfl ?_
  refine EV_cV (own := 8) (idx := 36) (μ' := mX6_copyFrom) (b := 5) (cb := 6) (av := [.ref 55]) (rest := []) C hR rfl (Or.inl ⟨418, by decide⟩) kX6_copyFrom sX6_copyFrom (c_X6_copyFrom_5_55 g rest (tq_cpLand I 2 52) J hbd) rfl rfl (by decide +kernel) rfl (by decide) (Nat.le_of_ble_eq_true rfl) rfl ⟨Nat.zero_le _, Nat.zero_le _⟩ ?_
  refine EV_blk (own := 8) C rfl [(.aload_n 0, 0, 0, 0, 0), (.getfield 28, 8, 2, 197, 0), (.aload_n 1, 0, 0, 0, 0), (.getfield 28, 8, 2, 197, 0)] (pc' := 30) (by decide +kernel) (lv' := [some (.ref 1), some (.ref 51)]) (st' := [.ref 62, .ref 12]) (I' := (tq_cpRules (tq_cpLand I 2 52) 5 55)) (J' := J) rfl ?_
  refine EV_cV (own := 8) (idx := 39) (μ' := mX1_copyFrom) (b := 12) (cb := 1) (av := [.ref 62]) (rest := []) C hR rfl (Or.inl ⟨428, by decide⟩) kX1_copyFrom sX1_copyFrom (c_X1_copyFrom_12_62 g rest (tq_cpRules (tq_cpLand I 2 52) 5 55) J ) rfl rfl (by decide +kernel) rfl (by decide) (Nat.le_of_ble_eq_true rfl) rfl ⟨Nat.zero_le _, Nat.zero_le _⟩ ?_
  exact EV_vret C hZ rfl (by decide +kernel) (Nat.le_refl _) (Nat.le_refl _) ⟨rfl, rfl, rfl, rfl, rfl⟩
set_option maxRecDepth 20000 in
theorem c_X3_copyFrom_2_68 (g : tq_G) (rest : List tq_S) (I : tq_I) (J : Int64)   : CT g mX3_copyFrom 2 0 0 [.ref 2, .ref 68] (tq_SC ++ rest) tq_RR I J (tq_ret (tq_SC ++ rest) tq_RR none (tq_cpLand I 2 68) J) := by
  refine CT.ret kX3_copyFrom (Nat.le_of_ble_eq_true rfl) (fun x0 C hR hZ => ?_)
  refine EV_en (lv' := [some (.ref 2), some (.ref 68)]) 0 rfl ?_
  refine EV_blk (own := 3) C rfl [(.aload_n 0, 0, 0, 0, 0), (.aload_n 1, 0, 0, 0, 0), (.getfield 18, 3, 0, 95, 0), (.putfield 18, 3, 0, 95, 0), (.aload_n 0, 0, 0, 0, 0), (.aload_n 1, 0, 0, 0, 0), (.getfield 22, 3, 1, 99, 0), (.putfield 22, 3, 1, 99, 0), (.aload_n 1, 0, 0, 0, 0), (.getfield 9, 3, 2, 103, 0), (.iconst 0, 0, 0, 0, (nI 0)), (.aload_n 0, 0, 0, 0, 0), (.getfield 9, 3, 2, 103, 0), (.iconst 0, 0, 0, 0, (nI 0)), (.bipush 121, 0, 0, 0, (nI 121))] (pc' := 28) (by decide +kernel) (lv' := [some (.ref 2), some (.ref 68)]) (st' := [.int (nI 121), .int (nI 0), .ref 3, .int (nI 0), .ref 69]) (I' := (tq_u (tq_u I 2 0 (I 68 0)) 2 1 ((tq_u I 2 0 (I 68 0)) 68 1))) (J' := J) rfl ?_
  refine EV_copy (own := 3) (idx := 25) (pl := 415) (sp' := 0) (dp' := 0) (z' := 121) C hR rfl (by decide) (by decide +kernel) (by decide) (Nat.le_of_ble_eq_true rfl) rfl rfl (nI_toInt (by omega)) (nI_toInt (by omega)) (nI_toInt (by omega)) (by omega) (by omega) ?_
  refine EV_blk (own := 3) C rfl [(.aload_n 1, 0, 0, 0, 0), (.getfield 15, 3, 3, 106, 0), (.iconst 0, 0, 0, 0, (nI 0)), (.aload_n 0, 0, 0, 0, 0), (.getfield 15, 3, 3, 106, 0), (.iconst 0, 0, 0, 0, (nI 0)), (.bipush 100, 0, 0, 0, (nI 100))] (pc' := 43) (by decide +kernel) (lv' := [some (.ref 2), some (.ref 68)]) (st' := [.int (nI 100), .int (nI 0), .ref 4, .int (nI 0), .ref 70]) (I' := (tq_cp (tq_u (tq_u I 2 0 (I 68 0)) 2 1 ((tq_u I 2 0 (I 68 0)) 68 1)) 69 0 3 0 121)) (J' := J) rfl ?_
  refine EV_copy (own := 3) (idx := 25) (pl := 415) (sp' := 0) (dp' := 0) (z' := 100) C hR rfl (by decide) (by decide +kernel) (by decide) (Nat.le_of_ble_eq_true rfl) rfl rfl (nI_toInt (by omega)) (nI_toInt (by omega)) (nI_toInt (by omega)) (by omega) (by omega) ?_
  exact EV_vret C hZ rfl (by decide +kernel) (Nat.le_refl _) (Nat.le_refl _) ⟨rfl, rfl, rfl, rfl, rfl⟩
set_option maxRecDepth 20000 in
theorem c_X10_copyFrom_9_75 (g : tq_G) (rest : List tq_S) (I : tq_I) (J : Int64)   : CT g mX10_copyFrom 2 0 0 [.ref 9, .ref 75] (tq_SC ++ rest) tq_RR I J (tq_ret (tq_SC ++ rest) tq_RR none (tq_cpTiles I 9 75) J) := by
  refine CT.ret kX10_copyFrom (Nat.le_of_ble_eq_true rfl) (fun x0 C hR hZ => ?_)
  refine EV_en (lv' := [some (.ref 9), some (.ref 75)]) 0 rfl ?_
  refine EV_blk (own := 10) C rfl [(.aload_n 1, 0, 0, 0, 0), (.getfield 9, 10, 0, 131, 0), (.iconst 0, 0, 0, 0, (nI 0)), (.aload_n 0, 0, 0, 0, 0), (.getfield 9, 10, 0, 131, 0), (.iconst 0, 0, 0, 0, (nI 0)), (.bipush 6, 0, 0, 0, (nI 6))] (pc' := 12) (by decide +kernel) (lv' := [some (.ref 9), some (.ref 75)]) (st' := [.int (nI 6), .int (nI 0), .ref 10, .int (nI 0), .ref 76]) (I' := I) (J' := J) rfl ?_
  refine EV_copy (own := 10) (idx := 19) (pl := 427) (sp' := 0) (dp' := 0) (z' := 6) C hR rfl (by decide) (by decide +kernel) (by decide) (Nat.le_of_ble_eq_true rfl) rfl rfl (nI_toInt (by omega)) (nI_toInt (by omega)) (nI_toInt (by omega)) (by omega) (by omega) ?_
  refine EV_blk (own := 10) C rfl [(.aload_n 1, 0, 0, 0, 0), (.getfield 15, 10, 1, 132, 0), (.iconst 0, 0, 0, 0, (nI 0)), (.aload_n 0, 0, 0, 0, 0), (.getfield 15, 10, 1, 132, 0), (.iconst 0, 0, 0, 0, (nI 0)), (.bipush 96, 0, 0, 0, (nI 96))] (pc' := 27) (by decide +kernel) (lv' := [some (.ref 9), some (.ref 75)]) (st' := [.int (nI 96), .int (nI 0), .ref 11, .int (nI 0), .ref 77]) (I' := (tq_cp I 76 0 10 0 6)) (J' := J) rfl ?_
  refine EV_copy (own := 10) (idx := 19) (pl := 427) (sp' := 0) (dp' := 0) (z' := 96) C hR rfl (by decide) (by decide +kernel) (by decide) (Nat.le_of_ble_eq_true rfl) rfl rfl (nI_toInt (by omega)) (nI_toInt (by omega)) (nI_toInt (by omega)) (by omega) (by omega) ?_
  exact EV_vret C hZ rfl (by decide +kernel) (Nat.le_refl _) (Nat.le_refl _) ⟨rfl, rfl, rfl, rfl, rfl⟩
set_option maxRecDepth 20000 in
theorem c_X6_copyFrom_5_71 (g : tq_G) (rest : List tq_S) (I : tq_I) (J : Int64)  (hbd : I 71 5 = 0 ∨ I 71 5 = 1) : CT g mX6_copyFrom 3 0 0 [.ref 5, .ref 71] (tq_SC ++ rest) tq_RR I J (tq_ret (tq_SC ++ rest) tq_RR none (tq_cpRules I 5 71) J) := by
  refine CT.ret kX6_copyFrom (Nat.le_of_ble_eq_true rfl) (fun x0 C hR hZ => ?_)
  refine EV_en (lv' := [some (.ref 5), some (.ref 71)]) 0 rfl ?_
  refine EV_blk (own := 6) C rfl [(.aload_n 1, 0, 0, 0, 0), (.getfield 9, 6, 0, 142, 0), (.iconst 0, 0, 0, 0, (nI 0)), (.aload_n 0, 0, 0, 0, 0), (.getfield 9, 6, 0, 142, 0), (.iconst 0, 0, 0, 0, (nI 0)), (.bipush 6, 0, 0, 0, (nI 6))] (pc' := 12) (by decide +kernel) (lv' := [some (.ref 5), some (.ref 71)]) (st' := [.int (nI 6), .int (nI 0), .ref 6, .int (nI 0), .ref 72]) (I' := I) (J' := J) rfl ?_
  refine EV_copy (own := 6) (idx := 32) (pl := 422) (sp' := 0) (dp' := 0) (z' := 6) C hR rfl (by decide) (by decide +kernel) (by decide) (Nat.le_of_ble_eq_true rfl) rfl rfl (nI_toInt (by omega)) (nI_toInt (by omega)) (nI_toInt (by omega)) (by omega) (by omega) ?_
  refine EV_blk (own := 6) C rfl [(.aload_n 1, 0, 0, 0, 0), (.getfield 15, 6, 1, 143, 0), (.iconst 0, 0, 0, 0, (nI 0)), (.aload_n 0, 0, 0, 0, 0), (.getfield 15, 6, 1, 143, 0), (.iconst 0, 0, 0, 0, (nI 0)), (.bipush 6, 0, 0, 0, (nI 6))] (pc' := 27) (by decide +kernel) (lv' := [some (.ref 5), some (.ref 71)]) (st' := [.int (nI 6), .int (nI 0), .ref 7, .int (nI 0), .ref 73]) (I' := (tq_cp I 72 0 6 0 6)) (J' := J) rfl ?_
  refine EV_copy (own := 6) (idx := 32) (pl := 422) (sp' := 0) (dp' := 0) (z' := 6) C hR rfl (by decide) (by decide +kernel) (by decide) (Nat.le_of_ble_eq_true rfl) rfl rfl (nI_toInt (by omega)) (nI_toInt (by omega)) (nI_toInt (by omega)) (by omega) (by omega) ?_
  refine EV_blk (own := 6) C rfl [(.aload_n 1, 0, 0, 0, 0), (.getfield 18, 6, 2, 144, 0), (.iconst 0, 0, 0, 0, (nI 0)), (.aload_n 0, 0, 0, 0, 0), (.getfield 18, 6, 2, 144, 0), (.iconst 0, 0, 0, 0, (nI 0)), (.bipush 6, 0, 0, 0, (nI 6))] (pc' := 42) (by decide +kernel) (lv' := [some (.ref 5), some (.ref 71)]) (st' := [.int (nI 6), .int (nI 0), .ref 8, .int (nI 0), .ref 74]) (I' := (tq_cp (tq_cp I 72 0 6 0 6) 73 0 7 0 6)) (J' := J) rfl ?_
  refine EV_copy (own := 6) (idx := 32) (pl := 422) (sp' := 0) (dp' := 0) (z' := 6) C hR rfl (by decide) (by decide +kernel) (by decide) (Nat.le_of_ble_eq_true rfl) rfl rfl (nI_toInt (by omega)) (nI_toInt (by omega)) (nI_toInt (by omega)) (by omega) (by omega) ?_
  refine EV_blk (own := 6) C rfl [(.aload_n 0, 0, 0, 0, 0), (.getfield 24, 6, 3, 146, 0), (.aload_n 1, 0, 0, 0, 0), (.getfield 24, 6, 3, 146, 0)] (pc' := 53) (by decide +kernel) (lv' := [some (.ref 5), some (.ref 71)]) (st' := [.ref 75, .ref 9]) (I' := (tq_cp (tq_cp (tq_cp I 72 0 6 0 6) 73 0 7 0 6) 74 0 8 0 6)) (J' := J) rfl ?_
  refine EV_cV (own := 6) (idx := 38) (μ' := mX10_copyFrom) (b := 9) (cb := 10) (av := [.ref 75]) (rest := []) C hR rfl (Or.inl ⟨423, by decide⟩) kX10_copyFrom sX10_copyFrom (c_X10_copyFrom_9_75 g rest (tq_cp (tq_cp (tq_cp I 72 0 6 0 6) 73 0 7 0 6) 74 0 8 0 6) J ) rfl rfl (by decide +kernel) rfl (by decide) (Nat.le_of_ble_eq_true rfl) rfl ⟨Nat.zero_le _, Nat.zero_le _⟩ ?_
  refine EV_blk (own := 6) C rfl [(.aload_n 0, 0, 0, 0, 0), (.aload_n 1, 0, 0, 0, 0), (.getfield 42, 6, 4, 149, 0), (.putfield 42, 6, 4, 149, 0), (.aload_n 0, 0, 0, 0, 0), (.aload_n 1, 0, 0, 0, 0), (.getfield 46, 6, 5, 152, 0)] (pc' := 69) (by decide +kernel) (lv' := [some (.ref 5), some (.ref 71)]) (st' := [.int ((tq_u (tq_cpTiles (tq_cp (tq_cp (tq_cp I 72 0 6 0 6) 73 0 7 0 6) 74 0 8 0 6) 9 75) 5 4 ((tq_cpTiles (tq_cp (tq_cp (tq_cp I 72 0 6 0 6) 73 0 7 0 6) 74 0 8 0 6) 9 75) 71 4)) 71 5), .ref 5]) (I' := (tq_u (tq_cpTiles (tq_cp (tq_cp (tq_cp I 72 0 6 0 6) 73 0 7 0 6) 74 0 8 0 6) 9 75) 5 4 ((tq_cpTiles (tq_cp (tq_cp (tq_cp I 72 0 6 0 6) 73 0 7 0 6) 74 0 8 0 6) 9 75) 71 4))) (J' := J) rfl ?_
  refine EV_puti (own := 6) (idx := 46) (c := 6) (j := 5) (pl := 152) C rfl (Or.inl (by decide)) (by decide +kernel) rfl rfl (Or.inr ⟨rfl, hbd⟩) ?_
  exact EV_vret C hZ rfl (by decide +kernel) (Nat.le_refl _) (Nat.le_refl _) ⟨rfl, rfl, rfl, rfl, rfl⟩
set_option maxRecDepth 20000 in
theorem c_X1_copyFrom_12_78 (g : tq_G) (rest : List tq_S) (I : tq_I) (J : Int64)   : CT g mX1_copyFrom 2 0 0 [.ref 12, .ref 78] (tq_SC ++ rest) tq_RR I J (tq_ret (tq_SC ++ rest) tq_RR none (tq_cpCanvas I 12 78) J) := by
  refine CT.ret kX1_copyFrom (Nat.le_of_ble_eq_true rfl) (fun x0 C hR hZ => ?_)
  refine EV_en (lv' := [some (.ref 12), some (.ref 78)]) 0 rfl ?_
  refine EV_blk (own := 1) C rfl [(.aload_n 1, 0, 0, 0, 0), (.getfield 9, 1, 0, 173, 0), (.iconst 0, 0, 0, 0, (nI 0)), (.aload_n 0, 0, 0, 0, 0), (.getfield 9, 1, 0, 173, 0), (.iconst 0, 0, 0, 0, (nI 0)), (.bipush 100, 0, 0, 0, (nI 100))] (pc' := 12) (by decide +kernel) (lv' := [some (.ref 12), some (.ref 78)]) (st' := [.int (nI 100), .int (nI 0), .ref 13, .int (nI 0), .ref 79]) (I' := I) (J' := J) rfl ?_
  refine EV_copy (own := 1) (idx := 24) (pl := 432) (sp' := 0) (dp' := 0) (z' := 100) C hR rfl (by decide) (by decide +kernel) (by decide) (Nat.le_of_ble_eq_true rfl) rfl rfl (nI_toInt (by omega)) (nI_toInt (by omega)) (nI_toInt (by omega)) (by omega) (by omega) ?_
  refine EV_blk (own := 1) C rfl [(.aload_n 1, 0, 0, 0, 0), (.getfield 15, 1, 1, 176, 0), (.iconst 0, 0, 0, 0, (nI 0)), (.aload_n 0, 0, 0, 0, 0), (.getfield 15, 1, 1, 176, 0), (.iconst 0, 0, 0, 0, (nI 0)), (.sipush 700, 0, 0, 0, (nI 700))] (pc' := 28) (by decide +kernel) (lv' := [some (.ref 12), some (.ref 78)]) (st' := [.int (nI 700), .int (nI 0), .ref 14, .int (nI 0), .ref 80]) (I' := (tq_cp I 79 0 13 0 100)) (J' := J) rfl ?_
  refine EV_copy (own := 1) (idx := 24) (pl := 432) (sp' := 0) (dp' := 0) (z' := 700) C hR rfl (by decide) (by decide +kernel) (by decide) (Nat.le_of_ble_eq_true rfl) rfl rfl (nI_toInt (by omega)) (nI_toInt (by omega)) (nI_toInt (by omega)) (by omega) (by omega) ?_
  refine EV_blk (own := 1) C rfl [(.aload_n 1, 0, 0, 0, 0), (.getfield 18, 1, 2, 177, 0), (.iconst 0, 0, 0, 0, (nI 0)), (.aload_n 0, 0, 0, 0, 0), (.getfield 18, 1, 2, 177, 0), (.iconst 0, 0, 0, 0, (nI 0)), (.bipush 100, 0, 0, 0, (nI 100))] (pc' := 43) (by decide +kernel) (lv' := [some (.ref 12), some (.ref 78)]) (st' := [.int (nI 100), .int (nI 0), .ref 15, .int (nI 0), .ref 81]) (I' := (tq_cp (tq_cp I 79 0 13 0 100) 80 0 14 0 700)) (J' := J) rfl ?_
  refine EV_copy (own := 1) (idx := 24) (pl := 432) (sp' := 0) (dp' := 0) (z' := 100) C hR rfl (by decide) (by decide +kernel) (by decide) (Nat.le_of_ble_eq_true rfl) rfl rfl (nI_toInt (by omega)) (nI_toInt (by omega)) (nI_toInt (by omega)) (by omega) (by omega) ?_
  refine EV_blk (own := 1) C rfl [(.aload_n 1, 0, 0, 0, 0), (.getfield 21, 1, 3, 178, 0), (.iconst 0, 0, 0, 0, (nI 0)), (.aload_n 0, 0, 0, 0, 0), (.getfield 21, 1, 3, 178, 0), (.iconst 0, 0, 0, 0, (nI 0)), (.bipush 100, 0, 0, 0, (nI 100))] (pc' := 58) (by decide +kernel) (lv' := [some (.ref 12), some (.ref 78)]) (st' := [.int (nI 100), .int (nI 0), .ref 16, .int (nI 0), .ref 82]) (I' := (tq_cp (tq_cp (tq_cp I 79 0 13 0 100) 80 0 14 0 700) 81 0 15 0 100)) (J' := J) rfl ?_
  refine EV_copy (own := 1) (idx := 24) (pl := 432) (sp' := 0) (dp' := 0) (z' := 100) C hR rfl (by decide) (by decide +kernel) (by decide) (Nat.le_of_ble_eq_true rfl) rfl rfl (nI_toInt (by omega)) (nI_toInt (by omega)) (nI_toInt (by omega)) (by omega) (by omega) ?_
  exact EV_vret C hZ rfl (by decide +kernel) (Nat.le_refl _) (Nat.le_refl _) ⟨rfl, rfl, rfl, rfl, rfl⟩
set_option maxRecDepth 20000 in
theorem c_X8_copyFrom_1_67 (g : tq_G) (rest : List tq_S) (I : tq_I) (J : Int64)  (hbd : I 71 5 = 0 ∨ I 71 5 = 1) : CT g mX8_copyFrom 4 0 0 [.ref 1, .ref 67] (tq_SC ++ rest) tq_RR I J (tq_ret (tq_SC ++ rest) tq_RR none (tq_cpSt I 1 67) J) := by
  refine CT.ret kX8_copyFrom (Nat.le_of_ble_eq_true rfl) (fun x0 C hR hZ => ?_)
  refine EV_en (lv' := [some (.ref 1), some (.ref 67)]) 0 rfl ?_
  refine EV_blk (own := 8) C rfl [(.aload_n 0, 0, 0, 0, 0), (.getfield 12, 8, 0, 190, 0), (.aload_n 1, 0, 0, 0, 0), (.getfield 12, 8, 0, 190, 0)] (pc' := 8) (by decide +kernel) (lv' := [some (.ref 1), some (.ref 67)]) (st' := [.ref 68, .ref 2]) (I' := I) (J' := J) rfl ?_
  refine EV_cV (own := 8) (idx := 32) (μ' := mX3_copyFrom) (b := 2) (cb := 3) (av := [.ref 68]) (rest := []) C hR rfl (Or.inl ⟨411, by decide⟩) kX3_copyFrom sX3_copyFrom (c_X3_copyFrom_2_68 g rest I J ) rfl rfl (by decide +kernel) rfl (by decide) (Nat.le_of_ble_eq_true rfl) rfl ⟨Nat.zero_le _, Nat.zero_le _⟩ ?_
  refine EV_blk (own := 8) C rfl [(.aload_n 0, 0, 0, 0, 0), (.getfield 21, 8, 1, 194, 0), (.aload_n 1, 0, 0, 0, 0), (.getfield 21, 8, 1, 194, 0)] (pc' := 19) (by decide +kernel) (lv' := [some (.ref 1), some (.ref 67)]) (st' := [.ref 71, .ref 5]) (I' := (tq_cpLand I 2 68)) (J' := J) rfl ?_
  refine EV_cV (own := 8) (idx := 36) (μ' := mX6_copyFrom) (b := 5) (cb := 6) (av := [.ref 71]) (rest := []) C hR rfl (Or.inl ⟨418, by decide⟩) kX6_copyFrom sX6_copyFrom (c_X6_copyFrom_5_71 g rest (tq_cpLand I 2 68) J hbd) rfl rfl (by decide +kernel) rfl (by decide) (Nat.le_of_ble_eq_true rfl) rfl ⟨Nat.zero_le _, Nat.zero_le _⟩ ?_
  refine EV_blk (own := 8) C rfl [(.aload_n 0, 0, 0, 0, 0), (.getfield 28, 8, 2, 197, 0), (.aload_n 1, 0, 0, 0, 0), (.getfield 28, 8, 2, 197, 0)] (pc' := 30) (by decide +kernel) (lv' := [some (.ref 1), some (.ref 67)]) (st' := [.ref 78, .ref 12]) (I' := (tq_cpRules (tq_cpLand I 2 68) 5 71)) (J' := J) rfl ?_
  refine EV_cV (own := 8) (idx := 39) (μ' := mX1_copyFrom) (b := 12) (cb := 1) (av := [.ref 78]) (rest := []) C hR rfl (Or.inl ⟨428, by decide⟩) kX1_copyFrom sX1_copyFrom (c_X1_copyFrom_12_78 g rest (tq_cpRules (tq_cpLand I 2 68) 5 71) J ) rfl rfl (by decide +kernel) rfl (by decide) (Nat.le_of_ble_eq_true rfl) rfl ⟨Nat.zero_le _, Nat.zero_le _⟩ ?_
  exact EV_vret C hZ rfl (by decide +kernel) (Nat.le_refl _) (Nat.le_refl _) ⟨rfl, rfl, rfl, rfl, rfl⟩
set_option maxRecDepth 20000 in
theorem c_X3_copyFrom_2_84 (g : tq_G) (rest : List tq_S) (I : tq_I) (J : Int64)   : CT g mX3_copyFrom 2 0 0 [.ref 2, .ref 84] (tq_SC ++ rest) tq_RR I J (tq_ret (tq_SC ++ rest) tq_RR none (tq_cpLand I 2 84) J) := by
  refine CT.ret kX3_copyFrom (Nat.le_of_ble_eq_true rfl) (fun x0 C hR hZ => ?_)
  refine EV_en (lv' := [some (.ref 2), some (.ref 84)]) 0 rfl ?_
  refine EV_blk (own := 3) C rfl [(.aload_n 0, 0, 0, 0, 0), (.aload_n 1, 0, 0, 0, 0), (.getfield 18, 3, 0, 95, 0), (.putfield 18, 3, 0, 95, 0), (.aload_n 0, 0, 0, 0, 0), (.aload_n 1, 0, 0, 0, 0), (.getfield 22, 3, 1, 99, 0), (.putfield 22, 3, 1, 99, 0), (.aload_n 1, 0, 0, 0, 0), (.getfield 9, 3, 2, 103, 0), (.iconst 0, 0, 0, 0, (nI 0)), (.aload_n 0, 0, 0, 0, 0), (.getfield 9, 3, 2, 103, 0), (.iconst 0, 0, 0, 0, (nI 0)), (.bipush 121, 0, 0, 0, (nI 121))] (pc' := 28) (by decide +kernel) (lv' := [some (.ref 2), some (.ref 84)]) (st' := [.int (nI 121), .int (nI 0), .ref 3, .int (nI 0), .ref 85]) (I' := (tq_u (tq_u I 2 0 (I 84 0)) 2 1 ((tq_u I 2 0 (I 84 0)) 84 1))) (J' := J) rfl ?_
  refine EV_copy (own := 3) (idx := 25) (pl := 415) (sp' := 0) (dp' := 0) (z' := 121) C hR rfl (by decide) (by decide +kernel) (by decide) (Nat.le_of_ble_eq_true rfl) rfl rfl (nI_toInt (by omega)) (nI_toInt (by omega)) (nI_toInt (by omega)) (by omega) (by omega) ?_
  refine EV_blk (own := 3) C rfl [(.aload_n 1, 0, 0, 0, 0), (.getfield 15, 3, 3, 106, 0), (.iconst 0, 0, 0, 0, (nI 0)), (.aload_n 0, 0, 0, 0, 0), (.getfield 15, 3, 3, 106, 0), (.iconst 0, 0, 0, 0, (nI 0)), (.bipush 100, 0, 0, 0, (nI 100))] (pc' := 43) (by decide +kernel) (lv' := [some (.ref 2), some (.ref 84)]) (st' := [.int (nI 100), .int (nI 0), .ref 4, .int (nI 0), .ref 86]) (I' := (tq_cp (tq_u (tq_u I 2 0 (I 84 0)) 2 1 ((tq_u I 2 0 (I 84 0)) 84 1)) 85 0 3 0 121)) (J' := J) rfl ?_
  refine EV_copy (own := 3) (idx := 25) (pl := 415) (sp' := 0) (dp' := 0) (z' := 100) C hR rfl (by decide) (by decide +kernel) (by decide) (Nat.le_of_ble_eq_true rfl) rfl rfl (nI_toInt (by omega)) (nI_toInt (by omega)) (nI_toInt (by omega)) (by omega) (by omega) ?_
  exact EV_vret C hZ rfl (by decide +kernel) (Nat.le_refl _) (Nat.le_refl _) ⟨rfl, rfl, rfl, rfl, rfl⟩
set_option maxRecDepth 20000 in
theorem c_X10_copyFrom_9_91 (g : tq_G) (rest : List tq_S) (I : tq_I) (J : Int64)   : CT g mX10_copyFrom 2 0 0 [.ref 9, .ref 91] (tq_SC ++ rest) tq_RR I J (tq_ret (tq_SC ++ rest) tq_RR none (tq_cpTiles I 9 91) J) := by
  refine CT.ret kX10_copyFrom (Nat.le_of_ble_eq_true rfl) (fun x0 C hR hZ => ?_)
  refine EV_en (lv' := [some (.ref 9), some (.ref 91)]) 0 rfl ?_
  refine EV_blk (own := 10) C rfl [(.aload_n 1, 0, 0, 0, 0), (.getfield 9, 10, 0, 131, 0), (.iconst 0, 0, 0, 0, (nI 0)), (.aload_n 0, 0, 0, 0, 0), (.getfield 9, 10, 0, 131, 0), (.iconst 0, 0, 0, 0, (nI 0)), (.bipush 6, 0, 0, 0, (nI 6))] (pc' := 12) (by decide +kernel) (lv' := [some (.ref 9), some (.ref 91)]) (st' := [.int (nI 6), .int (nI 0), .ref 10, .int (nI 0), .ref 92]) (I' := I) (J' := J) rfl ?_
  refine EV_copy (own := 10) (idx := 19) (pl := 427) (sp' := 0) (dp' := 0) (z' := 6) C hR rfl (by decide) (by decide +kernel) (by decide) (Nat.le_of_ble_eq_true rfl) rfl rfl (nI_toInt (by omega)) (nI_toInt (by omega)) (nI_toInt (by omega)) (by omega) (by omega) ?_
  refine EV_blk (own := 10) C rfl [(.aload_n 1, 0, 0, 0, 0), (.getfield 15, 10, 1, 132, 0), (.iconst 0, 0, 0, 0, (nI 0)), (.aload_n 0, 0, 0, 0, 0), (.getfield 15, 10, 1, 132, 0), (.iconst 0, 0, 0, 0, (nI 0)), (.bipush 96, 0, 0, 0, (nI 96))] (pc' := 27) (by decide +kernel) (lv' := [some (.ref 9), some (.ref 91)]) (st' := [.int (nI 96), .int (nI 0), .ref 11, .int (nI 0), .ref 93]) (I' := (tq_cp I 92 0 10 0 6)) (J' := J) rfl ?_
  refine EV_copy (own := 10) (idx := 19) (pl := 427) (sp' := 0) (dp' := 0) (z' := 96) C hR rfl (by decide) (by decide +kernel) (by decide) (Nat.le_of_ble_eq_true rfl) rfl rfl (nI_toInt (by omega)) (nI_toInt (by omega)) (nI_toInt (by omega)) (by omega) (by omega) ?_
  exact EV_vret C hZ rfl (by decide +kernel) (Nat.le_refl _) (Nat.le_refl _) ⟨rfl, rfl, rfl, rfl, rfl⟩
set_option maxRecDepth 20000 in
theorem c_X6_copyFrom_5_87 (g : tq_G) (rest : List tq_S) (I : tq_I) (J : Int64)  (hbd : I 87 5 = 0 ∨ I 87 5 = 1) : CT g mX6_copyFrom 3 0 0 [.ref 5, .ref 87] (tq_SC ++ rest) tq_RR I J (tq_ret (tq_SC ++ rest) tq_RR none (tq_cpRules I 5 87) J) := by
  refine CT.ret kX6_copyFrom (Nat.le_of_ble_eq_true rfl) (fun x0 C hR hZ => ?_)
  refine EV_en (lv' := [some (.ref 5), some (.ref 87)]) 0 rfl ?_
  refine EV_blk (own := 6) C rfl [(.aload_n 1, 0, 0, 0, 0), (.getfield 9, 6, 0, 142, 0), (.iconst 0, 0, 0, 0, (nI 0)), (.aload_n 0, 0, 0, 0, 0), (.getfield 9, 6, 0, 142, 0), (.iconst 0, 0, 0, 0, (nI 0)), (.bipush 6, 0, 0, 0, (nI 6))] (pc' := 12) (by decide +kernel) (lv' := [some (.ref 5), some (.ref 87)]) (st' := [.int (nI 6), .int (nI 0), .ref 6, .int (nI 0), .ref 88]) (I' := I) (J' := J) rfl ?_
  refine EV_copy (own := 6) (idx := 32) (pl := 422) (sp' := 0) (dp' := 0) (z' := 6) C hR rfl (by decide) (by decide +kernel) (by decide) (Nat.le_of_ble_eq_true rfl) rfl rfl (nI_toInt (by omega)) (nI_toInt (by omega)) (nI_toInt (by omega)) (by omega) (by omega) ?_
  refine EV_blk (own := 6) C rfl [(.aload_n 1, 0, 0, 0, 0), (.getfield 15, 6, 1, 143, 0), (.iconst 0, 0, 0, 0, (nI 0)), (.aload_n 0, 0, 0, 0, 0), (.getfield 15, 6, 1, 143, 0), (.iconst 0, 0, 0, 0, (nI 0)), (.bipush 6, 0, 0, 0, (nI 6))] (pc' := 27) (by decide +kernel) (lv' := [some (.ref 5), some (.ref 87)]) (st' := [.int (nI 6), .int (nI 0), .ref 7, .int (nI 0), .ref 89]) (I' := (tq_cp I 88 0 6 0 6)) (J' := J) rfl ?_
  refine EV_copy (own := 6) (idx := 32) (pl := 422) (sp' := 0) (dp' := 0) (z' := 6) C hR rfl (by decide) (by decide +kernel) (by decide) (Nat.le_of_ble_eq_true rfl) rfl rfl (nI_toInt (by omega)) (nI_toInt (by omega)) (nI_toInt (by omega)) (by omega) (by omega) ?_
  refine EV_blk (own := 6) C rfl [(.aload_n 1, 0, 0, 0, 0), (.getfield 18, 6, 2, 144, 0), (.iconst 0, 0, 0, 0, (nI 0)), (.aload_n 0, 0, 0, 0, 0), (.getfield 18, 6, 2, 144, 0), (.iconst 0, 0, 0, 0, (nI 0)), (.bipush 6, 0, 0, 0, (nI 6))] (pc' := 42) (by decide +kernel) (lv' := [some (.ref 5), some (.ref 87)]) (st' := [.int (nI 6), .int (nI 0), .ref 8, .int (nI 0), .ref 90]) (I' := (tq_cp (tq_cp I 88 0 6 0 6) 89 0 7 0 6)) (J' := J) rfl ?_
  refine EV_copy (own := 6) (idx := 32) (pl := 422) (sp' := 0) (dp' := 0) (z' := 6) C hR rfl (by decide) (by decide +kernel) (by decide) (Nat.le_of_ble_eq_true rfl) rfl rfl (nI_toInt (by omega)) (nI_toInt (by omega)) (nI_toInt (by omega)) (by omega) (by omega) ?_
  refine EV_blk (own := 6) C rfl [(.aload_n 0, 0, 0, 0, 0), (.getfield 24, 6, 3, 146, 0), (.aload_n 1, 0, 0, 0, 0), (.getfield 24, 6, 3, 146, 0)] (pc' := 53) (by decide +kernel) (lv' := [some (.ref 5), some (.ref 87)]) (st' := [.ref 91, .ref 9]) (I' := (tq_cp (tq_cp (tq_cp I 88 0 6 0 6) 89 0 7 0 6) 90 0 8 0 6)) (J' := J) rfl ?_
  refine EV_cV (own := 6) (idx := 38) (μ' := mX10_copyFrom) (b := 9) (cb := 10) (av := [.ref 91]) (rest := []) C hR rfl (Or.inl ⟨423, by decide⟩) kX10_copyFrom sX10_copyFrom (c_X10_copyFrom_9_91 g rest (tq_cp (tq_cp (tq_cp I 88 0 6 0 6) 89 0 7 0 6) 90 0 8 0 6) J ) rfl rfl (by decide +kernel) rfl (by decide) (Nat.le_of_ble_eq_true rfl) rfl ⟨Nat.zero_le _, Nat.zero_le _⟩ ?_
  refine EV_blk (own := 6) C rfl [(.aload_n 0, 0, 0, 0, 0), (.aload_n 1, 0, 0, 0, 0), (.getfield 42, 6, 4, 149, 0), (.putfield 42, 6, 4, 149, 0), (.aload_n 0, 0, 0, 0, 0), (.aload_n 1, 0, 0, 0, 0), (.getfield 46, 6, 5, 152, 0)] (pc' := 69) (by decide +kernel) (lv' := [some (.ref 5), some (.ref 87)]) (st' := [.int ((tq_u (tq_cpTiles (tq_cp (tq_cp (tq_cp I 88 0 6 0 6) 89 0 7 0 6) 90 0 8 0 6) 9 91) 5 4 ((tq_cpTiles (tq_cp (tq_cp (tq_cp I 88 0 6 0 6) 89 0 7 0 6) 90 0 8 0 6) 9 91) 87 4)) 87 5), .ref 5]) (I' := (tq_u (tq_cpTiles (tq_cp (tq_cp (tq_cp I 88 0 6 0 6) 89 0 7 0 6) 90 0 8 0 6) 9 91) 5 4 ((tq_cpTiles (tq_cp (tq_cp (tq_cp I 88 0 6 0 6) 89 0 7 0 6) 90 0 8 0 6) 9 91) 87 4))) (J' := J) rfl ?_
  refine EV_puti (own := 6) (idx := 46) (c := 6) (j := 5) (pl := 152) C rfl (Or.inl (by decide)) (by decide +kernel) rfl rfl (Or.inr ⟨rfl, hbd⟩) ?_
  exact EV_vret C hZ rfl (by decide +kernel) (Nat.le_refl _) (Nat.le_refl _) ⟨rfl, rfl, rfl, rfl, rfl⟩
set_option maxRecDepth 20000 in
theorem c_X1_copyFrom_12_94 (g : tq_G) (rest : List tq_S) (I : tq_I) (J : Int64)   : CT g mX1_copyFrom 2 0 0 [.ref 12, .ref 94] (tq_SC ++ rest) tq_RR I J (tq_ret (tq_SC ++ rest) tq_RR none (tq_cpCanvas I 12 94) J) := by
  refine CT.ret kX1_copyFrom (Nat.le_of_ble_eq_true rfl) (fun x0 C hR hZ => ?_)
  refine EV_en (lv' := [some (.ref 12), some (.ref 94)]) 0 rfl ?_
  refine EV_blk (own := 1) C rfl [(.aload_n 1, 0, 0, 0, 0), (.getfield 9, 1, 0, 173, 0), (.iconst 0, 0, 0, 0, (nI 0)), (.aload_n 0, 0, 0, 0, 0), (.getfield 9, 1, 0, 173, 0), (.iconst 0, 0, 0, 0, (nI 0)), (.bipush 100, 0, 0, 0, (nI 100))] (pc' := 12) (by decide +kernel) (lv' := [some (.ref 12), some (.ref 94)]) (st' := [.int (nI 100), .int (nI 0), .ref 13, .int (nI 0), .ref 95]) (I' := I) (J' := J) rfl ?_
  refine EV_copy (own := 1) (idx := 24) (pl := 432) (sp' := 0) (dp' := 0) (z' := 100) C hR rfl (by decide) (by decide +kernel) (by decide) (Nat.le_of_ble_eq_true rfl) rfl rfl (nI_toInt (by omega)) (nI_toInt (by omega)) (nI_toInt (by omega)) (by omega) (by omega) ?_
  refine EV_blk (own := 1) C rfl [(.aload_n 1, 0, 0, 0, 0), (.getfield 15, 1, 1, 176, 0), (.iconst 0, 0, 0, 0, (nI 0)), (.aload_n 0, 0, 0, 0, 0), (.getfield 15, 1, 1, 176, 0), (.iconst 0, 0, 0, 0, (nI 0)), (.sipush 700, 0, 0, 0, (nI 700))] (pc' := 28) (by decide +kernel) (lv' := [some (.ref 12), some (.ref 94)]) (st' := [.int (nI 700), .int (nI 0), .ref 14, .int (nI 0), .ref 96]) (I' := (tq_cp I 95 0 13 0 100)) (J' := J) rfl ?_
  refine EV_copy (own := 1) (idx := 24) (pl := 432) (sp' := 0) (dp' := 0) (z' := 700) C hR rfl (by decide) (by decide +kernel) (by decide) (Nat.le_of_ble_eq_true rfl) rfl rfl (nI_toInt (by omega)) (nI_toInt (by omega)) (nI_toInt (by omega)) (by omega) (by omega) ?_
  refine EV_blk (own := 1) C rfl [(.aload_n 1, 0, 0, 0, 0), (.getfield 18, 1, 2, 177, 0), (.iconst 0, 0, 0, 0, (nI 0)), (.aload_n 0, 0, 0, 0, 0), (.getfield 18, 1, 2, 177, 0), (.iconst 0, 0, 0, 0, (nI 0)), (.bipush 100, 0, 0, 0, (nI 100))] (pc' := 43) (by decide +kernel) (lv' := [some (.ref 12), some (.ref 94)]) (st' := [.int (nI 100), .int (nI 0), .ref 15, .int (nI 0), .ref 97]) (I' := (tq_cp (tq_cp I 95 0 13 0 100) 96 0 14 0 700)) (J' := J) rfl ?_
  refine EV_copy (own := 1) (idx := 24) (pl := 432) (sp' := 0) (dp' := 0) (z' := 100) C hR rfl (by decide) (by decide +kernel) (by decide) (Nat.le_of_ble_eq_true rfl) rfl rfl (nI_toInt (by omega)) (nI_toInt (by omega)) (nI_toInt (by omega)) (by omega) (by omega) ?_
  refine EV_blk (own := 1) C rfl [(.aload_n 1, 0, 0, 0, 0), (.getfield 21, 1, 3, 178, 0), (.iconst 0, 0, 0, 0, (nI 0)), (.aload_n 0, 0, 0, 0, 0), (.getfield 21, 1, 3, 178, 0), (.iconst 0, 0, 0, 0, (nI 0)), (.bipush 100, 0, 0, 0, (nI 100))] (pc' := 58) (by decide +kernel) (lv' := [some (.ref 12), some (.ref 94)]) (st' := [.int (nI 100), .int (nI 0), .ref 16, .int (nI 0), .ref 98]) (I' := (tq_cp (tq_cp (tq_cp I 95 0 13 0 100) 96 0 14 0 700) 97 0 15 0 100)) (J' := J) rfl ?_
  refine EV_copy (own := 1) (idx := 24) (pl := 432) (sp' := 0) (dp' := 0) (z' := 100) C hR rfl (by decide) (by decide +kernel) (by decide) (Nat.le_of_ble_eq_true rfl) rfl rfl (nI_toInt (by omega)) (nI_toInt (by omega)) (nI_toInt (by omega)) (by omega) (by omega) ?_
  exact EV_vret C hZ rfl (by decide +kernel) (Nat.le_refl _) (Nat.le_refl _) ⟨rfl, rfl, rfl, rfl, rfl⟩
set_option maxRecDepth 20000 in
theorem c_X8_copyFrom_1_83 (g : tq_G) (rest : List tq_S) (I : tq_I) (J : Int64)  (hbd : I 87 5 = 0 ∨ I 87 5 = 1) : CT g mX8_copyFrom 4 0 0 [.ref 1, .ref 83] (tq_SC ++ rest) tq_RR I J (tq_ret (tq_SC ++ rest) tq_RR none (tq_cpSt I 1 83) J) := by
  refine CT.ret kX8_copyFrom (Nat.le_of_ble_eq_true rfl) (fun x0 C hR hZ => ?_)
  refine EV_en (lv' := [some (.ref 1), some (.ref 83)]) 0 rfl ?_
  refine EV_blk (own := 8) C rfl [(.aload_n 0, 0, 0, 0, 0), (.getfield 12, 8, 0, 190, 0), (.aload_n 1, 0, 0, 0, 0), (.getfield 12, 8, 0, 190, 0)] (pc' := 8) (by decide +kernel) (lv' := [some (.ref 1), some (.ref 83)]) (st' := [.ref 84, .ref 2]) (I' := I) (J' := J) rfl ?_
  refine EV_cV (own := 8) (idx := 32) (μ' := mX3_copyFrom) (b := 2) (cb := 3) (av := [.ref 84]) (rest := []) C hR rfl (Or.inl ⟨411, by decide⟩) kX3_copyFrom sX3_copyFrom (c_X3_copyFrom_2_84 g rest I J ) rfl rfl (by decide +kernel) rfl (by decide) (Nat.le_of_ble_eq_true rfl) rfl ⟨Nat.zero_le _, Nat.zero_le _⟩ ?_
  refine EV_blk (own := 8) C rfl [(.aload_n 0, 0, 0, 0, 0), (.getfield 21, 8, 1, 194, 0), (.aload_n 1, 0, 0, 0, 0), (.getfield 21, 8, 1, 194, 0)] (pc' := 19) (by decide +kernel) (lv' := [some (.ref 1), some (.ref 83)]) (st' := [.ref 87, .ref 5]) (I' := (tq_cpLand I 2 84)) (J' := J) rfl ?_
  refine EV_cV (own := 8) (idx := 36) (μ' := mX6_copyFrom) (b := 5) (cb := 6) (av := [.ref 87]) (rest := []) C hR rfl (Or.inl ⟨418, by decide⟩) kX6_copyFrom sX6_copyFrom (c_X6_copyFrom_5_87 g rest (tq_cpLand I 2 84) J hbd) rfl rfl (by decide +kernel) rfl (by decide) (Nat.le_of_ble_eq_true rfl) rfl ⟨Nat.zero_le _, Nat.zero_le _⟩ ?_
  refine EV_blk (own := 8) C rfl [(.aload_n 0, 0, 0, 0, 0), (.getfield 28, 8, 2, 197, 0), (.aload_n 1, 0, 0, 0, 0), (.getfield 28, 8, 2, 197, 0)] (pc' := 30) (by decide +kernel) (lv' := [some (.ref 1), some (.ref 83)]) (st' := [.ref 94, .ref 12]) (I' := (tq_cpRules (tq_cpLand I 2 84) 5 87)) (J' := J) rfl ?_
  refine EV_cV (own := 8) (idx := 39) (μ' := mX1_copyFrom) (b := 12) (cb := 1) (av := [.ref 94]) (rest := []) C hR rfl (Or.inl ⟨428, by decide⟩) kX1_copyFrom sX1_copyFrom (c_X1_copyFrom_12_94 g rest (tq_cpRules (tq_cpLand I 2 84) 5 87) J ) rfl rfl (by decide +kernel) rfl (by decide) (Nat.le_of_ble_eq_true rfl) rfl ⟨Nat.zero_le _, Nat.zero_le _⟩ ?_
  exact EV_vret C hZ rfl (by decide +kernel) (Nat.le_refl _) (Nat.le_refl _) ⟨rfl, rfl, rfl, rfl, rfl⟩
def tq_rec (I : tq_I) (o c : Nat) : tq_I := if c < 5 then tq_u (tq_cpSt I (19 + 16 * ((o + c) % 5)) 1) 17 2 (nI (c + 1)) else tq_u (tq_cpSt I (19 + 16 * ((o + c) % 5)) 1) 17 1 (nI ((o + 1) % 5))
def tq_res (I : tq_I) (o c : Nat) : tq_I := tq_cpSt (tq_u I 17 2 (nI (c - 1))) 1 (19 + 16 * ((o + (c - 1)) % 5))
theorem tq_mod5 (n : Nat) : n % 5 = 0 ∨ n % 5 = 1 ∨ n % 5 = 2 ∨ n % 5 = 3 ∨ n % 5 = 4 := by omega
set_option maxRecDepth 20000 in
theorem c_X2_record (g : tq_G) (rest : List tq_S) (I : tq_I) (J : Int64) (o c : Nat) (ho : I 17 1 = nI o) (hc : I 17 2 = nI c) (ho5 : o < 5) (hc5 : c ≤ 5) (hbd : I 5 5 = 0 ∨ I 5 5 = 1) : CT g mX2_record 5 0 0 [.ref 17, .ref 1] (tq_SC ++ rest) tq_RR I J (tq_ret (tq_SC ++ rest) tq_RR none (tq_rec I o c) J) := by
  refine CT.ret kX2_record (Nat.le_of_ble_eq_true rfl) (fun x0 C hR hZ => ?_)
  refine EV_en (lv' := [some (.ref 17), some (.ref 1), none]) 1 rfl ?_
  refine EV_blk (own := 2) C rfl [(.aload_n 0, 0, 0, 0, 0), (.getfield 11, 2, 0, 216, 0), (.aload_n 0, 0, 0, 0, 0), (.getfield 16, 2, 1, 217, 0), (.aload_n 0, 0, 0, 0, 0), (.getfield 20, 2, 2, 218, 0), (.iadd, 0, 0, 0, 0), (.iconst 5, 0, 0, 0, (nI 5))] (pc' := 14) (by decide +kernel) (lv' := [some (.ref 17), some (.ref 1), none]) (st' := [.int (nI 5), .int ((I 17 1) + (I 17 2)), .ref 18]) (I' := I) (J' := J) rfl ?_
  refine EV_irem C (by decide +kernel) (by decide) ?_
  rcases tq_mod5 (o + c) with hk | hk | hk | hk | hk
  · skip
    refine EV_aald (j := 0) (b := 19) C (by decide +kernel) rfl (tq_toI 0 (by rw [ho, hc, nI_add, tq_rem_nI (by omega) (by decide), hk]) (by decide)) (by decide) rfl ?_
    refine EV_blk (own := 2) C rfl [(.astore_n 2, 0, 0, 0, 0), (.aload_n 2, 0, 0, 0, 0)] (pc' := 18) (by decide +kernel) (lv' := [some (.ref 17), some (.ref 1), some (.ref 19)]) (st' := [.ref 19]) (I' := I) (J' := J) rfl ?_
    refine EV_ifnonnull (off := 4) (tgt := 22) C (by decide +kernel) (by decide) ?_
    refine EV_blk (own := 2) C rfl [(.aload_n 2, 0, 0, 0, 0), (.aload_n 1, 0, 0, 0, 0)] (pc' := 24) (by decide +kernel) (lv' := [some (.ref 17), some (.ref 1), some (.ref 19)]) (st' := [.ref 1, .ref 19]) (I' := I) (J' := J) rfl ?_
    refine EV_cV (own := 2) (idx := 23) (μ' := mX8_copyFrom) (b := 19) (cb := 8) (av := [.ref 1]) (rest := []) C hR rfl (Or.inl ⟨407, by decide⟩) kX8_copyFrom sX8_copyFrom (c_X8_copyFrom_19_1 g rest I J hbd) rfl rfl (by decide +kernel) rfl (by decide) (Nat.le_of_ble_eq_true rfl) rfl ⟨Nat.zero_le _, Nat.zero_le _⟩ ?_
    refine EV_blk (own := 2) C rfl [(.aload_n 0, 0, 0, 0, 0), (.getfield 20, 2, 2, 218, 0), (.iconst 5, 0, 0, 0, (nI 5))] (pc' := 32) (by decide +kernel) (lv' := [some (.ref 17), some (.ref 1), some (.ref 19)]) (st' := [.int (nI 5), .int ((tq_cpSt I 19 1) 17 2)]) (I' := (tq_cpSt I 19 1)) (J' := J) rfl ?_
    refine EV_icmp_ge (off := 16) (tgt := 48) C (by decide +kernel) (by decide) (fun h1 => ?_) (fun h1 => ?_)
    · skip
      change (nI 5) ≤ I 17 2 at h1
      rw [hc] at h1
      have hcc : (¬ c < 5) := by simp (disch := omega) only [Int32.le_iff_toInt_le, nI_toInt] at h1; omega
      refine EV_blk (own := 2) C rfl [(.aload_n 0, 0, 0, 0, 0), (.aload_n 0, 0, 0, 0, 0), (.getfield 16, 2, 1, 217, 0), (.iconst 1, 0, 0, 0, (nI 1)), (.iadd, 0, 0, 0, 0), (.iconst 5, 0, 0, 0, (nI 5))] (pc' := 56) (by decide +kernel) (lv' := [some (.ref 17), some (.ref 1), some (.ref 19)]) (st' := [.int (nI 5), .int (((tq_cpSt I 19 1) 17 1) + (nI 1)), .ref 17]) (I' := (tq_cpSt I 19 1)) (J' := J) rfl ?_
      refine EV_irem C (by decide +kernel) (by decide) ?_
      refine EV_blk (own := 2) C rfl [(.putfield 16, 2, 1, 217, 0)] (pc' := 60) (by decide +kernel) (lv' := [some (.ref 17), some (.ref 1), some (.ref 19)]) (st' := []) (I' := (tq_u (tq_cpSt I 19 1) 17 1 (tq_rem (((tq_cpSt I 19 1) 17 1) + (nI 1)) (nI 5)))) (J' := J) rfl ?_
      exact EV_vret C hZ rfl (by decide +kernel) (Nat.le_refl _) (Nat.le_refl _) ⟨rfl, rfl, rfl, by show tq_u (tq_cpSt I 19 1) 17 1 (tq_rem (I 17 1 + nI 1) (nI 5)) = tq_rec I o c; rw [ho, nI_add, tq_rem_nI (by omega) (by decide)]; simp only [tq_rec, if_neg hcc, hk], rfl⟩
    · skip
      change ¬ (nI 5) ≤ I 17 2 at h1
      rw [hc] at h1
      have hcc : (c < 5) := by simp (disch := omega) only [Int32.le_iff_toInt_le, nI_toInt] at h1; omega
      refine EV_blk (own := 2) C rfl [(.aload_n 0, 0, 0, 0, 0), (.dup, 0, 0, 0, 0), (.getfield 20, 2, 2, 218, 0), (.iconst 1, 0, 0, 0, (nI 1)), (.iadd, 0, 0, 0, 0), (.putfield 20, 2, 2, 218, 0), (.goto 15, 0, 0, 0, 0)] (pc' := 60) (by decide +kernel) (lv' := [some (.ref 17), some (.ref 1), some (.ref 19)]) (st' := []) (I' := (tq_u (tq_cpSt I 19 1) 17 2 (((tq_cpSt I 19 1) 17 2) + (nI 1)))) (J' := J) rfl ?_
      exact EV_vret C hZ rfl (by decide +kernel) (Nat.le_refl _) (Nat.le_refl _) ⟨rfl, rfl, rfl, by show tq_u (tq_cpSt I 19 1) 17 2 (I 17 2 + nI 1) = tq_rec I o c; rw [hc, nI_add]; simp only [tq_rec, if_pos hcc, hk], rfl⟩
  · skip
    refine EV_aald (j := 1) (b := 35) C (by decide +kernel) rfl (tq_toI 1 (by rw [ho, hc, nI_add, tq_rem_nI (by omega) (by decide), hk]) (by decide)) (by decide) rfl ?_
    refine EV_blk (own := 2) C rfl [(.astore_n 2, 0, 0, 0, 0), (.aload_n 2, 0, 0, 0, 0)] (pc' := 18) (by decide +kernel) (lv' := [some (.ref 17), some (.ref 1), some (.ref 35)]) (st' := [.ref 35]) (I' := I) (J' := J) rfl ?_
    refine EV_ifnonnull (off := 4) (tgt := 22) C (by decide +kernel) (by decide) ?_
    refine EV_blk (own := 2) C rfl [(.aload_n 2, 0, 0, 0, 0), (.aload_n 1, 0, 0, 0, 0)] (pc' := 24) (by decide +kernel) (lv' := [some (.ref 17), some (.ref 1), some (.ref 35)]) (st' := [.ref 1, .ref 35]) (I' := I) (J' := J) rfl ?_
    refine EV_cV (own := 2) (idx := 23) (μ' := mX8_copyFrom) (b := 35) (cb := 8) (av := [.ref 1]) (rest := []) C hR rfl (Or.inl ⟨407, by decide⟩) kX8_copyFrom sX8_copyFrom (c_X8_copyFrom_35_1 g rest I J hbd) rfl rfl (by decide +kernel) rfl (by decide) (Nat.le_of_ble_eq_true rfl) rfl ⟨Nat.zero_le _, Nat.zero_le _⟩ ?_
    refine EV_blk (own := 2) C rfl [(.aload_n 0, 0, 0, 0, 0), (.getfield 20, 2, 2, 218, 0), (.iconst 5, 0, 0, 0, (nI 5))] (pc' := 32) (by decide +kernel) (lv' := [some (.ref 17), some (.ref 1), some (.ref 35)]) (st' := [.int (nI 5), .int ((tq_cpSt I 35 1) 17 2)]) (I' := (tq_cpSt I 35 1)) (J' := J) rfl ?_
    refine EV_icmp_ge (off := 16) (tgt := 48) C (by decide +kernel) (by decide) (fun h2 => ?_) (fun h2 => ?_)
    · skip
      change (nI 5) ≤ I 17 2 at h2
      rw [hc] at h2
      have hcc : (¬ c < 5) := by simp (disch := omega) only [Int32.le_iff_toInt_le, nI_toInt] at h2; omega
      refine EV_blk (own := 2) C rfl [(.aload_n 0, 0, 0, 0, 0), (.aload_n 0, 0, 0, 0, 0), (.getfield 16, 2, 1, 217, 0), (.iconst 1, 0, 0, 0, (nI 1)), (.iadd, 0, 0, 0, 0), (.iconst 5, 0, 0, 0, (nI 5))] (pc' := 56) (by decide +kernel) (lv' := [some (.ref 17), some (.ref 1), some (.ref 35)]) (st' := [.int (nI 5), .int (((tq_cpSt I 35 1) 17 1) + (nI 1)), .ref 17]) (I' := (tq_cpSt I 35 1)) (J' := J) rfl ?_
      refine EV_irem C (by decide +kernel) (by decide) ?_
      refine EV_blk (own := 2) C rfl [(.putfield 16, 2, 1, 217, 0)] (pc' := 60) (by decide +kernel) (lv' := [some (.ref 17), some (.ref 1), some (.ref 35)]) (st' := []) (I' := (tq_u (tq_cpSt I 35 1) 17 1 (tq_rem (((tq_cpSt I 35 1) 17 1) + (nI 1)) (nI 5)))) (J' := J) rfl ?_
      exact EV_vret C hZ rfl (by decide +kernel) (Nat.le_refl _) (Nat.le_refl _) ⟨rfl, rfl, rfl, by show tq_u (tq_cpSt I 35 1) 17 1 (tq_rem (I 17 1 + nI 1) (nI 5)) = tq_rec I o c; rw [ho, nI_add, tq_rem_nI (by omega) (by decide)]; simp only [tq_rec, if_neg hcc, hk], rfl⟩
    · skip
      change ¬ (nI 5) ≤ I 17 2 at h2
      rw [hc] at h2
      have hcc : (c < 5) := by simp (disch := omega) only [Int32.le_iff_toInt_le, nI_toInt] at h2; omega
      refine EV_blk (own := 2) C rfl [(.aload_n 0, 0, 0, 0, 0), (.dup, 0, 0, 0, 0), (.getfield 20, 2, 2, 218, 0), (.iconst 1, 0, 0, 0, (nI 1)), (.iadd, 0, 0, 0, 0), (.putfield 20, 2, 2, 218, 0), (.goto 15, 0, 0, 0, 0)] (pc' := 60) (by decide +kernel) (lv' := [some (.ref 17), some (.ref 1), some (.ref 35)]) (st' := []) (I' := (tq_u (tq_cpSt I 35 1) 17 2 (((tq_cpSt I 35 1) 17 2) + (nI 1)))) (J' := J) rfl ?_
      exact EV_vret C hZ rfl (by decide +kernel) (Nat.le_refl _) (Nat.le_refl _) ⟨rfl, rfl, rfl, by show tq_u (tq_cpSt I 35 1) 17 2 (I 17 2 + nI 1) = tq_rec I o c; rw [hc, nI_add]; simp only [tq_rec, if_pos hcc, hk], rfl⟩
  · skip
    refine EV_aald (j := 2) (b := 51) C (by decide +kernel) rfl (tq_toI 2 (by rw [ho, hc, nI_add, tq_rem_nI (by omega) (by decide), hk]) (by decide)) (by decide) rfl ?_
    refine EV_blk (own := 2) C rfl [(.astore_n 2, 0, 0, 0, 0), (.aload_n 2, 0, 0, 0, 0)] (pc' := 18) (by decide +kernel) (lv' := [some (.ref 17), some (.ref 1), some (.ref 51)]) (st' := [.ref 51]) (I' := I) (J' := J) rfl ?_
    refine EV_ifnonnull (off := 4) (tgt := 22) C (by decide +kernel) (by decide) ?_
    refine EV_blk (own := 2) C rfl [(.aload_n 2, 0, 0, 0, 0), (.aload_n 1, 0, 0, 0, 0)] (pc' := 24) (by decide +kernel) (lv' := [some (.ref 17), some (.ref 1), some (.ref 51)]) (st' := [.ref 1, .ref 51]) (I' := I) (J' := J) rfl ?_
    refine EV_cV (own := 2) (idx := 23) (μ' := mX8_copyFrom) (b := 51) (cb := 8) (av := [.ref 1]) (rest := []) C hR rfl (Or.inl ⟨407, by decide⟩) kX8_copyFrom sX8_copyFrom (c_X8_copyFrom_51_1 g rest I J hbd) rfl rfl (by decide +kernel) rfl (by decide) (Nat.le_of_ble_eq_true rfl) rfl ⟨Nat.zero_le _, Nat.zero_le _⟩ ?_
    refine EV_blk (own := 2) C rfl [(.aload_n 0, 0, 0, 0, 0), (.getfield 20, 2, 2, 218, 0), (.iconst 5, 0, 0, 0, (nI 5))] (pc' := 32) (by decide +kernel) (lv' := [some (.ref 17), some (.ref 1), some (.ref 51)]) (st' := [.int (nI 5), .int ((tq_cpSt I 51 1) 17 2)]) (I' := (tq_cpSt I 51 1)) (J' := J) rfl ?_
    refine EV_icmp_ge (off := 16) (tgt := 48) C (by decide +kernel) (by decide) (fun h3 => ?_) (fun h3 => ?_)
    · skip
      change (nI 5) ≤ I 17 2 at h3
      rw [hc] at h3
      have hcc : (¬ c < 5) := by simp (disch := omega) only [Int32.le_iff_toInt_le, nI_toInt] at h3; omega
      refine EV_blk (own := 2) C rfl [(.aload_n 0, 0, 0, 0, 0), (.aload_n 0, 0, 0, 0, 0), (.getfield 16, 2, 1, 217, 0), (.iconst 1, 0, 0, 0, (nI 1)), (.iadd, 0, 0, 0, 0), (.iconst 5, 0, 0, 0, (nI 5))] (pc' := 56) (by decide +kernel) (lv' := [some (.ref 17), some (.ref 1), some (.ref 51)]) (st' := [.int (nI 5), .int (((tq_cpSt I 51 1) 17 1) + (nI 1)), .ref 17]) (I' := (tq_cpSt I 51 1)) (J' := J) rfl ?_
      refine EV_irem C (by decide +kernel) (by decide) ?_
      refine EV_blk (own := 2) C rfl [(.putfield 16, 2, 1, 217, 0)] (pc' := 60) (by decide +kernel) (lv' := [some (.ref 17), some (.ref 1), some (.ref 51)]) (st' := []) (I' := (tq_u (tq_cpSt I 51 1) 17 1 (tq_rem (((tq_cpSt I 51 1) 17 1) + (nI 1)) (nI 5)))) (J' := J) rfl ?_
      exact EV_vret C hZ rfl (by decide +kernel) (Nat.le_refl _) (Nat.le_refl _) ⟨rfl, rfl, rfl, by show tq_u (tq_cpSt I 51 1) 17 1 (tq_rem (I 17 1 + nI 1) (nI 5)) = tq_rec I o c; rw [ho, nI_add, tq_rem_nI (by omega) (by decide)]; simp only [tq_rec, if_neg hcc, hk], rfl⟩
    · skip
      change ¬ (nI 5) ≤ I 17 2 at h3
      rw [hc] at h3
      have hcc : (c < 5) := by simp (disch := omega) only [Int32.le_iff_toInt_le, nI_toInt] at h3; omega
      refine EV_blk (own := 2) C rfl [(.aload_n 0, 0, 0, 0, 0), (.dup, 0, 0, 0, 0), (.getfield 20, 2, 2, 218, 0), (.iconst 1, 0, 0, 0, (nI 1)), (.iadd, 0, 0, 0, 0), (.putfield 20, 2, 2, 218, 0), (.goto 15, 0, 0, 0, 0)] (pc' := 60) (by decide +kernel) (lv' := [some (.ref 17), some (.ref 1), some (.ref 51)]) (st' := []) (I' := (tq_u (tq_cpSt I 51 1) 17 2 (((tq_cpSt I 51 1) 17 2) + (nI 1)))) (J' := J) rfl ?_
      exact EV_vret C hZ rfl (by decide +kernel) (Nat.le_refl _) (Nat.le_refl _) ⟨rfl, rfl, rfl, by show tq_u (tq_cpSt I 51 1) 17 2 (I 17 2 + nI 1) = tq_rec I o c; rw [hc, nI_add]; simp only [tq_rec, if_pos hcc, hk], rfl⟩
  · skip
    refine EV_aald (j := 3) (b := 67) C (by decide +kernel) rfl (tq_toI 3 (by rw [ho, hc, nI_add, tq_rem_nI (by omega) (by decide), hk]) (by decide)) (by decide) rfl ?_
    refine EV_blk (own := 2) C rfl [(.astore_n 2, 0, 0, 0, 0), (.aload_n 2, 0, 0, 0, 0)] (pc' := 18) (by decide +kernel) (lv' := [some (.ref 17), some (.ref 1), some (.ref 67)]) (st' := [.ref 67]) (I' := I) (J' := J) rfl ?_
    refine EV_ifnonnull (off := 4) (tgt := 22) C (by decide +kernel) (by decide) ?_
    refine EV_blk (own := 2) C rfl [(.aload_n 2, 0, 0, 0, 0), (.aload_n 1, 0, 0, 0, 0)] (pc' := 24) (by decide +kernel) (lv' := [some (.ref 17), some (.ref 1), some (.ref 67)]) (st' := [.ref 1, .ref 67]) (I' := I) (J' := J) rfl ?_
    refine EV_cV (own := 2) (idx := 23) (μ' := mX8_copyFrom) (b := 67) (cb := 8) (av := [.ref 1]) (rest := []) C hR rfl (Or.inl ⟨407, by decide⟩) kX8_copyFrom sX8_copyFrom (c_X8_copyFrom_67_1 g rest I J hbd) rfl rfl (by decide +kernel) rfl (by decide) (Nat.le_of_ble_eq_true rfl) rfl ⟨Nat.zero_le _, Nat.zero_le _⟩ ?_
    refine EV_blk (own := 2) C rfl [(.aload_n 0, 0, 0, 0, 0), (.getfield 20, 2, 2, 218, 0), (.iconst 5, 0, 0, 0, (nI 5))] (pc' := 32) (by decide +kernel) (lv' := [some (.ref 17), some (.ref 1), some (.ref 67)]) (st' := [.int (nI 5), .int ((tq_cpSt I 67 1) 17 2)]) (I' := (tq_cpSt I 67 1)) (J' := J) rfl ?_
    refine EV_icmp_ge (off := 16) (tgt := 48) C (by decide +kernel) (by decide) (fun h4 => ?_) (fun h4 => ?_)
    · skip
      change (nI 5) ≤ I 17 2 at h4
      rw [hc] at h4
      have hcc : (¬ c < 5) := by simp (disch := omega) only [Int32.le_iff_toInt_le, nI_toInt] at h4; omega
      refine EV_blk (own := 2) C rfl [(.aload_n 0, 0, 0, 0, 0), (.aload_n 0, 0, 0, 0, 0), (.getfield 16, 2, 1, 217, 0), (.iconst 1, 0, 0, 0, (nI 1)), (.iadd, 0, 0, 0, 0), (.iconst 5, 0, 0, 0, (nI 5))] (pc' := 56) (by decide +kernel) (lv' := [some (.ref 17), some (.ref 1), some (.ref 67)]) (st' := [.int (nI 5), .int (((tq_cpSt I 67 1) 17 1) + (nI 1)), .ref 17]) (I' := (tq_cpSt I 67 1)) (J' := J) rfl ?_
      refine EV_irem C (by decide +kernel) (by decide) ?_
      refine EV_blk (own := 2) C rfl [(.putfield 16, 2, 1, 217, 0)] (pc' := 60) (by decide +kernel) (lv' := [some (.ref 17), some (.ref 1), some (.ref 67)]) (st' := []) (I' := (tq_u (tq_cpSt I 67 1) 17 1 (tq_rem (((tq_cpSt I 67 1) 17 1) + (nI 1)) (nI 5)))) (J' := J) rfl ?_
      exact EV_vret C hZ rfl (by decide +kernel) (Nat.le_refl _) (Nat.le_refl _) ⟨rfl, rfl, rfl, by show tq_u (tq_cpSt I 67 1) 17 1 (tq_rem (I 17 1 + nI 1) (nI 5)) = tq_rec I o c; rw [ho, nI_add, tq_rem_nI (by omega) (by decide)]; simp only [tq_rec, if_neg hcc, hk], rfl⟩
    · skip
      change ¬ (nI 5) ≤ I 17 2 at h4
      rw [hc] at h4
      have hcc : (c < 5) := by simp (disch := omega) only [Int32.le_iff_toInt_le, nI_toInt] at h4; omega
      refine EV_blk (own := 2) C rfl [(.aload_n 0, 0, 0, 0, 0), (.dup, 0, 0, 0, 0), (.getfield 20, 2, 2, 218, 0), (.iconst 1, 0, 0, 0, (nI 1)), (.iadd, 0, 0, 0, 0), (.putfield 20, 2, 2, 218, 0), (.goto 15, 0, 0, 0, 0)] (pc' := 60) (by decide +kernel) (lv' := [some (.ref 17), some (.ref 1), some (.ref 67)]) (st' := []) (I' := (tq_u (tq_cpSt I 67 1) 17 2 (((tq_cpSt I 67 1) 17 2) + (nI 1)))) (J' := J) rfl ?_
      exact EV_vret C hZ rfl (by decide +kernel) (Nat.le_refl _) (Nat.le_refl _) ⟨rfl, rfl, rfl, by show tq_u (tq_cpSt I 67 1) 17 2 (I 17 2 + nI 1) = tq_rec I o c; rw [hc, nI_add]; simp only [tq_rec, if_pos hcc, hk], rfl⟩
  · skip
    refine EV_aald (j := 4) (b := 83) C (by decide +kernel) rfl (tq_toI 4 (by rw [ho, hc, nI_add, tq_rem_nI (by omega) (by decide), hk]) (by decide)) (by decide) rfl ?_
    refine EV_blk (own := 2) C rfl [(.astore_n 2, 0, 0, 0, 0), (.aload_n 2, 0, 0, 0, 0)] (pc' := 18) (by decide +kernel) (lv' := [some (.ref 17), some (.ref 1), some (.ref 83)]) (st' := [.ref 83]) (I' := I) (J' := J) rfl ?_
    refine EV_ifnonnull (off := 4) (tgt := 22) C (by decide +kernel) (by decide) ?_
    refine EV_blk (own := 2) C rfl [(.aload_n 2, 0, 0, 0, 0), (.aload_n 1, 0, 0, 0, 0)] (pc' := 24) (by decide +kernel) (lv' := [some (.ref 17), some (.ref 1), some (.ref 83)]) (st' := [.ref 1, .ref 83]) (I' := I) (J' := J) rfl ?_
    refine EV_cV (own := 2) (idx := 23) (μ' := mX8_copyFrom) (b := 83) (cb := 8) (av := [.ref 1]) (rest := []) C hR rfl (Or.inl ⟨407, by decide⟩) kX8_copyFrom sX8_copyFrom (c_X8_copyFrom_83_1 g rest I J hbd) rfl rfl (by decide +kernel) rfl (by decide) (Nat.le_of_ble_eq_true rfl) rfl ⟨Nat.zero_le _, Nat.zero_le _⟩ ?_
    refine EV_blk (own := 2) C rfl [(.aload_n 0, 0, 0, 0, 0), (.getfield 20, 2, 2, 218, 0), (.iconst 5, 0, 0, 0, (nI 5))] (pc' := 32) (by decide +kernel) (lv' := [some (.ref 17), some (.ref 1), some (.ref 83)]) (st' := [.int (nI 5), .int ((tq_cpSt I 83 1) 17 2)]) (I' := (tq_cpSt I 83 1)) (J' := J) rfl ?_
    refine EV_icmp_ge (off := 16) (tgt := 48) C (by decide +kernel) (by decide) (fun h5 => ?_) (fun h5 => ?_)
    · skip
      change (nI 5) ≤ I 17 2 at h5
      rw [hc] at h5
      have hcc : (¬ c < 5) := by simp (disch := omega) only [Int32.le_iff_toInt_le, nI_toInt] at h5; omega
      refine EV_blk (own := 2) C rfl [(.aload_n 0, 0, 0, 0, 0), (.aload_n 0, 0, 0, 0, 0), (.getfield 16, 2, 1, 217, 0), (.iconst 1, 0, 0, 0, (nI 1)), (.iadd, 0, 0, 0, 0), (.iconst 5, 0, 0, 0, (nI 5))] (pc' := 56) (by decide +kernel) (lv' := [some (.ref 17), some (.ref 1), some (.ref 83)]) (st' := [.int (nI 5), .int (((tq_cpSt I 83 1) 17 1) + (nI 1)), .ref 17]) (I' := (tq_cpSt I 83 1)) (J' := J) rfl ?_
      refine EV_irem C (by decide +kernel) (by decide) ?_
      refine EV_blk (own := 2) C rfl [(.putfield 16, 2, 1, 217, 0)] (pc' := 60) (by decide +kernel) (lv' := [some (.ref 17), some (.ref 1), some (.ref 83)]) (st' := []) (I' := (tq_u (tq_cpSt I 83 1) 17 1 (tq_rem (((tq_cpSt I 83 1) 17 1) + (nI 1)) (nI 5)))) (J' := J) rfl ?_
      exact EV_vret C hZ rfl (by decide +kernel) (Nat.le_refl _) (Nat.le_refl _) ⟨rfl, rfl, rfl, by show tq_u (tq_cpSt I 83 1) 17 1 (tq_rem (I 17 1 + nI 1) (nI 5)) = tq_rec I o c; rw [ho, nI_add, tq_rem_nI (by omega) (by decide)]; simp only [tq_rec, if_neg hcc, hk], rfl⟩
    · skip
      change ¬ (nI 5) ≤ I 17 2 at h5
      rw [hc] at h5
      have hcc : (c < 5) := by simp (disch := omega) only [Int32.le_iff_toInt_le, nI_toInt] at h5; omega
      refine EV_blk (own := 2) C rfl [(.aload_n 0, 0, 0, 0, 0), (.dup, 0, 0, 0, 0), (.getfield 20, 2, 2, 218, 0), (.iconst 1, 0, 0, 0, (nI 1)), (.iadd, 0, 0, 0, 0), (.putfield 20, 2, 2, 218, 0), (.goto 15, 0, 0, 0, 0)] (pc' := 60) (by decide +kernel) (lv' := [some (.ref 17), some (.ref 1), some (.ref 83)]) (st' := []) (I' := (tq_u (tq_cpSt I 83 1) 17 2 (((tq_cpSt I 83 1) 17 2) + (nI 1)))) (J' := J) rfl ?_
      exact EV_vret C hZ rfl (by decide +kernel) (Nat.le_refl _) (Nat.le_refl _) ⟨rfl, rfl, rfl, by show tq_u (tq_cpSt I 83 1) 17 2 (I 17 2 + nI 1) = tq_rec I o c; rw [hc, nI_add]; simp only [tq_rec, if_pos hcc, hk], rfl⟩
set_option maxRecDepth 20000 in
theorem c_X2_restore (g : tq_G) (rest : List tq_S) (I : tq_I) (J : Int64) (o c : Nat) (ho : I 17 1 = nI o) (hc : I 17 2 = nI c) (ho5 : o < 5) (hc1 : 1 ≤ c) (hc5 : c ≤ 5) (hbd : ∀ k, k < 5 → I (23 + 16 * k) 5 = 0 ∨ I (23 + 16 * k) 5 = 1) : CT g mX2_restore 5 0 0 [.ref 17, .ref 1] (tq_SC ++ rest) tq_RR I J (tq_ret (tq_SC ++ rest) tq_RR none (tq_res I o c) J) := by
  refine CT.ret kX2_restore (Nat.le_of_ble_eq_true rfl) (fun x0 C hR hZ => ?_)
  refine EV_en (lv' := [some (.ref 17), some (.ref 1), none]) 1 rfl ?_
  refine EV_blk (own := 2) C rfl [(.aload_n 0, 0, 0, 0, 0), (.getfield 20, 2, 2, 218, 0)] (pc' := 4) (by decide +kernel) (lv' := [some (.ref 17), some (.ref 1), none]) (st' := [.int (I 17 2)]) (I' := I) (J' := J) rfl ?_
  refine EV_if_ne (off := 4) (tgt := 8) C (by decide +kernel) (by decide) (fun h1 => ?_) (fun h1 => ?_)
  · skip
    refine EV_blk (own := 2) C rfl [(.aload_n 0, 0, 0, 0, 0), (.dup, 0, 0, 0, 0), (.getfield 20, 2, 2, 218, 0), (.iconst 1, 0, 0, 0, (nI 1)), (.isub, 0, 0, 0, 0), (.putfield 20, 2, 2, 218, 0), (.aload_n 0, 0, 0, 0, 0), (.getfield 11, 2, 0, 216, 0), (.aload_n 0, 0, 0, 0, 0), (.getfield 16, 2, 1, 217, 0), (.aload_n 0, 0, 0, 0, 0), (.getfield 20, 2, 2, 218, 0), (.iadd, 0, 0, 0, 0), (.iconst 5, 0, 0, 0, (nI 5))] (pc' := 32) (by decide +kernel) (lv' := [some (.ref 17), some (.ref 1), none]) (st' := [.int (nI 5), .int (((tq_u I 17 2 ((I 17 2) - (nI 1))) 17 1) + ((tq_u I 17 2 ((I 17 2) - (nI 1))) 17 2)), .ref 18]) (I' := (tq_u I 17 2 ((I 17 2) - (nI 1)))) (J' := J) rfl ?_
    refine EV_irem C (by decide +kernel) (by decide) ?_
    rcases tq_mod5 (o + (c - 1)) with hk | hk | hk | hk | hk
    · skip
      refine EV_aald (j := 0) (b := 19) C (by decide +kernel) rfl (tq_toI 0 (by show tq_rem (I 17 1 + (I 17 2 - nI 1)) (nI 5) = _; rw [ho, hc, tq_sub_nI (by omega), nI_add, tq_rem_nI (by omega) (by decide), hk]) (by decide)) (by decide) rfl ?_
      refine EV_blk (own := 2) C rfl [(.astore_n 2, 0, 0, 0, 0), (.aload_n 2, 0, 0, 0, 0)] (pc' := 36) (by decide +kernel) (lv' := [some (.ref 17), some (.ref 1), some (.ref 19)]) (st' := [.ref 19]) (I' := (tq_u I 17 2 ((I 17 2) - (nI 1)))) (J' := J) rfl ?_
      refine EV_ifnull (off := 8) C (by decide +kernel) ?_
      refine EV_blk (own := 2) C rfl [(.aload_n 1, 0, 0, 0, 0), (.aload_n 2, 0, 0, 0, 0)] (pc' := 41) (by decide +kernel) (lv' := [some (.ref 17), some (.ref 1), some (.ref 19)]) (st' := [.ref 19, .ref 1]) (I' := (tq_u I 17 2 ((I 17 2) - (nI 1)))) (J' := J) rfl ?_
      refine EV_cV (own := 2) (idx := 23) (μ' := mX8_copyFrom) (b := 1) (cb := 8) (av := [.ref 19]) (rest := []) C hR rfl (Or.inl ⟨407, by decide⟩) kX8_copyFrom sX8_copyFrom (c_X8_copyFrom_1_19 g rest (tq_u I 17 2 ((I 17 2) - (nI 1))) J (by first | exact hbd 0 (by decide) | exact hbd 1 (by decide) | exact hbd 2 (by decide) | exact hbd 3 (by decide) | exact hbd 4 (by decide))) rfl rfl (by decide +kernel) rfl (by decide) (Nat.le_of_ble_eq_true rfl) rfl ⟨Nat.zero_le _, Nat.zero_le _⟩ ?_
      exact EV_vret C hZ rfl (by decide +kernel) (Nat.le_refl _) (Nat.le_refl _) ⟨rfl, rfl, rfl, by rw [hc, tq_sub_nI (by omega)]; simp only [tq_res, hk], rfl⟩
    · skip
      refine EV_aald (j := 1) (b := 35) C (by decide +kernel) rfl (tq_toI 1 (by show tq_rem (I 17 1 + (I 17 2 - nI 1)) (nI 5) = _; rw [ho, hc, tq_sub_nI (by omega), nI_add, tq_rem_nI (by omega) (by decide), hk]) (by decide)) (by decide) rfl ?_
      refine EV_blk (own := 2) C rfl [(.astore_n 2, 0, 0, 0, 0), (.aload_n 2, 0, 0, 0, 0)] (pc' := 36) (by decide +kernel) (lv' := [some (.ref 17), some (.ref 1), some (.ref 35)]) (st' := [.ref 35]) (I' := (tq_u I 17 2 ((I 17 2) - (nI 1)))) (J' := J) rfl ?_
      refine EV_ifnull (off := 8) C (by decide +kernel) ?_
      refine EV_blk (own := 2) C rfl [(.aload_n 1, 0, 0, 0, 0), (.aload_n 2, 0, 0, 0, 0)] (pc' := 41) (by decide +kernel) (lv' := [some (.ref 17), some (.ref 1), some (.ref 35)]) (st' := [.ref 35, .ref 1]) (I' := (tq_u I 17 2 ((I 17 2) - (nI 1)))) (J' := J) rfl ?_
      refine EV_cV (own := 2) (idx := 23) (μ' := mX8_copyFrom) (b := 1) (cb := 8) (av := [.ref 35]) (rest := []) C hR rfl (Or.inl ⟨407, by decide⟩) kX8_copyFrom sX8_copyFrom (c_X8_copyFrom_1_35 g rest (tq_u I 17 2 ((I 17 2) - (nI 1))) J (by first | exact hbd 0 (by decide) | exact hbd 1 (by decide) | exact hbd 2 (by decide) | exact hbd 3 (by decide) | exact hbd 4 (by decide))) rfl rfl (by decide +kernel) rfl (by decide) (Nat.le_of_ble_eq_true rfl) rfl ⟨Nat.zero_le _, Nat.zero_le _⟩ ?_
      exact EV_vret C hZ rfl (by decide +kernel) (Nat.le_refl _) (Nat.le_refl _) ⟨rfl, rfl, rfl, by rw [hc, tq_sub_nI (by omega)]; simp only [tq_res, hk], rfl⟩
    · skip
      refine EV_aald (j := 2) (b := 51) C (by decide +kernel) rfl (tq_toI 2 (by show tq_rem (I 17 1 + (I 17 2 - nI 1)) (nI 5) = _; rw [ho, hc, tq_sub_nI (by omega), nI_add, tq_rem_nI (by omega) (by decide), hk]) (by decide)) (by decide) rfl ?_
      refine EV_blk (own := 2) C rfl [(.astore_n 2, 0, 0, 0, 0), (.aload_n 2, 0, 0, 0, 0)] (pc' := 36) (by decide +kernel) (lv' := [some (.ref 17), some (.ref 1), some (.ref 51)]) (st' := [.ref 51]) (I' := (tq_u I 17 2 ((I 17 2) - (nI 1)))) (J' := J) rfl ?_
      refine EV_ifnull (off := 8) C (by decide +kernel) ?_
      refine EV_blk (own := 2) C rfl [(.aload_n 1, 0, 0, 0, 0), (.aload_n 2, 0, 0, 0, 0)] (pc' := 41) (by decide +kernel) (lv' := [some (.ref 17), some (.ref 1), some (.ref 51)]) (st' := [.ref 51, .ref 1]) (I' := (tq_u I 17 2 ((I 17 2) - (nI 1)))) (J' := J) rfl ?_
      refine EV_cV (own := 2) (idx := 23) (μ' := mX8_copyFrom) (b := 1) (cb := 8) (av := [.ref 51]) (rest := []) C hR rfl (Or.inl ⟨407, by decide⟩) kX8_copyFrom sX8_copyFrom (c_X8_copyFrom_1_51 g rest (tq_u I 17 2 ((I 17 2) - (nI 1))) J (by first | exact hbd 0 (by decide) | exact hbd 1 (by decide) | exact hbd 2 (by decide) | exact hbd 3 (by decide) | exact hbd 4 (by decide))) rfl rfl (by decide +kernel) rfl (by decide) (Nat.le_of_ble_eq_true rfl) rfl ⟨Nat.zero_le _, Nat.zero_le _⟩ ?_
      exact EV_vret C hZ rfl (by decide +kernel) (Nat.le_refl _) (Nat.le_refl _) ⟨rfl, rfl, rfl, by rw [hc, tq_sub_nI (by omega)]; simp only [tq_res, hk], rfl⟩
    · skip
      refine EV_aald (j := 3) (b := 67) C (by decide +kernel) rfl (tq_toI 3 (by show tq_rem (I 17 1 + (I 17 2 - nI 1)) (nI 5) = _; rw [ho, hc, tq_sub_nI (by omega), nI_add, tq_rem_nI (by omega) (by decide), hk]) (by decide)) (by decide) rfl ?_
      refine EV_blk (own := 2) C rfl [(.astore_n 2, 0, 0, 0, 0), (.aload_n 2, 0, 0, 0, 0)] (pc' := 36) (by decide +kernel) (lv' := [some (.ref 17), some (.ref 1), some (.ref 67)]) (st' := [.ref 67]) (I' := (tq_u I 17 2 ((I 17 2) - (nI 1)))) (J' := J) rfl ?_
      refine EV_ifnull (off := 8) C (by decide +kernel) ?_
      refine EV_blk (own := 2) C rfl [(.aload_n 1, 0, 0, 0, 0), (.aload_n 2, 0, 0, 0, 0)] (pc' := 41) (by decide +kernel) (lv' := [some (.ref 17), some (.ref 1), some (.ref 67)]) (st' := [.ref 67, .ref 1]) (I' := (tq_u I 17 2 ((I 17 2) - (nI 1)))) (J' := J) rfl ?_
      refine EV_cV (own := 2) (idx := 23) (μ' := mX8_copyFrom) (b := 1) (cb := 8) (av := [.ref 67]) (rest := []) C hR rfl (Or.inl ⟨407, by decide⟩) kX8_copyFrom sX8_copyFrom (c_X8_copyFrom_1_67 g rest (tq_u I 17 2 ((I 17 2) - (nI 1))) J (by first | exact hbd 0 (by decide) | exact hbd 1 (by decide) | exact hbd 2 (by decide) | exact hbd 3 (by decide) | exact hbd 4 (by decide))) rfl rfl (by decide +kernel) rfl (by decide) (Nat.le_of_ble_eq_true rfl) rfl ⟨Nat.zero_le _, Nat.zero_le _⟩ ?_
      exact EV_vret C hZ rfl (by decide +kernel) (Nat.le_refl _) (Nat.le_refl _) ⟨rfl, rfl, rfl, by rw [hc, tq_sub_nI (by omega)]; simp only [tq_res, hk], rfl⟩
    · skip
      refine EV_aald (j := 4) (b := 83) C (by decide +kernel) rfl (tq_toI 4 (by show tq_rem (I 17 1 + (I 17 2 - nI 1)) (nI 5) = _; rw [ho, hc, tq_sub_nI (by omega), nI_add, tq_rem_nI (by omega) (by decide), hk]) (by decide)) (by decide) rfl ?_
      refine EV_blk (own := 2) C rfl [(.astore_n 2, 0, 0, 0, 0), (.aload_n 2, 0, 0, 0, 0)] (pc' := 36) (by decide +kernel) (lv' := [some (.ref 17), some (.ref 1), some (.ref 83)]) (st' := [.ref 83]) (I' := (tq_u I 17 2 ((I 17 2) - (nI 1)))) (J' := J) rfl ?_
      refine EV_ifnull (off := 8) C (by decide +kernel) ?_
      refine EV_blk (own := 2) C rfl [(.aload_n 1, 0, 0, 0, 0), (.aload_n 2, 0, 0, 0, 0)] (pc' := 41) (by decide +kernel) (lv' := [some (.ref 17), some (.ref 1), some (.ref 83)]) (st' := [.ref 83, .ref 1]) (I' := (tq_u I 17 2 ((I 17 2) - (nI 1)))) (J' := J) rfl ?_
      refine EV_cV (own := 2) (idx := 23) (μ' := mX8_copyFrom) (b := 1) (cb := 8) (av := [.ref 83]) (rest := []) C hR rfl (Or.inl ⟨407, by decide⟩) kX8_copyFrom sX8_copyFrom (c_X8_copyFrom_1_83 g rest (tq_u I 17 2 ((I 17 2) - (nI 1))) J (by first | exact hbd 0 (by decide) | exact hbd 1 (by decide) | exact hbd 2 (by decide) | exact hbd 3 (by decide) | exact hbd 4 (by decide))) rfl rfl (by decide +kernel) rfl (by decide) (Nat.le_of_ble_eq_true rfl) rfl ⟨Nat.zero_le _, Nat.zero_le _⟩ ?_
      exact EV_vret C hZ rfl (by decide +kernel) (Nat.le_refl _) (Nat.le_refl _) ⟨rfl, rfl, rfl, by rw [hc, tq_sub_nI (by omega)]; simp only [tq_res, hk], rfl⟩
  · skip
    exact absurd h1 (by rw [hc]; exact nI_ne0 (by omega) (by omega))
end
section
/-! more loops; Region: 99, met 100, found 101 -/
/-- rounds of a loop that may end by itself -/
def tq_wh {α : Type} (f : Nat → α → Option α) : Nat → Nat → α → α
  | 0, _, a => a
  | n + 1, i, a => match f i a with
    | some b => tq_wh f n (i + 1) b
    | none => a
theorem tq_wh_some {α : Type} {f : Nat → α → Option α} {n i : Nat} {a b : α} (h : f i a = some b) : tq_wh f (n + 1) i a = tq_wh f n (i + 1) b := by simp only [tq_wh, h]
theorem tq_wh_none {α : Type} {f : Nat → α → Option α} {n i : Nat} {a : α} (h : f i a = none) : tq_wh f (n + 1) i a = a := by simp only [tq_wh, h]
theorem tq_whP {α : Type} {f : Nat → α → Option α} (P : α → Prop) (h : ∀ i a b, P a → f i a = some b → P b) : ∀ (n i : Nat) (a : α), P a → P (tq_wh f n i a)
  | 0, _, _, ha => ha
  | n + 1, i, a, ha => by
    cases hf : f i a with
    | none => rw [tq_wh_none hf]; exact ha
    | some b => rw [tq_wh_some hf]; exact tq_whP P h n (i + 1) b (h i a b ha hf)
theorem tq_whF {f : Nat → tq_I → Option tq_I} {c : Nat} (h : ∀ i a b j, f i a = some b → b c j = a c j) (n i : Nat) (a : tq_I) (j : Nat) : tq_wh f n i a c j = a c j := tq_whP (fun b => b c j = a c j) (fun i b d hb hd => by rw [h i b d j hd]; exact hb) n i a rfl
theorem tq_whF2 {α : Type} {f : Nat → α × tq_I → Option (α × tq_I)} {c : Nat} (h : ∀ i a b j, f i a = some b → b.2 c j = a.2 c j) (n i : Nat) (a : α × tq_I) (j : Nat) : (tq_wh f n i a).2 c j = a.2 c j := tq_whP (fun b => b.2 c j = a.2 c j) (fun i b d hb hd => by rw [h i b d j hd]; exact hb) n i a rfl
def f_fgt1  (i : Nat) (a : tq_I) : tq_I := (tq_u a 100 i (nI 0))
set_option maxRecDepth 20000 in
theorem lp_fgt1 {g : tq_G} {rest : List tq_S} {x0 : tq_X} (C : tq_C g mX5_forget x0) (hR : tq_ht x0 0 0 0) (J : Int64)   : ∀ (n i : Nat) (a : tq_I), i + n = 121 → EV g mX5_forget x0 0 0 21 [some (.ref 99), some (.int (nI (i + n)))] [] (tq_SC ++ rest) tq_RR (tq_it (f_fgt1) n i a) J → EV g mX5_forget x0 0 0 2 [some (.ref 99), some (.int (nI i))] [] (tq_SC ++ rest) tq_RR a J := by
  intro n
  induction n with
  | zero =>
    intro i a hi kk
    rw [Nat.add_zero] at kk
    refine EV_blk (own := 5) C rfl [(.iload_n 1, 0, 0, 0, 0), (.bipush 121, 0, 0, 0, (nI 121))] (pc' := 5) (by decide +kernel) (lv' := [some (.ref 99), some (.int (nI i))]) (st' := [.int (nI 121), .int (nI i)]) (I' := a) (J' := J) rfl ?_
    refine EV_icmp_ge (off := 16) (tgt := 21) C (by decide +kernel) (by decide) (fun h1 => ?_) (fun h1 => ?_)
    · skip
      exact kk
    · skip
      exact absurd h1 (by simp (disch := omega) only [Int32.lt_iff_toInt_lt, Int32.le_iff_toInt_le, Int32.toInt_zero, nI_toInt, tq_m1]; omega)
  | succ n ih =>
    intro i a hi kk
    rw [show i + (n + 1) = (i + 1) + n by omega] at kk
    refine EV_blk (own := 5) C rfl [(.iload_n 1, 0, 0, 0, 0), (.bipush 121, 0, 0, 0, (nI 121))] (pc' := 5) (by decide +kernel) (lv' := [some (.ref 99), some (.int (nI i))]) (st' := [.int (nI 121), .int (nI i)]) (I' := a) (J' := J) rfl ?_
    refine EV_icmp_ge (off := 16) (tgt := 21) C (by decide +kernel) (by decide) (fun h1 => ?_) (fun h1 => ?_)
    · skip
      exact absurd h1 (by simp (disch := omega) only [Int32.lt_iff_toInt_lt, Int32.le_iff_toInt_le, Int32.toInt_zero, nI_toInt, tq_m1]; omega)
    · skip
      refine EV_blk (own := 5) C rfl [(.aload_n 0, 0, 0, 0, 0), (.getfield 9, 5, 0, 233, 0), (.iload_n 1, 0, 0, 0, 0), (.iconst 0, 0, 0, 0, (nI 0))] (pc' := 14) (by decide +kernel) (lv' := [some (.ref 99), some (.int (nI i))]) (st' := [.int (nI 0), .int (nI i), .ref 100]) (I' := a) (J' := J) rfl ?_
      refine EV_iast (j := i) C (by decide +kernel) rfl (nI_toInt (by omega)) (by omega) ?_
      refine EV_blk (own := 5) C rfl [(.iinc 1 1, 0, 0, 0, (nI 1)), (.goto (-16), 0, 0, 0, 0)] (pc' := 2) (by decide +kernel) (lv' := [some (.ref 99), some (.int ((nI i) + (nI 1)))]) (st' := []) (I' := (tq_u a 100 i (nI 0))) (J' := J) rfl ?_
      rw [show ((nI i) + (nI 1)) = (nI (i + 1)) from by simp (disch := omega) only [nI_add, tq_mul] <;> exact congrArg nI (by omega)]
      rw [tq_its, show (f_fgt1) i a = (tq_u a 100 i (nI 0)) from by simp only [f_fgt1, if_neg h1]] at kk
      exact ih (i + 1) (tq_u a 100 i (nI 0)) (by omega) kk
theorem fr_fgt1  {cz : Nat} (hc : cz ≠ 100) (n i : Nat) (a : tq_I) (jz : Nat) : (tq_it (f_fgt1) n i a) cz jz = a cz jz := by
  have hc0 := hc
  refine tq_itF (fun i a j => ?_) n i a jz
  simp only [f_fgt1]
  (repeat' split) <;> simp (disch := first | assumption | (simp only [ne_eq] at *; simp [*])) [tq_u, tq_cp, hc0, fr_tb1, fr_tb2, fr_X8_touchBlock, fr_X8_touchAll, fr_X8_changeCorner, fr_X8_changePath, fr_cb1, fr_cb2, fr_X8_changeBlock, fr_wipe1, fr_X1_wipe, fr_sm1, fr_sm2, fr_X8_startMap, fr_X6_place, fr_mt1, fr_mt2, fr_X6_moveTo, fr_ch2, fr_X10_choose, fr_X1_take]
def I_X5_forget (I : tq_I)  : tq_I := (tq_it (f_fgt1) 121 0 I)
set_option maxRecDepth 20000 in
theorem c_X5_forget (g : tq_G) (rest : List tq_S) (I : tq_I) (J : Int64)   : CT g mX5_forget 0 0 0 [.ref 99] (tq_SC ++ rest) tq_RR I J (tq_ret (tq_SC ++ rest) tq_RR none (I_X5_forget I) J) := by
  refine CT.ret kX5_forget (Nat.le_of_ble_eq_true rfl) (fun x0 C hR hZ => ?_)
  refine EV_en (lv' := [some (.ref 99), none]) 1 rfl ?_
  refine EV_blk (own := 5) C rfl [(.iconst 0, 0, 0, 0, (nI 0)), (.istore_n 1, 0, 0, 0, 0)] (pc' := 2) (by decide +kernel) (lv' := [some (.ref 99), some (.int (nI 0))]) (st' := []) (I' := I) (J' := J) rfl ?_
  refine lp_fgt1 C hR J  121 0 I (by omega) ?_
  exact EV_vret C hZ rfl (by decide +kernel) (Nat.le_refl _) (Nat.le_refl _) ⟨rfl, rfl, rfl, by simp only [I_X5_forget], rfl⟩
theorem fr_X5_forget (I : tq_I)  {cz : Nat} (hc : cz ≠ 100) (jz : Nat) : I_X5_forget I  cz jz = I cz jz := by
  have hc0 := hc
  simp only [I_X5_forget]
  (repeat' split) <;> simp (disch := first | assumption | (simp only [ne_eq] at *; simp [*])) [tq_u, tq_cp, hc0, fr_tb1, fr_tb2, fr_X8_touchBlock, fr_X8_touchAll, fr_X8_changeCorner, fr_X8_changePath, fr_cb1, fr_cb2, fr_X8_changeBlock, fr_wipe1, fr_X1_wipe, fr_sm1, fr_sm2, fr_X8_startMap, fr_X6_place, fr_mt1, fr_mt2, fr_X6_moveTo, fr_ch2, fr_X10_choose, fr_X1_take, fr_fgt1]
set_option maxRecDepth 20000 in
theorem cI_X11_cornerIndex (g : tq_G) (rest : List tq_S) (I : tq_I) (J : Int64) (x y : Int32)  : CT g mX11_cornerIndex 0 0 0 [.int x, .int y] (tq_SC ++ rest) tq_RR I J (tq_ret (tq_SC ++ rest) tq_RR (some (.int ((y * (nI 11)) + x))) I J) := by
  refine CT.ret kX11_cornerIndex (Nat.le_of_ble_eq_true rfl) (fun x0 C hR hZ => ?_)
  refine EV_en (lv' := [some (.int x), some (.int y)]) 0 rfl ?_
  refine EV_blk (own := 11) C rfl [(.iload_n 1, 0, 0, 0, 0), (.bipush 11, 0, 0, 0, (nI 11)), (.imul, 0, 0, 0, 0), (.iload_n 0, 0, 0, 0, 0), (.iadd, 0, 0, 0, 0)] (pc' := 6) (by decide +kernel) (lv' := [some (.int x), some (.int y)]) (st' := [.int ((y * (nI 11)) + x)]) (I' := I) (J' := J) rfl ?_
  exact EV_iret C hZ rfl (by decide +kernel) (Nat.le_refl _) (Nat.le_refl _) ⟨rfl, rfl, rfl, rfl, rfl⟩
set_option maxRecDepth 20000 in
theorem c_X5_knows (g : tq_G) (rest : List tq_S) (I : tq_I) (J : Int64) (x y : Int32) (hx0 : 0 ≤ x.toInt) (hx1 : x.toInt ≤ 10) (hy0 : 0 ≤ y.toInt) (hy1 : y.toInt ≤ 10) : CT g mX5_knows 1 0 0 [.ref 99, .int x, .int y] (tq_SC ++ rest) tq_RR I J (tq_ret (tq_SC ++ rest) tq_RR (some (.int (tq_b (I 100 (tq_N y * 11 + tq_N x) = nI 1)))) I J) := by
  refine CT.ret kX5_knows (Nat.le_of_ble_eq_true rfl) (fun x0 C hR hZ => ?_)
  refine EV_en (lv' := [some (.ref 99), some (.int x), some (.int y)]) 0 rfl ?_
  refine EV_blk (own := 5) C rfl [(.aload_n 0, 0, 0, 0, 0), (.getfield 9, 5, 0, 233, 0), (.iload_n 1, 0, 0, 0, 0), (.iload_n 2, 0, 0, 0, 0)] (pc' := 6) (by decide +kernel) (lv' := [some (.ref 99), some (.int x), some (.int y)]) (st' := [.int y, .int x, .ref 100]) (I' := I) (J' := J) rfl ?_
  refine EV_cS (own := 5) (idx := 18) (μ' := mX11_cornerIndex) (av := [.int x, .int y]) (rest := [.ref 100]) C hR rfl (Or.inr ⟨508, by decide⟩) kX11_cornerIndex sX11_cornerIndex (cI_X11_cornerIndex g rest I J x y ) (by decide +kernel) rfl (by decide) (Nat.le_of_ble_eq_true rfl) rfl ⟨Nat.zero_le _, Nat.zero_le _⟩ ?_
  refine EV_iald (j := (tq_N y * 11 + tq_N x)) C (by decide +kernel) rfl (tq_ix 11 hx0 (by omega) hy0 (by omega) (by decide)) (by unfold tq_N; omega) ?_
  refine EV_blk (own := 5) C rfl [(.iconst 1, 0, 0, 0, (nI 1))] (pc' := 11) (by decide +kernel) (lv' := [some (.ref 99), some (.int x), some (.int y)]) (st' := [.int (nI 1), .int (I 100 (tq_N y * 11 + tq_N x))]) (I' := I) (J' := J) rfl ?_
  refine EV_icmp_ne (off := 7) (tgt := 18) C (by decide +kernel) (by decide) (fun h1 => ?_) (fun h1 => ?_)
  · skip
    refine EV_blk (own := 5) C rfl [(.iconst 0, 0, 0, 0, (nI 0))] (pc' := 19) (by decide +kernel) (lv' := [some (.ref 99), some (.int x), some (.int y)]) (st' := [.int (nI 0)]) (I' := I) (J' := J) rfl ?_
    exact EV_zret C hZ rfl (by decide) (by decide +kernel) (Nat.le_refl _) (Nat.le_refl _) ⟨tq_r0 h1, rfl, rfl, rfl, rfl⟩
  · skip
    refine EV_blk (own := 5) C rfl [(.iconst 1, 0, 0, 0, (nI 1)), (.goto 4, 0, 0, 0, 0)] (pc' := 19) (by decide +kernel) (lv' := [some (.ref 99), some (.int x), some (.int y)]) (st' := [.int (nI 1)]) (I' := I) (J' := J) rfl ?_
    exact EV_zret C hZ rfl (by decide) (by decide +kernel) (Nat.le_refl _) (Nat.le_refl _) ⟨tq_r1 h1, rfl, rfl, rfl, rfl⟩
set_option maxRecDepth 20000 in
theorem cI_X3_terrainAt (g : tq_G) (rest : List tq_S) (I : tq_I) (J : Int64) (x y : Int32) (hx0 : 0 ≤ x.toInt) (hx1 : x.toInt ≤ 10) (hy0 : 0 ≤ y.toInt) (hy1 : y.toInt ≤ 10) : CT g mX3_terrainAt 1 0 0 [.ref 2, .int x, .int y] (tq_SC ++ rest) tq_RR I J (tq_ret (tq_SC ++ rest) tq_RR (some (.int (I 3 (tq_N y * 11 + tq_N x)))) I J) := by
  refine CT.ret kX3_terrainAt (Nat.le_of_ble_eq_true rfl) (fun x0 C hR hZ => ?_)
  refine EV_en (lv' := [some (.ref 2), some (.int x), some (.int y)]) 0 rfl ?_
  refine EV_blk (own := 3) C rfl [(.aload_n 0, 0, 0, 0, 0), (.getfield 9, 3, 2, 103, 0), (.iload_n 1, 0, 0, 0, 0), (.iload_n 2, 0, 0, 0, 0)] (pc' := 6) (by decide +kernel) (lv' := [some (.ref 2), some (.int x), some (.int y)]) (st' := [.int y, .int x, .ref 3]) (I' := I) (J' := J) rfl ?_
  refine EV_cS (own := 3) (idx := 31) (μ' := mX11_cornerIndex) (av := [.int x, .int y]) (rest := [.ref 3]) C hR rfl (Or.inr ⟨458, by decide⟩) kX11_cornerIndex sX11_cornerIndex (cI_X11_cornerIndex g rest I J x y ) (by decide +kernel) rfl (by decide) (Nat.le_of_ble_eq_true rfl) rfl ⟨Nat.zero_le _, Nat.zero_le _⟩ ?_
  refine EV_iald (j := (tq_N y * 11 + tq_N x)) C (by decide +kernel) rfl (tq_ix 11 hx0 (by omega) hy0 (by omega) (by decide)) (by unfold tq_N; omega) ?_
  exact EV_iret C hZ rfl (by decide +kernel) (Nat.le_refl _) (Nat.le_refl _) ⟨rfl, rfl, rfl, rfl, rfl⟩
def I_X5_meet (I : tq_I) (x y t : Int32) : tq_I := (if (tq_b (tq_corner I x y)) = 0 then I else (if (tq_b (I 100 (tq_N y * 11 + tq_N x) = nI 1)) = 0 then (if (I 3 (tq_N y * 11 + tq_N x)) = t then (if (nI 121) ≤ (I 99 2) then I else (tq_u (tq_u (tq_u I 100 (tq_N y * 11 + tq_N x) (nI 1)) 101 (tq_N (I 99 2)) ((y * (nI 11)) + x)) 99 2 (((tq_u (tq_u I 100 (tq_N y * 11 + tq_N x) (nI 1)) 101 (tq_N (I 99 2)) ((y * (nI 11)) + x)) 99 2) + (nI 1)))) else I) else I))
set_option maxRecDepth 20000 in
theorem c_X5_meet (g : tq_G) (rest : List tq_S) (I : tq_I) (J : Int64) (x y t : Int32) (hr0 : 0 ≤ (I 99 2).toInt) (hr1 : (I 99 2).toInt ≤ 121) (hw10 : (I 2 0).toInt ≤ 10) (hh10 : (I 2 1).toInt ≤ 10) : CT g mX5_meet 2 0 0 [.ref 99, .ref 2, .int x, .int y, .int t] (tq_SC ++ rest) tq_RR I J (tq_ret (tq_SC ++ rest) tq_RR none (I_X5_meet I x y t) J) := by
  refine CT.ret kX5_meet (Nat.le_of_ble_eq_true rfl) (fun x0 C hR hZ => ?_)
  refine EV_en (lv' := [some (.ref 99), some (.ref 2), some (.int x), some (.int y), some (.int t)]) 0 rfl ?_
  refine EV_blk (own := 5) C rfl [(.aload_n 1, 0, 0, 0, 0), (.iload_n 2, 0, 0, 0, 0), (.iload_n 3, 0, 0, 0, 0)] (pc' := 3) (by decide +kernel) (lv' := [some (.ref 99), some (.ref 2), some (.int x), some (.int y), some (.int t)]) (st' := [.int y, .int x, .ref 2]) (I' := I) (J' := J) rfl ?_
  refine EV_cV (own := 5) (idx := 42) (μ' := mX3_isCorner) (b := 2) (cb := 3) (av := [.int x, .int y]) (rest := []) C hR rfl (Or.inl ⟨503, by decide⟩) kX3_isCorner sX3_isCorner (c_X3_isCorner g rest I J x y ) rfl rfl (by decide +kernel) rfl (by decide) (Nat.le_of_ble_eq_true rfl) rfl ⟨Nat.zero_le _, Nat.zero_le _⟩ ?_
  refine EV_if_eq (off := 23) (tgt := 29) C (by decide +kernel) (by decide) (fun h1 => ?_) (fun h1 => ?_)
  · skip
    exact EV_vret C hZ rfl (by decide +kernel) (Nat.le_refl _) (Nat.le_refl _) ⟨rfl, rfl, rfl, by simp only [I_X5_meet, if_pos h1], rfl⟩
  · skip
    have h0 := tq_b1.mp (tq_b01.resolve_left h1)
    refine EV_blk (own := 5) C rfl [(.aload_n 0, 0, 0, 0, 0), (.iload_n 2, 0, 0, 0, 0), (.iload_n 3, 0, 0, 0, 0)] (pc' := 12) (by decide +kernel) (lv' := [some (.ref 99), some (.ref 2), some (.int x), some (.int y), some (.int t)]) (st' := [.int y, .int x, .ref 99]) (I' := I) (J' := J) rfl ?_
    refine EV_cV (own := 5) (idx := 46) (μ' := mX5_knows) (b := 99) (cb := 5) (av := [.int x, .int y]) (rest := []) C hR rfl (Or.inl ⟨504, by decide⟩) kX5_knows sX5_knows (c_X5_knows g rest I J x y (by omega) (by omega) (by omega) (by omega)) rfl rfl (by decide +kernel) rfl (by decide) (Nat.le_of_ble_eq_true rfl) rfl ⟨Nat.zero_le _, Nat.zero_le _⟩ ?_
    refine EV_if_ne (off := 14) (tgt := 29) C (by decide +kernel) (by decide) (fun h2 => ?_) (fun h2 => ?_)
    · skip
      exact EV_vret C hZ rfl (by decide +kernel) (Nat.le_refl _) (Nat.le_refl _) ⟨rfl, rfl, rfl, by simp only [I_X5_meet, if_neg h1, if_neg h2], rfl⟩
    · skip
      refine EV_blk (own := 5) C rfl [(.aload_n 1, 0, 0, 0, 0), (.iload_n 2, 0, 0, 0, 0), (.iload_n 3, 0, 0, 0, 0)] (pc' := 21) (by decide +kernel) (lv' := [some (.ref 99), some (.ref 2), some (.int x), some (.int y), some (.int t)]) (st' := [.int y, .int x, .ref 2]) (I' := I) (J' := J) rfl ?_
      refine EV_cV (own := 5) (idx := 26) (μ' := mX3_terrainAt) (b := 2) (cb := 3) (av := [.int x, .int y]) (rest := []) C hR rfl (Or.inl ⟨498, by decide⟩) kX3_terrainAt sX3_terrainAt (cI_X3_terrainAt g rest I J x y (by omega) (by omega) (by omega) (by omega)) rfl rfl (by decide +kernel) rfl (by decide) (Nat.le_of_ble_eq_true rfl) rfl ⟨Nat.zero_le _, Nat.zero_le _⟩ ?_
      refine EV_blk (own := 5) C rfl [(.iload 4, 0, 0, 0, 0)] (pc' := 26) (by decide +kernel) (lv' := [some (.ref 99), some (.ref 2), some (.int x), some (.int y), some (.int t)]) (st' := [.int t, .int (I 3 (tq_N y * 11 + tq_N x))]) (I' := I) (J' := J) rfl ?_
      refine EV_icmp_eq (off := 4) (tgt := 30) C (by decide +kernel) (by decide) (fun h3 => ?_) (fun h3 => ?_)
      · skip
        refine EV_blk (own := 5) C rfl [(.aload_n 0, 0, 0, 0, 0), (.getfield 22, 5, 2, 235, 0), (.bipush 121, 0, 0, 0, (nI 121))] (pc' := 36) (by decide +kernel) (lv' := [some (.ref 99), some (.ref 2), some (.int x), some (.int y), some (.int t)]) (st' := [.int (nI 121), .int (I 99 2)]) (I' := I) (J' := J) rfl ?_
        refine EV_icmp_ge (off := 38) (tgt := 74) C (by decide +kernel) (by decide) (fun h4 => ?_) (fun h4 => ?_)
        · skip
          exact EV_vret C hZ rfl (by decide +kernel) (Nat.le_refl _) (Nat.le_refl _) ⟨rfl, rfl, rfl, by simp only [I_X5_meet, if_neg h1, if_pos h2, if_pos h3, if_pos h4], rfl⟩
        · skip
          refine EV_blk (own := 5) C rfl [(.aload_n 0, 0, 0, 0, 0), (.getfield 9, 5, 0, 233, 0), (.iload_n 2, 0, 0, 0, 0), (.iload_n 3, 0, 0, 0, 0)] (pc' := 45) (by decide +kernel) (lv' := [some (.ref 99), some (.ref 2), some (.int x), some (.int y), some (.int t)]) (st' := [.int y, .int x, .ref 100]) (I' := I) (J' := J) rfl ?_
          refine EV_cS (own := 5) (idx := 18) (μ' := mX11_cornerIndex) (av := [.int x, .int y]) (rest := [.ref 100]) C hR rfl (Or.inr ⟨508, by decide⟩) kX11_cornerIndex sX11_cornerIndex (cI_X11_cornerIndex g rest I J x y ) (by decide +kernel) rfl (by decide) (Nat.le_of_ble_eq_true rfl) rfl ⟨Nat.zero_le _, Nat.zero_le _⟩ ?_
          refine EV_blk (own := 5) C rfl [(.iconst 1, 0, 0, 0, (nI 1))] (pc' := 49) (by decide +kernel) (lv' := [some (.ref 99), some (.ref 2), some (.int x), some (.int y), some (.int t)]) (st' := [.int (nI 1), .int ((y * (nI 11)) + x), .ref 100]) (I' := I) (J' := J) rfl ?_
          refine EV_iast (j := (tq_N y * 11 + tq_N x)) C (by decide +kernel) rfl (tq_ix 11 (by omega) (by omega) (by omega) (by omega) (by decide)) (by unfold tq_N; omega) ?_
          refine EV_blk (own := 5) C rfl [(.aload_n 0, 0, 0, 0, 0), (.getfield 15, 5, 1, 234, 0), (.aload_n 0, 0, 0, 0, 0), (.getfield 22, 5, 2, 235, 0), (.iload_n 2, 0, 0, 0, 0), (.iload_n 3, 0, 0, 0, 0)] (pc' := 60) (by decide +kernel) (lv' := [some (.ref 99), some (.ref 2), some (.int x), some (.int y), some (.int t)]) (st' := [.int y, .int x, .int ((tq_u I 100 (tq_N y * 11 + tq_N x) (nI 1)) 99 2), .ref 101]) (I' := (tq_u I 100 (tq_N y * 11 + tq_N x) (nI 1))) (J' := J) rfl ?_
          refine EV_cS (own := 5) (idx := 18) (μ' := mX11_cornerIndex) (av := [.int x, .int y]) (rest := [.int ((tq_u I 100 (tq_N y * 11 + tq_N x) (nI 1)) 99 2), .ref 101]) C hR rfl (Or.inr ⟨508, by decide⟩) kX11_cornerIndex sX11_cornerIndex (cI_X11_cornerIndex g rest (tq_u I 100 (tq_N y * 11 + tq_N x) (nI 1)) J x y ) (by decide +kernel) rfl (by decide) (Nat.le_of_ble_eq_true rfl) rfl ⟨Nat.zero_le _, Nat.zero_le _⟩ ?_
          have h121 : ¬ (nI 121) ≤ I 99 2 := h4
          simp (disch := omega) only [Int32.le_iff_toInt_le, nI_toInt] at h121
          refine EV_iast (j := (tq_N (I 99 2))) C (by decide +kernel) rfl (show (I 99 2).toInt = _ by unfold tq_N; omega) (by unfold tq_N; omega) ?_
          refine EV_blk (own := 5) C rfl [(.aload_n 0, 0, 0, 0, 0), (.dup, 0, 0, 0, 0), (.getfield 22, 5, 2, 235, 0), (.iconst 1, 0, 0, 0, (nI 1)), (.iadd, 0, 0, 0, 0), (.putfield 22, 5, 2, 235, 0)] (pc' := 74) (by decide +kernel) (lv' := [some (.ref 99), some (.ref 2), some (.int x), some (.int y), some (.int t)]) (st' := []) (I' := (tq_u (tq_u (tq_u I 100 (tq_N y * 11 + tq_N x) (nI 1)) 101 (tq_N (I 99 2)) ((y * (nI 11)) + x)) 99 2 (((tq_u (tq_u I 100 (tq_N y * 11 + tq_N x) (nI 1)) 101 (tq_N (I 99 2)) ((y * (nI 11)) + x)) 99 2) + (nI 1)))) (J' := J) rfl ?_
          exact EV_vret C hZ rfl (by decide +kernel) (Nat.le_refl _) (Nat.le_refl _) ⟨rfl, rfl, rfl, by simp only [I_X5_meet, if_neg h1, if_pos h2, if_pos h3, if_neg h4], rfl⟩
      · skip
        exact EV_vret C hZ rfl (by decide +kernel) (Nat.le_refl _) (Nat.le_refl _) ⟨rfl, rfl, rfl, by simp only [I_X5_meet, if_neg h1, if_pos h2, if_neg h3], rfl⟩
theorem fr_X5_meet (I : tq_I) (x y t : Int32) {cz : Nat} (hc : cz ≠ 99 ∧ cz ≠ 100 ∧ cz ≠ 101) (jz : Nat) : I_X5_meet I x y t cz jz = I cz jz := by
  obtain ⟨hc0, hc1, hc2⟩ := hc
  simp only [I_X5_meet]
  (repeat' split) <;> simp (disch := first | assumption | (simp only [ne_eq] at *; simp [*])) [tq_u, tq_cp, hc0, hc1, hc2, fr_tb1, fr_tb2, fr_X8_touchBlock, fr_X8_touchAll, fr_X8_changeCorner, fr_X8_changePath, fr_cb1, fr_cb2, fr_X8_changeBlock, fr_wipe1, fr_X1_wipe, fr_sm1, fr_sm2, fr_X8_startMap, fr_X6_place, fr_mt1, fr_mt2, fr_X6_moveTo, fr_ch2, fr_X10_choose, fr_X1_take, fr_fgt1, fr_X5_forget]
/-- the region's rows are sound -/
def tq_rg (I : tq_I) : Prop := (∀ k, k < 121 → 0 ≤ (I 101 k).toInt ∧ (I 101 k).toInt ≤ 120) ∧ 0 ≤ (I 99 2).toInt ∧ (I 99 2).toInt ≤ 121 ∧ (I 2 0).toInt ≤ 10 ∧ (I 2 1).toInt ≤ 10
theorem tq_rg_meet {I : tq_I} {x y t : Int32} (h : tq_rg I) : tq_rg (I_X5_meet I x y t) := by
  obtain ⟨h1, h2, h3, h4, h5⟩ := h
  unfold I_X5_meet
  split
  · exact ⟨h1, h2, h3, h4, h5⟩
  · rename_i hc
    have h0 := tq_b1.mp (tq_b01.resolve_left hc)
    split
    · split
      · split
        · exact ⟨h1, h2, h3, h4, h5⟩
        · rename_i h121
          have h6 : ¬ (nI 121) ≤ I 99 2 := h121
          simp (disch := omega) only [Int32.le_iff_toInt_le, nI_toInt] at h6
          have e := tq_ix (x := x) (y := y) 11 h0.1 (by omega) h0.2.2.1 (by omega) (by decide)
          have b1 : tq_N x ≤ 10 := by unfold tq_N; omega
          have b2 : tq_N y ≤ 10 := by unfold tq_N; omega
          have e2 : (I 99 2 + nI 1).toInt = (I 99 2).toInt + 1 := by
            have hn := tq_nIN h2
            have hle : tq_N (I 99 2) ≤ 121 := by unfold tq_N; omega
            rw [hn, nI_add, nI_toInt (by omega), nI_toInt (by omega)]
            rfl
          refine ⟨fun k hk => ?_, ?_, ?_, h4, h5⟩
          · by_cases hkk : k = tq_N (I 99 2)
            · subst hkk
              have e3 : ∀ (K : tq_I) (v : Int32), tq_u (tq_u K 101 (tq_N (I 99 2)) (y * nI 11 + x)) 99 2 v 101 (tq_N (I 99 2)) = y * nI 11 + x := fun K v => by rw [tq_u_cell (by decide), tq_u_same]
              rw [e3]
              omega
            · rw [tq_u_cell (by decide), tq_u_slot hkk]
              exact h1 k hk
          · show 0 ≤ (I 99 2 + nI 1).toInt
            omega
          · show (I 99 2 + nI 1).toInt ≤ 121
            omega
      · exact ⟨h1, h2, h3, h4, h5⟩
    · exact ⟨h1, h2, h3, h4, h5⟩
set_option maxRecDepth 20000 in
theorem c_X5_columnOf (g : tq_G) (rest : List tq_S) (I : tq_I) (J : Int64) (k : Nat) (hk : k ≤ 120) : CT g mX5_columnOf 0 0 0 [.ref 99, .int (nI k)] (tq_SC ++ rest) tq_RR I J (tq_ret (tq_SC ++ rest) tq_RR (some (.int (tq_rem (I 101 k) (nI 11)))) I J) := by
  refine CT.ret kX5_columnOf (Nat.le_of_ble_eq_true rfl) (fun x0 C hR hZ => ?_)
  refine EV_en (lv' := [some (.ref 99), some (.int (nI k))]) 0 rfl ?_
  refine EV_blk (own := 5) C rfl [(.aload_n 0, 0, 0, 0, 0), (.getfield 15, 5, 1, 234, 0), (.iload_n 1, 0, 0, 0, 0)] (pc' := 5) (by decide +kernel) (lv' := [some (.ref 99), some (.int (nI k))]) (st' := [.int (nI k), .ref 101]) (I' := I) (J' := J) rfl ?_
  refine EV_iald (j := k) C (by decide +kernel) rfl (nI_toInt (by omega)) (by omega) ?_
  refine EV_blk (own := 5) C rfl [(.bipush 11, 0, 0, 0, (nI 11))] (pc' := 8) (by decide +kernel) (lv' := [some (.ref 99), some (.int (nI k))]) (st' := [.int (nI 11), .int (I 101 k)]) (I' := I) (J' := J) rfl ?_
  refine EV_irem C (by decide +kernel) (by decide) ?_
  exact EV_iret C hZ rfl (by decide +kernel) (Nat.le_refl _) (Nat.le_refl _) ⟨rfl, rfl, rfl, rfl, rfl⟩
set_option maxRecDepth 20000 in
theorem c_X5_rowOf (g : tq_G) (rest : List tq_S) (I : tq_I) (J : Int64) (k : Nat) (hk : k ≤ 120) : CT g mX5_rowOf 0 0 0 [.ref 99, .int (nI k)] (tq_SC ++ rest) tq_RR I J (tq_ret (tq_SC ++ rest) tq_RR (some (.int ((I 101 k) / (nI 11)))) I J) := by
  refine CT.ret kX5_rowOf (Nat.le_of_ble_eq_true rfl) (fun x0 C hR hZ => ?_)
  refine EV_en (lv' := [some (.ref 99), some (.int (nI k))]) 0 rfl ?_
  refine EV_blk (own := 5) C rfl [(.aload_n 0, 0, 0, 0, 0), (.getfield 15, 5, 1, 234, 0), (.iload_n 1, 0, 0, 0, 0)] (pc' := 5) (by decide +kernel) (lv' := [some (.ref 99), some (.int (nI k))]) (st' := [.int (nI k), .ref 101]) (I' := I) (J' := J) rfl ?_
  refine EV_iald (j := k) C (by decide +kernel) rfl (nI_toInt (by omega)) (by omega) ?_
  refine EV_blk (own := 5) C rfl [(.bipush 11, 0, 0, 0, (nI 11))] (pc' := 8) (by decide +kernel) (lv' := [some (.ref 99), some (.int (nI k))]) (st' := [.int (nI 11), .int (I 101 k)]) (I' := I) (J' := J) rfl ?_
  refine EV_idiv C (by decide +kernel) (by decide) ?_
  exact EV_iret C hZ rfl (by decide +kernel) (Nat.le_refl _) (Nat.le_refl _) ⟨rfl, rfl, rfl, rfl, rfl⟩
def f_gat1 (x y : Nat) (t : Int32) (i : Nat) (a : tq_I) : Option (tq_I) := (if (a 99 2) ≤ (nI i) then none else (some (I_X5_meet (I_X5_meet (I_X5_meet (I_X5_meet a ((tq_rem (a 101 i) (nI 11)) - (nI 1)) ((a 101 i) / (nI 11)) t) ((tq_rem (a 101 i) (nI 11)) + (nI 1)) ((a 101 i) / (nI 11)) t) (tq_rem (a 101 i) (nI 11)) (((a 101 i) / (nI 11)) - (nI 1)) t) (tq_rem (a 101 i) (nI 11)) (((a 101 i) / (nI 11)) + (nI 1)) t)))
set_option maxRecDepth 20000 in
theorem lp_gat1 {g : tq_G} {rest : List tq_S} {x0 : tq_X} (C : tq_C g mX5_gather x0) (hR : tq_ht x0 3 0 0) (J : Int64) (x y : Nat) (t : Int32)  : ∀ (n i : Nat) (a : tq_I), i + n = 121 → tq_rg a → EV g mX5_gather x0 0 0 115 [some (.ref 99), some (.ref 2), some (.int (nI x)), some (.int (nI y)), some (.int t), none, none, none] [] (tq_SC ++ rest) tq_RR (tq_wh (f_gat1 x y t) n i a) J → EV g mX5_gather x0 0 0 25 [some (.ref 99), some (.ref 2), some (.int (nI x)), some (.int (nI y)), some (.int t), some (.int (nI i)), none, none] [] (tq_SC ++ rest) tq_RR a J := by
  intro n
  induction n with
  | zero =>
    intro i a hi hI kk
    rw [show tq_wh _ 0 i a = a from rfl] at kk
    refine EV_blk (own := 5) C rfl [(.iload 5, 0, 0, 0, 0), (.aload_n 0, 0, 0, 0, 0), (.getfield 22, 5, 2, 235, 0)] (pc' := 31) (by decide +kernel) (lv' := [some (.ref 99), some (.ref 2), some (.int (nI x)), some (.int (nI y)), some (.int t), some (.int (nI i)), none, none]) (st' := [.int (a 99 2), .int (nI i)]) (I' := a) (J' := J) rfl ?_
    refine EV_icmp_ge (off := 84) (tgt := 115) C (by decide +kernel) (by decide) (fun h1 => ?_) (fun h1 => ?_)
    · skip
      refine EV_fg (lv' := [some (.ref 99), some (.ref 2), some (.int (nI x)), some (.int (nI y)), some (.int t), none, none, none]) ⟨rfl, rfl, rfl, rfl, rfl, trivial⟩ ?_
      exact kk
    · skip
      refine EV_blk (own := 5) C rfl [(.iload 5, 0, 0, 0, 0), (.bipush 121, 0, 0, 0, (nI 121))] (pc' := 38) (by decide +kernel) (lv' := [some (.ref 99), some (.ref 2), some (.int (nI x)), some (.int (nI y)), some (.int t), some (.int (nI i)), none, none]) (st' := [.int (nI 121), .int (nI i)]) (I' := a) (J' := J) rfl ?_
      refine EV_icmp_ge (off := 77) (tgt := 115) C (by decide +kernel) (by decide) (fun h2 => ?_) (fun h2 => ?_)
      · skip
        refine EV_fg (lv' := [some (.ref 99), some (.ref 2), some (.int (nI x)), some (.int (nI y)), some (.int t), none, none, none]) ⟨rfl, rfl, rfl, rfl, rfl, trivial⟩ ?_
        exact kk
      · skip
        exact absurd (by simp (disch := omega) only [Int32.le_iff_toInt_le, nI_toInt]; omega) h2
  | succ n ih =>
    intro i a hi hI kk
    refine EV_blk (own := 5) C rfl [(.iload 5, 0, 0, 0, 0), (.aload_n 0, 0, 0, 0, 0), (.getfield 22, 5, 2, 235, 0)] (pc' := 31) (by decide +kernel) (lv' := [some (.ref 99), some (.ref 2), some (.int (nI x)), some (.int (nI y)), some (.int t), some (.int (nI i)), none, none]) (st' := [.int (a 99 2), .int (nI i)]) (I' := a) (J' := J) rfl ?_
    refine EV_icmp_ge (off := 84) (tgt := 115) C (by decide +kernel) (by decide) (fun h1 => ?_) (fun h1 => ?_)
    · skip
      refine EV_fg (lv' := [some (.ref 99), some (.ref 2), some (.int (nI x)), some (.int (nI y)), some (.int t), none, none, none]) ⟨rfl, rfl, rfl, rfl, rfl, trivial⟩ ?_
      rw [tq_wh_none (show (f_gat1 x y t) i a = none from by simp only [f_gat1, if_pos h1])] at kk
      exact kk
    · skip
      refine EV_blk (own := 5) C rfl [(.iload 5, 0, 0, 0, 0), (.bipush 121, 0, 0, 0, (nI 121))] (pc' := 38) (by decide +kernel) (lv' := [some (.ref 99), some (.ref 2), some (.int (nI x)), some (.int (nI y)), some (.int t), some (.int (nI i)), none, none]) (st' := [.int (nI 121), .int (nI i)]) (I' := a) (J' := J) rfl ?_
      refine EV_icmp_ge (off := 77) (tgt := 115) C (by decide +kernel) (by decide) (fun h2 => ?_) (fun h2 => ?_)
      · skip
        exact absurd h2 (by simp (disch := omega) only [Int32.le_iff_toInt_le, nI_toInt]; omega)
      · skip
        refine EV_blk (own := 5) C rfl [(.aload_n 0, 0, 0, 0, 0), (.iload 5, 0, 0, 0, 0)] (pc' := 44) (by decide +kernel) (lv' := [some (.ref 99), some (.ref 2), some (.int (nI x)), some (.int (nI y)), some (.int t), some (.int (nI i)), none, none]) (st' := [.int (nI i), .ref 99]) (I' := a) (J' := J) rfl ?_
        refine EV_cV (own := 5) (idx := 35) (μ' := mX5_columnOf) (b := 99) (cb := 5) (av := [.int (nI i)]) (rest := []) C hR rfl (Or.inl ⟨509, by decide⟩) kX5_columnOf sX5_columnOf (c_X5_columnOf g rest a J i (by omega)) rfl rfl (by decide +kernel) rfl (by decide) (Nat.le_of_ble_eq_true rfl) rfl ⟨Nat.zero_le _, Nat.zero_le _⟩ ?_
        refine EV_blk (own := 5) C rfl [(.istore 6, 0, 0, 0, 0), (.aload_n 0, 0, 0, 0, 0), (.iload 5, 0, 0, 0, 0)] (pc' := 52) (by decide +kernel) (lv' := [some (.ref 99), some (.ref 2), some (.int (nI x)), some (.int (nI y)), some (.int t), some (.int (nI i)), some (.int (tq_rem (a 101 i) (nI 11))), none]) (st' := [.int (nI i), .ref 99]) (I' := a) (J' := J) rfl ?_
        refine EV_cV (own := 5) (idx := 39) (μ' := mX5_rowOf) (b := 99) (cb := 5) (av := [.int (nI i)]) (rest := []) C hR rfl (Or.inl ⟨513, by decide⟩) kX5_rowOf sX5_rowOf (c_X5_rowOf g rest a J i (by omega)) rfl rfl (by decide +kernel) rfl (by decide) (Nat.le_of_ble_eq_true rfl) rfl ⟨Nat.zero_le _, Nat.zero_le _⟩ ?_
        refine EV_blk (own := 5) C rfl [(.istore 7, 0, 0, 0, 0), (.aload_n 0, 0, 0, 0, 0), (.aload_n 1, 0, 0, 0, 0), (.iload 6, 0, 0, 0, 0), (.iconst 1, 0, 0, 0, (nI 1)), (.isub, 0, 0, 0, 0), (.iload 7, 0, 0, 0, 0), (.iload 4, 0, 0, 0, 0)] (pc' := 67) (by decide +kernel) (lv' := [some (.ref 99), some (.ref 2), some (.int (nI x)), some (.int (nI y)), some (.int t), some (.int (nI i)), some (.int (tq_rem (a 101 i) (nI 11))), some (.int ((a 101 i) / (nI 11)))]) (st' := [.int t, .int ((a 101 i) / (nI 11)), .int ((tq_rem (a 101 i) (nI 11)) - (nI 1)), .ref 2, .ref 99]) (I' := a) (J' := J) rfl ?_
        have hm : tq_rg a := hI
        refine EV_cV (own := 5) (idx := 31) (μ' := mX5_meet) (b := 99) (cb := 5) (av := [.ref 2, .int ((tq_rem (a 101 i) (nI 11)) - (nI 1)), .int ((a 101 i) / (nI 11)), .int t]) (rest := []) C hR rfl (Or.inl ⟨499, by decide⟩) kX5_meet sX5_meet (c_X5_meet g rest a J ((tq_rem (a 101 i) (nI 11)) - (nI 1)) ((a 101 i) / (nI 11)) t hm.2.1 hm.2.2.1 hm.2.2.2.1 hm.2.2.2.2) rfl rfl (by decide +kernel) rfl (by decide) (Nat.le_of_ble_eq_true rfl) rfl ⟨Nat.zero_le _, Nat.zero_le _⟩ ?_
        refine EV_blk (own := 5) C rfl [(.aload_n 0, 0, 0, 0, 0), (.aload_n 1, 0, 0, 0, 0), (.iload 6, 0, 0, 0, 0), (.iconst 1, 0, 0, 0, (nI 1)), (.iadd, 0, 0, 0, 0), (.iload 7, 0, 0, 0, 0), (.iload 4, 0, 0, 0, 0)] (pc' := 80) (by decide +kernel) (lv' := [some (.ref 99), some (.ref 2), some (.int (nI x)), some (.int (nI y)), some (.int t), some (.int (nI i)), some (.int (tq_rem (a 101 i) (nI 11))), some (.int ((a 101 i) / (nI 11)))]) (st' := [.int t, .int ((a 101 i) / (nI 11)), .int ((tq_rem (a 101 i) (nI 11)) + (nI 1)), .ref 2, .ref 99]) (I' := (I_X5_meet a ((tq_rem (a 101 i) (nI 11)) - (nI 1)) ((a 101 i) / (nI 11)) t)) (J' := J) rfl ?_
        have hm : tq_rg (I_X5_meet a ((tq_rem (a 101 i) (nI 11)) - (nI 1)) ((a 101 i) / (nI 11)) t) := tq_rg_meet hI
        refine EV_cV (own := 5) (idx := 31) (μ' := mX5_meet) (b := 99) (cb := 5) (av := [.ref 2, .int ((tq_rem (a 101 i) (nI 11)) + (nI 1)), .int ((a 101 i) / (nI 11)), .int t]) (rest := []) C hR rfl (Or.inl ⟨499, by decide⟩) kX5_meet sX5_meet (c_X5_meet g rest (I_X5_meet a ((tq_rem (a 101 i) (nI 11)) - (nI 1)) ((a 101 i) / (nI 11)) t) J ((tq_rem (a 101 i) (nI 11)) + (nI 1)) ((a 101 i) / (nI 11)) t hm.2.1 hm.2.2.1 hm.2.2.2.1 hm.2.2.2.2) rfl rfl (by decide +kernel) rfl (by decide) (Nat.le_of_ble_eq_true rfl) rfl ⟨Nat.zero_le _, Nat.zero_le _⟩ ?_
        refine EV_blk (own := 5) C rfl [(.aload_n 0, 0, 0, 0, 0), (.aload_n 1, 0, 0, 0, 0), (.iload 6, 0, 0, 0, 0), (.iload 7, 0, 0, 0, 0), (.iconst 1, 0, 0, 0, (nI 1)), (.isub, 0, 0, 0, 0), (.iload 4, 0, 0, 0, 0)] (pc' := 93) (by decide +kernel) (lv' := [some (.ref 99), some (.ref 2), some (.int (nI x)), some (.int (nI y)), some (.int t), some (.int (nI i)), some (.int (tq_rem (a 101 i) (nI 11))), some (.int ((a 101 i) / (nI 11)))]) (st' := [.int t, .int (((a 101 i) / (nI 11)) - (nI 1)), .int (tq_rem (a 101 i) (nI 11)), .ref 2, .ref 99]) (I' := (I_X5_meet (I_X5_meet a ((tq_rem (a 101 i) (nI 11)) - (nI 1)) ((a 101 i) / (nI 11)) t) ((tq_rem (a 101 i) (nI 11)) + (nI 1)) ((a 101 i) / (nI 11)) t)) (J' := J) rfl ?_
        have hm : tq_rg (I_X5_meet (I_X5_meet a ((tq_rem (a 101 i) (nI 11)) - (nI 1)) ((a 101 i) / (nI 11)) t) ((tq_rem (a 101 i) (nI 11)) + (nI 1)) ((a 101 i) / (nI 11)) t) := tq_rg_meet (tq_rg_meet hI)
        refine EV_cV (own := 5) (idx := 31) (μ' := mX5_meet) (b := 99) (cb := 5) (av := [.ref 2, .int (tq_rem (a 101 i) (nI 11)), .int (((a 101 i) / (nI 11)) - (nI 1)), .int t]) (rest := []) C hR rfl (Or.inl ⟨499, by decide⟩) kX5_meet sX5_meet (c_X5_meet g rest (I_X5_meet (I_X5_meet a ((tq_rem (a 101 i) (nI 11)) - (nI 1)) ((a 101 i) / (nI 11)) t) ((tq_rem (a 101 i) (nI 11)) + (nI 1)) ((a 101 i) / (nI 11)) t) J (tq_rem (a 101 i) (nI 11)) (((a 101 i) / (nI 11)) - (nI 1)) t hm.2.1 hm.2.2.1 hm.2.2.2.1 hm.2.2.2.2) rfl rfl (by decide +kernel) rfl (by decide) (Nat.le_of_ble_eq_true rfl) rfl ⟨Nat.zero_le _, Nat.zero_le _⟩ ?_
        refine EV_blk (own := 5) C rfl [(.aload_n 0, 0, 0, 0, 0), (.aload_n 1, 0, 0, 0, 0), (.iload 6, 0, 0, 0, 0), (.iload 7, 0, 0, 0, 0), (.iconst 1, 0, 0, 0, (nI 1)), (.iadd, 0, 0, 0, 0), (.iload 4, 0, 0, 0, 0)] (pc' := 106) (by decide +kernel) (lv' := [some (.ref 99), some (.ref 2), some (.int (nI x)), some (.int (nI y)), some (.int t), some (.int (nI i)), some (.int (tq_rem (a 101 i) (nI 11))), some (.int ((a 101 i) / (nI 11)))]) (st' := [.int t, .int (((a 101 i) / (nI 11)) + (nI 1)), .int (tq_rem (a 101 i) (nI 11)), .ref 2, .ref 99]) (I' := (I_X5_meet (I_X5_meet (I_X5_meet a ((tq_rem (a 101 i) (nI 11)) - (nI 1)) ((a 101 i) / (nI 11)) t) ((tq_rem (a 101 i) (nI 11)) + (nI 1)) ((a 101 i) / (nI 11)) t) (tq_rem (a 101 i) (nI 11)) (((a 101 i) / (nI 11)) - (nI 1)) t)) (J' := J) rfl ?_
        have hm : tq_rg (I_X5_meet (I_X5_meet (I_X5_meet a ((tq_rem (a 101 i) (nI 11)) - (nI 1)) ((a 101 i) / (nI 11)) t) ((tq_rem (a 101 i) (nI 11)) + (nI 1)) ((a 101 i) / (nI 11)) t) (tq_rem (a 101 i) (nI 11)) (((a 101 i) / (nI 11)) - (nI 1)) t) := tq_rg_meet (tq_rg_meet (tq_rg_meet hI))
        refine EV_cV (own := 5) (idx := 31) (μ' := mX5_meet) (b := 99) (cb := 5) (av := [.ref 2, .int (tq_rem (a 101 i) (nI 11)), .int (((a 101 i) / (nI 11)) + (nI 1)), .int t]) (rest := []) C hR rfl (Or.inl ⟨499, by decide⟩) kX5_meet sX5_meet (c_X5_meet g rest (I_X5_meet (I_X5_meet (I_X5_meet a ((tq_rem (a 101 i) (nI 11)) - (nI 1)) ((a 101 i) / (nI 11)) t) ((tq_rem (a 101 i) (nI 11)) + (nI 1)) ((a 101 i) / (nI 11)) t) (tq_rem (a 101 i) (nI 11)) (((a 101 i) / (nI 11)) - (nI 1)) t) J (tq_rem (a 101 i) (nI 11)) (((a 101 i) / (nI 11)) + (nI 1)) t hm.2.1 hm.2.2.1 hm.2.2.2.1 hm.2.2.2.2) rfl rfl (by decide +kernel) rfl (by decide) (Nat.le_of_ble_eq_true rfl) rfl ⟨Nat.zero_le _, Nat.zero_le _⟩ ?_
        refine EV_blk (own := 5) C rfl [(.iinc 5 1, 0, 0, 0, (nI 1)), (.goto (-87), 0, 0, 0, 0)] (pc' := 25) (by decide +kernel) (lv' := [some (.ref 99), some (.ref 2), some (.int (nI x)), some (.int (nI y)), some (.int t), some (.int ((nI i) + (nI 1))), some (.int (tq_rem (a 101 i) (nI 11))), some (.int ((a 101 i) / (nI 11)))]) (st' := []) (I' := (I_X5_meet (I_X5_meet (I_X5_meet (I_X5_meet a ((tq_rem (a 101 i) (nI 11)) - (nI 1)) ((a 101 i) / (nI 11)) t) ((tq_rem (a 101 i) (nI 11)) + (nI 1)) ((a 101 i) / (nI 11)) t) (tq_rem (a 101 i) (nI 11)) (((a 101 i) / (nI 11)) - (nI 1)) t) (tq_rem (a 101 i) (nI 11)) (((a 101 i) / (nI 11)) + (nI 1)) t)) (J' := J) rfl ?_
        refine EV_fg (lv' := [some (.ref 99), some (.ref 2), some (.int (nI x)), some (.int (nI y)), some (.int t), some (.int ((nI i) + (nI 1))), none, none]) ⟨rfl, rfl, rfl, rfl, rfl, rfl, trivial⟩ ?_
        rw [show ((nI i) + (nI 1)) = (nI (i + 1)) from by simp (disch := omega) only [nI_add, tq_mul] <;> exact congrArg nI (by omega)]
        rw [tq_wh_some (show (f_gat1 x y t) i a = some (I_X5_meet (I_X5_meet (I_X5_meet (I_X5_meet a ((tq_rem (a 101 i) (nI 11)) - (nI 1)) ((a 101 i) / (nI 11)) t) ((tq_rem (a 101 i) (nI 11)) + (nI 1)) ((a 101 i) / (nI 11)) t) (tq_rem (a 101 i) (nI 11)) (((a 101 i) / (nI 11)) - (nI 1)) t) (tq_rem (a 101 i) (nI 11)) (((a 101 i) / (nI 11)) + (nI 1)) t) from by simp only [f_gat1, if_neg h1, if_neg h2])] at kk
        exact ih (i + 1) (I_X5_meet (I_X5_meet (I_X5_meet (I_X5_meet a ((tq_rem (a 101 i) (nI 11)) - (nI 1)) ((a 101 i) / (nI 11)) t) ((tq_rem (a 101 i) (nI 11)) + (nI 1)) ((a 101 i) / (nI 11)) t) (tq_rem (a 101 i) (nI 11)) (((a 101 i) / (nI 11)) - (nI 1)) t) (tq_rem (a 101 i) (nI 11)) (((a 101 i) / (nI 11)) + (nI 1)) t) (by omega) (tq_rg_meet (tq_rg_meet (tq_rg_meet (tq_rg_meet hI)))) kk
theorem fr_gat1 (x y : Nat) (t : Int32) {cz : Nat} (hc : cz ≠ 99 ∧ cz ≠ 100 ∧ cz ≠ 101) (n i : Nat) (a : tq_I) (jz : Nat) : (tq_wh (f_gat1 x y t) n i a) cz jz = a cz jz := by
  obtain ⟨hc0, hc1, hc2⟩ := hc
  refine tq_whF (fun i a b j h => ?_) n i a jz
  simp only [f_gat1] at h
  (repeat' split at h) <;> first | (cases h; done) | (cases h; simp (disch := first | assumption | (simp only [ne_eq] at *; simp [*])) [tq_u, tq_cp, hc0, hc1, hc2, fr_tb1, fr_tb2, fr_X8_touchBlock, fr_X8_touchAll, fr_X8_changeCorner, fr_X8_changePath, fr_cb1, fr_cb2, fr_X8_changeBlock, fr_wipe1, fr_X1_wipe, fr_sm1, fr_sm2, fr_X8_startMap, fr_X6_place, fr_mt1, fr_mt2, fr_X6_moveTo, fr_ch2, fr_X10_choose, fr_X1_take, fr_fgt1, fr_X5_forget, fr_X5_meet])
theorem tq_rg_zero {I : tq_I} (h : tq_rg I) : tq_rg (tq_u I 99 2 (nI 0)) := by
  obtain ⟨h1, h2, h3, h4, h5⟩ := h
  exact ⟨h1, by show 0 ≤ (nI 0).toInt; decide, by show (nI 0).toInt ≤ 121; decide, h4, h5⟩
theorem tq_rg_gat {x y : Nat} {t : Int32} {I : tq_I} (h : tq_rg I) : ∀ (n i : Nat), tq_rg (tq_wh (f_gat1 x y t) n i I) := by
  intro n i
  refine tq_whP tq_rg (fun i a b ha hb => ?_) n i I h
  simp only [f_gat1] at hb
  split at hb
  · cases hb
  · cases hb
    exact tq_rg_meet (tq_rg_meet (tq_rg_meet (tq_rg_meet ha)))
def I_X5_gather (I : tq_I) (x y : Nat) : tq_I := (tq_wh (f_gat1 x y ((tq_u I 99 2 (nI 0)) 3 (y * 11 + x))) 121 0 (I_X5_meet (tq_u I 99 2 (nI 0)) (nI x) (nI y) ((tq_u I 99 2 (nI 0)) 3 (y * 11 + x))))
set_option maxRecDepth 20000 in
theorem c_X5_gather (g : tq_G) (rest : List tq_S) (I : tq_I) (J : Int64) (x y : Nat) (hx : x ≤ 10) (hy : y ≤ 10) (hI : tq_rg I) : CT g mX5_gather 3 0 0 [.ref 99, .ref 2, .int (nI x), .int (nI y)] (tq_SC ++ rest) tq_RR I J (tq_ret (tq_SC ++ rest) tq_RR none (I_X5_gather I x y) J) := by
  refine CT.ret kX5_gather (Nat.le_of_ble_eq_true rfl) (fun x0 C hR hZ => ?_)
  refine EV_en (lv' := [some (.ref 99), some (.ref 2), some (.int (nI x)), some (.int (nI y)), none, none, none, none]) 4 rfl ?_
  refine EV_blk (own := 5) C rfl [(.aload_n 0, 0, 0, 0, 0), (.iconst 0, 0, 0, 0, (nI 0)), (.putfield 22, 5, 2, 235, 0), (.aload_n 1, 0, 0, 0, 0), (.iload_n 2, 0, 0, 0, 0), (.iload_n 3, 0, 0, 0, 0)] (pc' := 8) (by decide +kernel) (lv' := [some (.ref 99), some (.ref 2), some (.int (nI x)), some (.int (nI y)), none, none, none, none]) (st' := [.int (nI y), .int (nI x), .ref 2]) (I' := (tq_u I 99 2 (nI 0))) (J' := J) rfl ?_
  refine EV_cV (own := 5) (idx := 26) (μ' := mX3_terrainAt) (b := 2) (cb := 3) (av := [.int (nI x), .int (nI y)]) (rest := []) C hR rfl (Or.inl ⟨498, by decide⟩) kX3_terrainAt sX3_terrainAt (c_X3_terrainAt g rest (tq_u I 99 2 (nI 0)) J x y (by omega) (by omega)) rfl rfl (by decide +kernel) rfl (by decide) (Nat.le_of_ble_eq_true rfl) rfl ⟨Nat.zero_le _, Nat.zero_le _⟩ ?_
  refine EV_blk (own := 5) C rfl [(.istore 4, 0, 0, 0, 0), (.aload_n 0, 0, 0, 0, 0), (.aload_n 1, 0, 0, 0, 0), (.iload_n 2, 0, 0, 0, 0), (.iload_n 3, 0, 0, 0, 0), (.iload 4, 0, 0, 0, 0)] (pc' := 19) (by decide +kernel) (lv' := [some (.ref 99), some (.ref 2), some (.int (nI x)), some (.int (nI y)), some (.int ((tq_u I 99 2 (nI 0)) 3 (y * 11 + x))), none, none, none]) (st' := [.int ((tq_u I 99 2 (nI 0)) 3 (y * 11 + x)), .int (nI y), .int (nI x), .ref 2, .ref 99]) (I' := (tq_u I 99 2 (nI 0))) (J' := J) rfl ?_
  have hm : tq_rg (tq_u I 99 2 (nI 0)) := tq_rg_zero hI
  refine EV_cV (own := 5) (idx := 31) (μ' := mX5_meet) (b := 99) (cb := 5) (av := [.ref 2, .int (nI x), .int (nI y), .int ((tq_u I 99 2 (nI 0)) 3 (y * 11 + x))]) (rest := []) C hR rfl (Or.inl ⟨499, by decide⟩) kX5_meet sX5_meet (c_X5_meet g rest (tq_u I 99 2 (nI 0)) J (nI x) (nI y) ((tq_u I 99 2 (nI 0)) 3 (y * 11 + x)) hm.2.1 hm.2.2.1 hm.2.2.2.1 hm.2.2.2.2) rfl rfl (by decide +kernel) rfl (by decide) (Nat.le_of_ble_eq_true rfl) rfl ⟨Nat.zero_le _, Nat.zero_le _⟩ ?_
  refine EV_blk (own := 5) C rfl [(.iconst 0, 0, 0, 0, (nI 0)), (.istore 5, 0, 0, 0, 0)] (pc' := 25) (by decide +kernel) (lv' := [some (.ref 99), some (.ref 2), some (.int (nI x)), some (.int (nI y)), some (.int ((tq_u I 99 2 (nI 0)) 3 (y * 11 + x))), some (.int (nI 0)), none, none]) (st' := []) (I' := (I_X5_meet (tq_u I 99 2 (nI 0)) (nI x) (nI y) ((tq_u I 99 2 (nI 0)) 3 (y * 11 + x)))) (J' := J) rfl ?_
  refine lp_gat1 C hR J x y ((tq_u I 99 2 (nI 0)) 3 (y * 11 + x))  121 0 (I_X5_meet (tq_u I 99 2 (nI 0)) (nI x) (nI y) ((tq_u I 99 2 (nI 0)) 3 (y * 11 + x))) (by omega) (tq_rg_meet (tq_rg_zero hI)) ?_
  exact EV_vret C hZ rfl (by decide +kernel) (Nat.le_refl _) (Nat.le_refl _) ⟨rfl, rfl, rfl, by simp only [I_X5_gather], rfl⟩
theorem fr_X5_gather (I : tq_I) (x y : Nat) {cz : Nat} (hc : cz ≠ 99 ∧ cz ≠ 100 ∧ cz ≠ 101) (jz : Nat) : I_X5_gather I x y cz jz = I cz jz := by
  obtain ⟨hc0, hc1, hc2⟩ := hc
  simp only [I_X5_gather]
  (repeat' split) <;> simp (disch := first | assumption | (simp only [ne_eq] at *; simp [*])) [tq_u, tq_cp, hc0, hc1, hc2, fr_tb1, fr_tb2, fr_X8_touchBlock, fr_X8_touchAll, fr_X8_changeCorner, fr_X8_changePath, fr_cb1, fr_cb2, fr_X8_changeBlock, fr_wipe1, fr_X1_wipe, fr_sm1, fr_sm2, fr_X8_startMap, fr_X6_place, fr_mt1, fr_mt2, fr_X6_moveTo, fr_ch2, fr_X10_choose, fr_X1_take, fr_fgt1, fr_X5_forget, fr_X5_meet, fr_gat1]
theorem tq_rg_gather {x y : Nat} {I : tq_I} (h : tq_rg I) : tq_rg (I_X5_gather I x y) := tq_rg_gat (tq_rg_meet (tq_rg_zero h)) _ _
end
section
/-! Sketch: 102, cornerRanks 103, layerTerrains 104, layerMasks 105, pieceCodes 106; fields layerCount 3, pieceCount 5, tileOfPath 6 -/
def r_X11_codeOfPiece (t tile turn v : Int32) : Int32 := (if tile = (nI 15) then ((t * (nI 64)) + ((nI 56) + v)) else ((t * (nI 64)) + (((tile - (nI 1)) * (nI 4)) + turn)))
set_option maxRecDepth 20000 in
theorem c_X11_codeOfPiece (g : tq_G) (rest : List tq_S) (I : tq_I) (J : Int64) (t tile turn v : Int32)  : CT g mX11_codeOfPiece 0 0 0 [.int t, .int tile, .int turn, .int v] (tq_SC ++ rest) tq_RR I J (tq_ret (tq_SC ++ rest) tq_RR (some (.int (r_X11_codeOfPiece t tile turn v))) I J) := by
  refine CT.ret kX11_codeOfPiece (Nat.le_of_ble_eq_true rfl) (fun x0 C hR hZ => ?_)
  refine EV_en (lv' := [some (.int t), some (.int tile), some (.int turn), some (.int v), none]) 1 rfl ?_
  refine EV_blk (own := 11) C rfl [(.iload_n 1, 0, 0, 0, 0), (.bipush 15, 0, 0, 0, (nI 15))] (pc' := 3) (by decide +kernel) (lv' := [some (.int t), some (.int tile), some (.int turn), some (.int v), none]) (st' := [.int (nI 15), .int tile]) (I' := I) (J' := J) rfl ?_
  refine EV_icmp_ne (off := 10) (tgt := 13) C (by decide +kernel) (by decide) (fun h1 => ?_) (fun h1 => ?_)
  · skip
    refine EV_blk (own := 11) C rfl [(.iload_n 1, 0, 0, 0, 0), (.iconst 1, 0, 0, 0, (nI 1)), (.isub, 0, 0, 0, 0), (.iconst 4, 0, 0, 0, (nI 4)), (.imul, 0, 0, 0, 0), (.iload_n 2, 0, 0, 0, 0), (.iadd, 0, 0, 0, 0), (.istore 4, 0, 0, 0, 0), (.iload_n 0, 0, 0, 0, 0), (.bipush 64, 0, 0, 0, (nI 64)), (.imul, 0, 0, 0, 0), (.iload 4, 0, 0, 0, 0), (.iadd, 0, 0, 0, 0)] (pc' := 29) (by decide +kernel) (lv' := [some (.int t), some (.int tile), some (.int turn), some (.int v), some (.int (((tile - (nI 1)) * (nI 4)) + turn))]) (st' := [.int ((t * (nI 64)) + (((tile - (nI 1)) * (nI 4)) + turn))]) (I' := I) (J' := J) rfl ?_
    exact EV_iret C hZ rfl (by decide +kernel) (Nat.le_refl _) (Nat.le_refl _) ⟨tq_some (by simp only [r_X11_codeOfPiece, if_neg h1]), rfl, rfl, rfl, rfl⟩
  · skip
    refine EV_blk (own := 11) C rfl [(.bipush 56, 0, 0, 0, (nI 56)), (.iload_n 3, 0, 0, 0, 0), (.iadd, 0, 0, 0, 0), (.goto 10, 0, 0, 0, 0), (.istore 4, 0, 0, 0, 0), (.iload_n 0, 0, 0, 0, 0), (.bipush 64, 0, 0, 0, (nI 64)), (.imul, 0, 0, 0, 0), (.iload 4, 0, 0, 0, 0), (.iadd, 0, 0, 0, 0)] (pc' := 29) (by decide +kernel) (lv' := [some (.int t), some (.int tile), some (.int turn), some (.int v), some (.int ((nI 56) + v))]) (st' := [.int ((t * (nI 64)) + ((nI 56) + v))]) (I' := I) (J' := J) rfl ?_
    exact EV_iret C hZ rfl (by decide +kernel) (Nat.le_refl _) (Nat.le_refl _) ⟨tq_some (by simp only [r_X11_codeOfPiece, if_pos h1]), rfl, rfl, rfl, rfl⟩
def f_rk1 (I : tq_I) (r : Nat) (i : Nat) : Option Int32 := (if (I 103 i) = (nI r) then (some (nI 1)) else none)
set_option maxRecDepth 20000 in
theorem lp_rk1 {g : tq_G} {rest : List tq_S} {x0 : tq_X} {res : Int32} (I : tq_I) (J : Int64) (C : tq_C g mX7_isRankOfCorner x0) (hR : tq_ht x0 0 0 0) (hZ : tq_end g x0 (tq_ret (tq_SC ++ rest) tq_RR (some (.int res)) I J) 0 0) (r : Nat)  : ∀ (n i : Nat), i + n = 4 → res = tq_sr (f_rk1 I r) n i (nI 0) → (res = (nI 0) → EV g mX7_isRankOfCorner x0 0 0 25 [some (.ref 102), some (.int (nI r)), none] [] (tq_SC ++ rest) tq_RR I J) → EV g mX7_isRankOfCorner x0 0 0 2 [some (.ref 102), some (.int (nI r)), some (.int (nI i))] [] (tq_SC ++ rest) tq_RR I J := by
  intro n
  induction n with
  | zero =>
    intro i hi hr kk
    refine EV_blk (own := 7) C rfl [(.iload_n 2, 0, 0, 0, 0), (.iconst 4, 0, 0, 0, (nI 4))] (pc' := 4) (by decide +kernel) (lv' := [some (.ref 102), some (.int (nI r)), some (.int (nI i))]) (st' := [.int (nI 4), .int (nI i)]) (I' := I) (J' := J) rfl ?_
    refine EV_icmp_ge (off := 21) (tgt := 25) C (by decide +kernel) (by decide) (fun h1 => ?_) (fun h1 => ?_)
    · skip
      exact EV_fg (lv' := [some (.ref 102), some (.int (nI r)), none]) ⟨rfl, rfl, trivial⟩ (kk hr)
    · skip
      exact absurd h1 (by simp (disch := omega) only [Int32.lt_iff_toInt_lt, Int32.le_iff_toInt_le, Int32.toInt_zero, nI_toInt, tq_m1]; omega)
  | succ n ih =>
    intro i hi hr kk
    refine EV_blk (own := 7) C rfl [(.iload_n 2, 0, 0, 0, 0), (.iconst 4, 0, 0, 0, (nI 4))] (pc' := 4) (by decide +kernel) (lv' := [some (.ref 102), some (.int (nI r)), some (.int (nI i))]) (st' := [.int (nI 4), .int (nI i)]) (I' := I) (J' := J) rfl ?_
    refine EV_icmp_ge (off := 21) (tgt := 25) C (by decide +kernel) (by decide) (fun h1 => ?_) (fun h1 => ?_)
    · skip
      exact absurd h1 (by simp (disch := omega) only [Int32.lt_iff_toInt_lt, Int32.le_iff_toInt_le, Int32.toInt_zero, nI_toInt, tq_m1]; omega)
    · skip
      refine EV_blk (own := 7) C rfl [(.aload_n 0, 0, 0, 0, 0), (.getfield 9, 7, 0, 250, 0), (.iload_n 2, 0, 0, 0, 0)] (pc' := 12) (by decide +kernel) (lv' := [some (.ref 102), some (.int (nI r)), some (.int (nI i))]) (st' := [.int (nI i), .ref 103]) (I' := I) (J' := J) rfl ?_
      refine EV_iald (j := i) C (by decide +kernel) rfl (nI_toInt (by omega)) (by omega) ?_
      refine EV_blk (own := 7) C rfl [(.iload_n 1, 0, 0, 0, 0)] (pc' := 14) (by decide +kernel) (lv' := [some (.ref 102), some (.int (nI r)), some (.int (nI i))]) (st' := [.int (nI r), .int (I 103 i)]) (I' := I) (J' := J) rfl ?_
      refine EV_icmp_ne (off := 5) (tgt := 19) C (by decide +kernel) (by decide) (fun h2 => ?_) (fun h2 => ?_)
      · skip
        refine EV_blk (own := 7) C rfl [(.iinc 2 1, 0, 0, 0, (nI 1)), (.goto (-20), 0, 0, 0, 0)] (pc' := 2) (by decide +kernel) (lv' := [some (.ref 102), some (.int (nI r)), some (.int ((nI i) + (nI 1)))]) (st' := []) (I' := I) (J' := J) rfl ?_
        rw [show ((nI i) + (nI 1)) = (nI (i + 1)) from by simp (disch := omega) only [nI_add, tq_mul] <;> exact congrArg nI (by omega)]
        exact ih (i + 1) (by omega) (hr.trans (tq_sr_none (show (f_rk1 I r) i = none from by simp only [f_rk1, if_neg h1, if_neg h2]))) kk
      · skip
        refine EV_blk (own := 7) C rfl [(.iconst 1, 0, 0, 0, (nI 1))] (pc' := 18) (by decide +kernel) (lv' := [some (.ref 102), some (.int (nI r)), some (.int (nI i))]) (st' := [.int (nI 1)]) (I' := I) (J' := J) rfl ?_
        exact EV_zret C hZ rfl (by decide) (by decide +kernel) (Nat.le_refl _) (Nat.le_refl _) ⟨tq_some ((hr.trans (tq_sr_some (show (f_rk1 I r) i = some (nI 1) from by simp only [f_rk1, if_neg h1, if_pos h2]))).symm), rfl, rfl, rfl, rfl⟩
def r_X7_isRankOfCorner (I : tq_I) (r : Nat) : Int32 := (tq_sr (f_rk1 I r) 4 0 (nI 0))
set_option maxRecDepth 20000 in
theorem c_X7_isRankOfCorner (g : tq_G) (rest : List tq_S) (I : tq_I) (J : Int64) (r : Nat)  : CT g mX7_isRankOfCorner 0 0 0 [.ref 102, .int (nI r)] (tq_SC ++ rest) tq_RR I J (tq_ret (tq_SC ++ rest) tq_RR (some (.int (r_X7_isRankOfCorner I r))) I J) := by
  refine CT.ret kX7_isRankOfCorner (Nat.le_of_ble_eq_true rfl) (fun x0 C hR hZ => ?_)
  refine EV_en (lv' := [some (.ref 102), some (.int (nI r)), none]) 1 rfl ?_
  refine EV_blk (own := 7) C rfl [(.iconst 0, 0, 0, 0, (nI 0)), (.istore_n 2, 0, 0, 0, 0)] (pc' := 2) (by decide +kernel) (lv' := [some (.ref 102), some (.int (nI r)), some (.int (nI 0))]) (st' := []) (I' := I) (J' := J) rfl ?_
  refine lp_rk1 I J C hR hZ r  4 0 (by omega) (by simp only [r_X7_isRankOfCorner]) (fun hd => ?_)
  refine EV_blk (own := 7) C rfl [(.iconst 0, 0, 0, 0, (nI 0))] (pc' := 26) (by decide +kernel) (lv' := [some (.ref 102), some (.int (nI r)), none]) (st' := [.int (nI 0)]) (I' := I) (J' := J) rfl ?_
  exact EV_zret C hZ rfl (by decide) (by decide +kernel) (Nat.le_refl _) (Nat.le_refl _) ⟨tq_some hd.symm, rfl, rfl, rfl, rfl⟩
def f_mf1 (I : tq_I) (r : Nat) (i : Nat) (a : Int32) : Int32 := (if (I 103 i) < (nI r) then a else (a ||| ((nI 1) <<< ((nI i) &&& 31))))
set_option maxRecDepth 20000 in
theorem lp_mf1 {g : tq_G} {rest : List tq_S} {x0 : tq_X} (C : tq_C g mX7_maskFrom x0) (hR : tq_ht x0 0 0 0) (I : tq_I) (J : Int64) (r : Nat)  : ∀ (n i : Nat) (a : Int32), i + n = 4 → EV g mX7_maskFrom x0 0 0 31 [some (.ref 102), some (.int (nI r)), some (.int (tq_it (f_mf1 I r) n i a)), some (.int (nI (i + n)))] [] (tq_SC ++ rest) tq_RR I J → EV g mX7_maskFrom x0 0 0 4 [some (.ref 102), some (.int (nI r)), some (.int a), some (.int (nI i))] [] (tq_SC ++ rest) tq_RR I J := by
  intro n
  induction n with
  | zero =>
    intro i a hi kk
    rw [Nat.add_zero] at kk
    refine EV_blk (own := 7) C rfl [(.iload_n 3, 0, 0, 0, 0), (.iconst 4, 0, 0, 0, (nI 4))] (pc' := 6) (by decide +kernel) (lv' := [some (.ref 102), some (.int (nI r)), some (.int a), some (.int (nI i))]) (st' := [.int (nI 4), .int (nI i)]) (I' := I) (J' := J) rfl ?_
    refine EV_icmp_ge (off := 25) (tgt := 31) C (by decide +kernel) (by decide) (fun h1 => ?_) (fun h1 => ?_)
    · skip
      exact kk
    · skip
      exact absurd h1 (by simp (disch := omega) only [Int32.lt_iff_toInt_lt, Int32.le_iff_toInt_le, Int32.toInt_zero, nI_toInt, tq_m1]; omega)
  | succ n ih =>
    intro i a hi kk
    rw [show i + (n + 1) = (i + 1) + n by omega] at kk
    refine EV_blk (own := 7) C rfl [(.iload_n 3, 0, 0, 0, 0), (.iconst 4, 0, 0, 0, (nI 4))] (pc' := 6) (by decide +kernel) (lv' := [some (.ref 102), some (.int (nI r)), some (.int a), some (.int (nI i))]) (st' := [.int (nI 4), .int (nI i)]) (I' := I) (J' := J) rfl ?_
    refine EV_icmp_ge (off := 25) (tgt := 31) C (by decide +kernel) (by decide) (fun h1 => ?_) (fun h1 => ?_)
    · skip
      exact absurd h1 (by simp (disch := omega) only [Int32.lt_iff_toInt_lt, Int32.le_iff_toInt_le, Int32.toInt_zero, nI_toInt, tq_m1]; omega)
    · skip
      refine EV_blk (own := 7) C rfl [(.aload_n 0, 0, 0, 0, 0), (.getfield 9, 7, 0, 250, 0), (.iload_n 3, 0, 0, 0, 0)] (pc' := 14) (by decide +kernel) (lv' := [some (.ref 102), some (.int (nI r)), some (.int a), some (.int (nI i))]) (st' := [.int (nI i), .ref 103]) (I' := I) (J' := J) rfl ?_
      refine EV_iald (j := i) C (by decide +kernel) rfl (nI_toInt (by omega)) (by omega) ?_
      refine EV_blk (own := 7) C rfl [(.iload_n 1, 0, 0, 0, 0)] (pc' := 16) (by decide +kernel) (lv' := [some (.ref 102), some (.int (nI r)), some (.int a), some (.int (nI i))]) (st' := [.int (nI r), .int (I 103 i)]) (I' := I) (J' := J) rfl ?_
      refine EV_icmp_lt (off := 9) (tgt := 25) C (by decide +kernel) (by decide) (fun h2 => ?_) (fun h2 => ?_)
      · skip
        refine EV_blk (own := 7) C rfl [(.iinc 3 1, 0, 0, 0, (nI 1)), (.goto (-24), 0, 0, 0, 0)] (pc' := 4) (by decide +kernel) (lv' := [some (.ref 102), some (.int (nI r)), some (.int a), some (.int ((nI i) + (nI 1)))]) (st' := []) (I' := I) (J' := J) rfl ?_
        rw [show ((nI i) + (nI 1)) = (nI (i + 1)) from by simp (disch := omega) only [nI_add, tq_mul] <;> exact congrArg nI (by omega)]
        rw [tq_its, show (f_mf1 I r) i a = a from by simp only [f_mf1, if_neg h1, if_pos h2]] at kk
        exact ih (i + 1) a (by omega) kk
      · skip
        refine EV_blk (own := 7) C rfl [(.iload_n 2, 0, 0, 0, 0), (.iconst 1, 0, 0, 0, (nI 1)), (.iload_n 3, 0, 0, 0, 0), (.ishl, 0, 0, 0, 0), (.ior, 0, 0, 0, 0), (.istore_n 2, 0, 0, 0, 0), (.iinc 3 1, 0, 0, 0, (nI 1)), (.goto (-24), 0, 0, 0, 0)] (pc' := 4) (by decide +kernel) (lv' := [some (.ref 102), some (.int (nI r)), some (.int (a ||| ((nI 1) <<< ((nI i) &&& 31)))), some (.int ((nI i) + (nI 1)))]) (st' := []) (I' := I) (J' := J) rfl ?_
        rw [show ((nI i) + (nI 1)) = (nI (i + 1)) from by simp (disch := omega) only [nI_add, tq_mul] <;> exact congrArg nI (by omega)]
        rw [tq_its, show (f_mf1 I r) i a = (a ||| ((nI 1) <<< ((nI i) &&& 31))) from by simp only [f_mf1, if_neg h1, if_neg h2]] at kk
        exact ih (i + 1) (a ||| ((nI 1) <<< ((nI i) &&& 31))) (by omega) kk
def r_X7_maskFrom (I : tq_I) (r : Nat) : Int32 := (tq_it (f_mf1 I r) 4 0 (nI 0))
set_option maxRecDepth 20000 in
theorem c_X7_maskFrom (g : tq_G) (rest : List tq_S) (I : tq_I) (J : Int64) (r : Nat)  : CT g mX7_maskFrom 0 0 0 [.ref 102, .int (nI r)] (tq_SC ++ rest) tq_RR I J (tq_ret (tq_SC ++ rest) tq_RR (some (.int (r_X7_maskFrom I r))) I J) := by
  refine CT.ret kX7_maskFrom (Nat.le_of_ble_eq_true rfl) (fun x0 C hR hZ => ?_)
  refine EV_en (lv' := [some (.ref 102), some (.int (nI r)), none, none]) 2 rfl ?_
  refine EV_blk (own := 7) C rfl [(.iconst 0, 0, 0, 0, (nI 0)), (.istore_n 2, 0, 0, 0, 0), (.iconst 0, 0, 0, 0, (nI 0)), (.istore_n 3, 0, 0, 0, 0)] (pc' := 4) (by decide +kernel) (lv' := [some (.ref 102), some (.int (nI r)), some (.int (nI 0)), some (.int (nI 0))]) (st' := []) (I' := I) (J' := J) rfl ?_
  refine lp_mf1 C hR I J r  4 0 (nI 0) (by omega) ?_
  refine EV_blk (own := 7) C rfl [(.iload_n 2, 0, 0, 0, 0)] (pc' := 32) (by decide +kernel) (lv' := [some (.ref 102), some (.int (nI r)), some (.int (tq_it (f_mf1 I r) 4 0 (nI 0))), some (.int (nI ((0 + 4))))]) (st' := [.int (tq_it (f_mf1 I r) 4 0 (nI 0))]) (I' := I) (J' := J) rfl ?_
  exact EV_iret C hZ rfl (by decide +kernel) (Nat.le_refl _) (Nat.le_refl _) ⟨tq_some (by simp only [r_X7_maskFrom]), rfl, rfl, rfl, rfl⟩
theorem tq_mask15 (I : tq_I) (r : Nat) : 0 ≤ (r_X7_maskFrom I r).toInt ∧ (r_X7_maskFrom I r).toInt ≤ 15 := by
  simp only [r_X7_maskFrom, tq_it, f_mf1]
  split <;> split <;> split <;> split <;> decide
theorem tq_rk01 (I : tq_I) (r : Nat) : r_X7_isRankOfCorner I r = 0 ∨ r_X7_isRankOfCorner I r = 1 := by
  have h : ∀ n i, tq_sr (f_rk1 I r) n i (nI 0) = 0 ∨ tq_sr (f_rk1 I r) n i (nI 0) = 1 := by
    intro n
    induction n with
    | zero => intro i; exact Or.inl rfl
    | succ n ih =>
      intro i
      simp only [tq_sr, f_rk1]
      split
      · rename_i v hv
        split at hv
        · cases hv; exact Or.inr rfl
        · cases hv
      · exact ih _
  exact h 4 0
set_option maxRecDepth 20000 in
theorem cI_X6_rankOf (g : tq_G) (rest : List tq_S) (I : tq_I) (J : Int64) (t : Int32) (h0 : 0 ≤ t.toInt) (h5 : t.toInt ≤ 5) : CT g mX6_rankOf 0 0 0 [.ref 5, .int t] (tq_SC ++ rest) tq_RR I J (tq_ret (tq_SC ++ rest) tq_RR (some (.int (I 6 (tq_N t)))) I J) := by
  refine CT.ret kX6_rankOf (Nat.le_of_ble_eq_true rfl) (fun x0 C hR hZ => ?_)
  refine EV_en (lv' := [some (.ref 5), some (.int t)]) 0 rfl ?_
  refine EV_blk (own := 6) C rfl [(.aload_n 0, 0, 0, 0, 0), (.getfield 9, 6, 0, 142, 0), (.iload_n 1, 0, 0, 0, 0)] (pc' := 5) (by decide +kernel) (lv' := [some (.ref 5), some (.int t)]) (st' := [.int t, .ref 6]) (I' := I) (J' := J) rfl ?_
  refine EV_iald (j := (tq_N t)) C (by decide +kernel) rfl (by unfold tq_N; omega) (by unfold tq_N; omega) ?_
  exact EV_iret C hZ rfl (by decide +kernel) (Nat.le_refl _) (Nat.le_refl _) ⟨rfl, rfl, rfl, rfl, rfl⟩
def f_dl1 (x y : Nat) (i : Nat) (a : tq_I) : tq_I := (tq_u a 103 i (a 6 (tq_N (a 3 ((y + (i / 2)) * 11 + (x + (i % 2)))))))
set_option maxRecDepth 20000 in
theorem lp_dl1 {g : tq_G} {rest : List tq_S} {x0 : tq_X} (C : tq_C g mX7_drawLayers x0) (hR : tq_ht x0 2 0 0) (J : Int64) (x y : Nat) (hx : x ≤ 9) (hy : y ≤ 9) : ∀ (n i : Nat) (a : tq_I), i + n = 4 → (∀ i, i < 4 → 0 ≤ (a 3 ((y + i / 2) * 11 + (x + i % 2))).toInt ∧ (a 3 ((y + i / 2) * 11 + (x + i % 2))).toInt ≤ 5) → EV g mX7_drawLayers x0 0 0 52 [some (.ref 102), some (.ref 1), some (.int (nI x)), some (.int (nI y)), some (.int (nI (i + n))), none] [] (tq_SC ++ rest) tq_RR (tq_it (f_dl1 x y) n i a) J → EV g mX7_drawLayers x0 0 0 3 [some (.ref 102), some (.ref 1), some (.int (nI x)), some (.int (nI y)), some (.int (nI i)), none] [] (tq_SC ++ rest) tq_RR a J := by
  intro n
  induction n with
  | zero =>
    intro i a hi hI kk
    rw [Nat.add_zero] at kk
    refine EV_blk (own := 7) C rfl [(.iload 4, 0, 0, 0, 0), (.iconst 4, 0, 0, 0, (nI 4))] (pc' := 6) (by decide +kernel) (lv' := [some (.ref 102), some (.ref 1), some (.int (nI x)), some (.int (nI y)), some (.int (nI i)), none]) (st' := [.int (nI 4), .int (nI i)]) (I' := a) (J' := J) rfl ?_
    refine EV_icmp_ge (off := 46) (tgt := 52) C (by decide +kernel) (by decide) (fun h1 => ?_) (fun h1 => ?_)
    · skip
      exact kk
    · skip
      exact absurd h1 (by simp (disch := omega) only [Int32.lt_iff_toInt_lt, Int32.le_iff_toInt_le, Int32.toInt_zero, nI_toInt, tq_m1]; omega)
  | succ n ih =>
    intro i a hi hI kk
    rw [show i + (n + 1) = (i + 1) + n by omega] at kk
    refine EV_blk (own := 7) C rfl [(.iload 4, 0, 0, 0, 0), (.iconst 4, 0, 0, 0, (nI 4))] (pc' := 6) (by decide +kernel) (lv' := [some (.ref 102), some (.ref 1), some (.int (nI x)), some (.int (nI y)), some (.int (nI i)), none]) (st' := [.int (nI 4), .int (nI i)]) (I' := a) (J' := J) rfl ?_
    refine EV_icmp_ge (off := 46) (tgt := 52) C (by decide +kernel) (by decide) (fun h1 => ?_) (fun h1 => ?_)
    · skip
      exact absurd h1 (by simp (disch := omega) only [Int32.lt_iff_toInt_lt, Int32.le_iff_toInt_le, Int32.toInt_zero, nI_toInt, tq_m1]; omega)
    · skip
      refine EV_blk (own := 7) C rfl [(.aload_n 1, 0, 0, 0, 0), (.getfield 45, 8, 0, 192, 0), (.iload_n 2, 0, 0, 0, 0), (.iload 4, 0, 0, 0, 0), (.iconst 2, 0, 0, 0, (nI 2))] (pc' := 17) (by decide +kernel) (lv' := [some (.ref 102), some (.ref 1), some (.int (nI x)), some (.int (nI y)), some (.int (nI i)), none]) (st' := [.int (nI 2), .int (nI i), .int (nI x), .ref 2]) (I' := a) (J' := J) rfl ?_
      refine EV_irem C (by decide +kernel) (by decide) ?_
      refine EV_blk (own := 7) C rfl [(.iadd, 0, 0, 0, 0), (.iload_n 3, 0, 0, 0, 0), (.iload 4, 0, 0, 0, 0), (.iconst 2, 0, 0, 0, (nI 2))] (pc' := 23) (by decide +kernel) (lv' := [some (.ref 102), some (.ref 1), some (.int (nI x)), some (.int (nI y)), some (.int (nI i)), none]) (st' := [.int (nI 2), .int (nI i), .int (nI y), .int ((nI x) + (tq_rem (nI i) (nI 2))), .ref 2]) (I' := a) (J' := J) rfl ?_
      refine EV_idiv C (by decide +kernel) (by decide) ?_
      refine EV_blk (own := 7) C rfl [(.iadd, 0, 0, 0, 0)] (pc' := 25) (by decide +kernel) (lv' := [some (.ref 102), some (.ref 1), some (.int (nI x)), some (.int (nI y)), some (.int (nI i)), none]) (st' := [.int ((nI y) + ((nI i) / (nI 2))), .int ((nI x) + (tq_rem (nI i) (nI 2))), .ref 2]) (I' := a) (J' := J) rfl ?_
      rw [show ((nI y) + ((nI i) / (nI 2))) = (nI (y + (i / 2))) from by simp (disch := omega) only [nI_add, tq_mul, tq_rem_nI, tq_div_nI, tq_sub_nI]]
      rw [show ((nI x) + (tq_rem (nI i) (nI 2))) = (nI (x + (i % 2))) from by simp (disch := omega) only [nI_add, tq_mul, tq_rem_nI, tq_div_nI, tq_sub_nI]]
      refine EV_cV (own := 7) (idx := 64) (μ' := mX3_terrainAt) (b := 2) (cb := 3) (av := [.int (nI (x + (i % 2))), .int (nI (y + (i / 2)))]) (rest := []) C hR rfl (Or.inl ⟨672, by decide⟩) kX3_terrainAt sX3_terrainAt (c_X3_terrainAt g rest a J (x + (i % 2)) (y + (i / 2)) (by omega) (by omega)) rfl rfl (by decide +kernel) rfl (by decide) (Nat.le_of_ble_eq_true rfl) rfl ⟨Nat.zero_le _, Nat.zero_le _⟩ ?_
      refine EV_blk (own := 7) C rfl [(.istore 5, 0, 0, 0, 0), (.aload_n 0, 0, 0, 0, 0), (.getfield 9, 7, 0, 250, 0), (.iload 4, 0, 0, 0, 0), (.aload_n 1, 0, 0, 0, 0), (.getfield 35, 8, 1, 195, 0), (.iload 5, 0, 0, 0, 0)] (pc' := 42) (by decide +kernel) (lv' := [some (.ref 102), some (.ref 1), some (.int (nI x)), some (.int (nI y)), some (.int (nI i)), some (.int (a 3 ((y + (i / 2)) * 11 + (x + (i % 2)))))]) (st' := [.int (a 3 ((y + (i / 2)) * 11 + (x + (i % 2)))), .ref 5, .int (nI i), .ref 103]) (I' := a) (J' := J) rfl ?_
      refine EV_cV (own := 7) (idx := 68) (μ' := mX6_rankOf) (b := 5) (cb := 6) (av := [.int (a 3 ((y + (i / 2)) * 11 + (x + (i % 2))))]) (rest := [.int (nI i), .ref 103]) C hR rfl (Or.inl ⟨673, by decide⟩) kX6_rankOf sX6_rankOf (cI_X6_rankOf g rest a J (a 3 ((y + (i / 2)) * 11 + (x + (i % 2)))) (hI i (by omega)).1 (hI i (by omega)).2) rfl rfl (by decide +kernel) rfl (by decide) (Nat.le_of_ble_eq_true rfl) rfl ⟨Nat.zero_le _, Nat.zero_le _⟩ ?_
      refine EV_iast (j := i) C (by decide +kernel) rfl (nI_toInt (by omega)) (by omega) ?_
      refine EV_blk (own := 7) C rfl [(.iinc 4 1, 0, 0, 0, (nI 1)), (.goto (-46), 0, 0, 0, 0)] (pc' := 3) (by decide +kernel) (lv' := [some (.ref 102), some (.ref 1), some (.int (nI x)), some (.int (nI y)), some (.int ((nI i) + (nI 1))), some (.int (a 3 ((y + (i / 2)) * 11 + (x + (i % 2)))))]) (st' := []) (I' := (tq_u a 103 i (a 6 (tq_N (a 3 ((y + (i / 2)) * 11 + (x + (i % 2)))))))) (J' := J) rfl ?_
      refine EV_fg (lv' := [some (.ref 102), some (.ref 1), some (.int (nI x)), some (.int (nI y)), some (.int ((nI i) + (nI 1))), none]) ⟨rfl, rfl, rfl, rfl, rfl, trivial⟩ ?_
      rw [show ((nI i) + (nI 1)) = (nI (i + 1)) from by simp (disch := omega) only [nI_add, tq_mul] <;> exact congrArg nI (by omega)]
      rw [tq_its, show (f_dl1 x y) i a = (tq_u a 103 i (a 6 (tq_N (a 3 ((y + (i / 2)) * 11 + (x + (i % 2))))))) from by simp only [f_dl1, if_neg h1]] at kk
      exact ih (i + 1) (tq_u a 103 i (a 6 (tq_N (a 3 ((y + (i / 2)) * 11 + (x + (i % 2))))))) (by omega) hI kk
theorem fr_dl1 (x y : Nat) {cz : Nat} (hc : cz ≠ 103) (n i : Nat) (a : tq_I) (jz : Nat) : (tq_it (f_dl1 x y) n i a) cz jz = a cz jz := by
  have hc0 := hc
  refine tq_itF (fun i a j => ?_) n i a jz
  simp only [f_dl1]
  (repeat' split) <;> simp (disch := first | assumption | (simp only [ne_eq] at *; simp [*])) [tq_u, tq_cp, hc0, fr_tb1, fr_tb2, fr_X8_touchBlock, fr_X8_touchAll, fr_X8_changeCorner, fr_X8_changePath, fr_cb1, fr_cb2, fr_X8_changeBlock, fr_wipe1, fr_X1_wipe, fr_sm1, fr_sm2, fr_X8_startMap, fr_X6_place, fr_mt1, fr_mt2, fr_X6_moveTo, fr_ch2, fr_X10_choose, fr_X1_take, fr_fgt1, fr_X5_forget, fr_X5_meet, fr_gat1, fr_X5_gather]
theorem tq_dl_ok {a b : tq_I} (hI : 0 ≤ (a 102 3).toInt ∧ (a 102 3).toInt ≤ 4 ∧ tq_le5 (a 7)) (h : ¬ (nI 4) ≤ a 102 3) (hb : b 102 3 = a 102 3 + nI 1) (h7 : ∀ k, b 7 k = a 7 k) : 0 ≤ (b 102 3).toInt ∧ (b 102 3).toInt ≤ 4 ∧ tq_le5 (b 7) := by
  simp (disch := omega) only [Int32.le_iff_toInt_le, nI_toInt] at h
  have hn := tq_nIN hI.1
  have e2 : (a 102 3 + nI 1).toInt = (a 102 3).toInt + 1 := by
    have hle : tq_N (a 102 3) ≤ 4 := by unfold tq_N; omega
    rw [hn, nI_add, nI_toInt (by omega), nI_toInt (by omega)]
    rfl
  refine ⟨by rw [hb, e2]; omega, by rw [hb, e2]; omega, fun k hk => by rw [h7]; exact hI.2.2 k hk⟩
def f_dl2 (x y : Nat) (i : Nat) (a : tq_I) : tq_I := (if (r_X7_isRankOfCorner a i) = 0 then a else (if (nI 4) ≤ (a 102 3) then a else (tq_u (tq_u (tq_u a 104 (tq_N (a 102 3)) (a 7 i)) 105 (tq_N (a 102 3)) (r_X7_maskFrom (tq_u a 104 (tq_N (a 102 3)) (a 7 i)) i)) 102 3 (((tq_u (tq_u a 104 (tq_N (a 102 3)) (a 7 i)) 105 (tq_N (a 102 3)) (r_X7_maskFrom (tq_u a 104 (tq_N (a 102 3)) (a 7 i)) i)) 102 3) + (nI 1)))))
set_option maxRecDepth 20000 in
theorem lp_dl2 {g : tq_G} {rest : List tq_S} {x0 : tq_X} (C : tq_C g mX7_drawLayers x0) (hR : tq_ht x0 2 0 0) (J : Int64) (x y : Nat)  : ∀ (n i : Nat) (a : tq_I), i + n = 6 → (0 ≤ (a 102 3).toInt ∧ (a 102 3).toInt ≤ 4 ∧ tq_le5 (a 7)) → EV g mX7_drawLayers x0 0 0 133 [some (.ref 102), some (.ref 1), some (.int (nI x)), some (.int (nI y)), some (.int (nI (i + n))), none] [] (tq_SC ++ rest) tq_RR (tq_it (f_dl2 x y) n i a) J → EV g mX7_drawLayers x0 0 0 60 [some (.ref 102), some (.ref 1), some (.int (nI x)), some (.int (nI y)), some (.int (nI i)), none] [] (tq_SC ++ rest) tq_RR a J := by
  intro n
  induction n with
  | zero =>
    intro i a hi hI kk
    rw [Nat.add_zero] at kk
    refine EV_blk (own := 7) C rfl [(.iload 4, 0, 0, 0, 0), (.bipush 6, 0, 0, 0, (nI 6))] (pc' := 64) (by decide +kernel) (lv' := [some (.ref 102), some (.ref 1), some (.int (nI x)), some (.int (nI y)), some (.int (nI i)), none]) (st' := [.int (nI 6), .int (nI i)]) (I' := a) (J' := J) rfl ?_
    refine EV_icmp_ge (off := 69) (tgt := 133) C (by decide +kernel) (by decide) (fun h1 => ?_) (fun h1 => ?_)
    · skip
      exact kk
    · skip
      exact absurd h1 (by simp (disch := omega) only [Int32.lt_iff_toInt_lt, Int32.le_iff_toInt_le, Int32.toInt_zero, nI_toInt, tq_m1]; omega)
  | succ n ih =>
    intro i a hi hI kk
    rw [show i + (n + 1) = (i + 1) + n by omega] at kk
    refine EV_blk (own := 7) C rfl [(.iload 4, 0, 0, 0, 0), (.bipush 6, 0, 0, 0, (nI 6))] (pc' := 64) (by decide +kernel) (lv' := [some (.ref 102), some (.ref 1), some (.int (nI x)), some (.int (nI y)), some (.int (nI i)), none]) (st' := [.int (nI 6), .int (nI i)]) (I' := a) (J' := J) rfl ?_
    refine EV_icmp_ge (off := 69) (tgt := 133) C (by decide +kernel) (by decide) (fun h1 => ?_) (fun h1 => ?_)
    · skip
      exact absurd h1 (by simp (disch := omega) only [Int32.lt_iff_toInt_lt, Int32.le_iff_toInt_le, Int32.toInt_zero, nI_toInt, tq_m1]; omega)
    · skip
      refine EV_blk (own := 7) C rfl [(.aload_n 0, 0, 0, 0, 0), (.iload 4, 0, 0, 0, 0)] (pc' := 70) (by decide +kernel) (lv' := [some (.ref 102), some (.ref 1), some (.int (nI x)), some (.int (nI y)), some (.int (nI i)), none]) (st' := [.int (nI i), .ref 102]) (I' := a) (J' := J) rfl ?_
      refine EV_cV (own := 7) (idx := 72) (μ' := mX7_isRankOfCorner) (b := 102) (cb := 7) (av := [.int (nI i)]) (rest := []) C hR rfl (Or.inl ⟨674, by decide⟩) kX7_isRankOfCorner sX7_isRankOfCorner (c_X7_isRankOfCorner g rest a J i ) rfl rfl (by decide +kernel) rfl (by decide) (Nat.le_of_ble_eq_true rfl) rfl ⟨Nat.zero_le _, Nat.zero_le _⟩ ?_
      refine EV_if_eq (off := 54) (tgt := 127) C (by decide +kernel) (by decide) (fun h2 => ?_) (fun h2 => ?_)
      · skip
        refine EV_blk (own := 7) C rfl [(.iinc 4 1, 0, 0, 0, (nI 1)), (.goto (-70), 0, 0, 0, 0)] (pc' := 60) (by decide +kernel) (lv' := [some (.ref 102), some (.ref 1), some (.int (nI x)), some (.int (nI y)), some (.int ((nI i) + (nI 1))), none]) (st' := []) (I' := a) (J' := J) rfl ?_
        rw [show ((nI i) + (nI 1)) = (nI (i + 1)) from by simp (disch := omega) only [nI_add, tq_mul] <;> exact congrArg nI (by omega)]
        rw [tq_its, show (f_dl2 x y) i a = a from by simp only [f_dl2, if_neg h1, if_pos h2]] at kk
        exact ih (i + 1) a (by omega) (by first | exact hI | exact tq_dl_ok hI h3 rfl (fun _ => rfl)) kk
      · skip
        refine EV_blk (own := 7) C rfl [(.aload_n 0, 0, 0, 0, 0), (.getfield 32, 7, 3, 255, 0), (.iconst 4, 0, 0, 0, (nI 4))] (pc' := 81) (by decide +kernel) (lv' := [some (.ref 102), some (.ref 1), some (.int (nI x)), some (.int (nI y)), some (.int (nI i)), none]) (st' := [.int (nI 4), .int (a 102 3)]) (I' := a) (J' := J) rfl ?_
        refine EV_icmp_ge (off := 46) (tgt := 127) C (by decide +kernel) (by decide) (fun h3 => ?_) (fun h3 => ?_)
        · skip
          refine EV_blk (own := 7) C rfl [(.iinc 4 1, 0, 0, 0, (nI 1)), (.goto (-70), 0, 0, 0, 0)] (pc' := 60) (by decide +kernel) (lv' := [some (.ref 102), some (.ref 1), some (.int (nI x)), some (.int (nI y)), some (.int ((nI i) + (nI 1))), none]) (st' := []) (I' := a) (J' := J) rfl ?_
          rw [show ((nI i) + (nI 1)) = (nI (i + 1)) from by simp (disch := omega) only [nI_add, tq_mul] <;> exact congrArg nI (by omega)]
          rw [tq_its, show (f_dl2 x y) i a = a from by simp only [f_dl2, if_neg h1, if_neg h2, if_pos h3]] at kk
          exact ih (i + 1) a (by omega) (by first | exact hI | exact tq_dl_ok hI h3 rfl (fun _ => rfl)) kk
        · skip
          refine EV_blk (own := 7) C rfl [(.aload_n 0, 0, 0, 0, 0), (.getfield 15, 7, 1, 251, 0), (.aload_n 0, 0, 0, 0, 0), (.getfield 32, 7, 3, 255, 0), (.aload_n 1, 0, 0, 0, 0), (.getfield 35, 8, 1, 195, 0), (.iload 4, 0, 0, 0, 0)] (pc' := 98) (by decide +kernel) (lv' := [some (.ref 102), some (.ref 1), some (.int (nI x)), some (.int (nI y)), some (.int (nI i)), none]) (st' := [.int (nI i), .ref 5, .int (a 102 3), .ref 104]) (I' := a) (J' := J) rfl ?_
          refine EV_cV (own := 7) (idx := 76) (μ' := mX6_terrainWithRank) (b := 5) (cb := 6) (av := [.int (nI i)]) (rest := [.int (a 102 3), .ref 104]) C hR rfl (Or.inl ⟨678, by decide⟩) kX6_terrainWithRank sX6_terrainWithRank (c_X6_terrainWithRank g rest a J i (by omega)) rfl rfl (by decide +kernel) rfl (by decide) (Nat.le_of_ble_eq_true rfl) rfl ⟨Nat.zero_le _, Nat.zero_le _⟩ ?_
          have h4 : ¬ (nI 4) ≤ a 102 3 := h3
          simp (disch := omega) only [Int32.le_iff_toInt_le, nI_toInt] at h4
          refine EV_iast (j := (tq_N (a 102 3))) C (by decide +kernel) rfl (show (a 102 3).toInt = _ by unfold tq_N; omega) (by unfold tq_N; omega) ?_
          refine EV_blk (own := 7) C rfl [(.aload_n 0, 0, 0, 0, 0), (.getfield 18, 7, 2, 253, 0), (.aload_n 0, 0, 0, 0, 0), (.getfield 32, 7, 3, 255, 0), (.aload_n 0, 0, 0, 0, 0), (.iload 4, 0, 0, 0, 0)] (pc' := 113) (by decide +kernel) (lv' := [some (.ref 102), some (.ref 1), some (.int (nI x)), some (.int (nI y)), some (.int (nI i)), none]) (st' := [.int (nI i), .ref 102, .int ((tq_u a 104 (tq_N (a 102 3)) (a 7 i)) 102 3), .ref 105]) (I' := (tq_u a 104 (tq_N (a 102 3)) (a 7 i))) (J' := J) rfl ?_
          refine EV_cV (own := 7) (idx := 79) (μ' := mX7_maskFrom) (b := 102) (cb := 7) (av := [.int (nI i)]) (rest := [.int ((tq_u a 104 (tq_N (a 102 3)) (a 7 i)) 102 3), .ref 105]) C hR rfl (Or.inl ⟨679, by decide⟩) kX7_maskFrom sX7_maskFrom (c_X7_maskFrom g rest (tq_u a 104 (tq_N (a 102 3)) (a 7 i)) J i ) rfl rfl (by decide +kernel) rfl (by decide) (Nat.le_of_ble_eq_true rfl) rfl ⟨Nat.zero_le _, Nat.zero_le _⟩ ?_
          refine EV_iast (j := (tq_N (a 102 3))) C (by decide +kernel) rfl (show (a 102 3).toInt = _ by unfold tq_N; omega) (by unfold tq_N; omega) ?_
          refine EV_blk (own := 7) C rfl [(.aload_n 0, 0, 0, 0, 0), (.dup, 0, 0, 0, 0), (.getfield 32, 7, 3, 255, 0), (.iconst 1, 0, 0, 0, (nI 1)), (.iadd, 0, 0, 0, 0), (.putfield 32, 7, 3, 255, 0), (.iinc 4 1, 0, 0, 0, (nI 1)), (.goto (-70), 0, 0, 0, 0)] (pc' := 60) (by decide +kernel) (lv' := [some (.ref 102), some (.ref 1), some (.int (nI x)), some (.int (nI y)), some (.int ((nI i) + (nI 1))), none]) (st' := []) (I' := (tq_u (tq_u (tq_u a 104 (tq_N (a 102 3)) (a 7 i)) 105 (tq_N (a 102 3)) (r_X7_maskFrom (tq_u a 104 (tq_N (a 102 3)) (a 7 i)) i)) 102 3 (((tq_u (tq_u a 104 (tq_N (a 102 3)) (a 7 i)) 105 (tq_N (a 102 3)) (r_X7_maskFrom (tq_u a 104 (tq_N (a 102 3)) (a 7 i)) i)) 102 3) + (nI 1)))) (J' := J) rfl ?_
          rw [show ((nI i) + (nI 1)) = (nI (i + 1)) from by simp (disch := omega) only [nI_add, tq_mul] <;> exact congrArg nI (by omega)]
          rw [tq_its, show (f_dl2 x y) i a = (tq_u (tq_u (tq_u a 104 (tq_N (a 102 3)) (a 7 i)) 105 (tq_N (a 102 3)) (r_X7_maskFrom (tq_u a 104 (tq_N (a 102 3)) (a 7 i)) i)) 102 3 (((tq_u (tq_u a 104 (tq_N (a 102 3)) (a 7 i)) 105 (tq_N (a 102 3)) (r_X7_maskFrom (tq_u a 104 (tq_N (a 102 3)) (a 7 i)) i)) 102 3) + (nI 1))) from by simp only [f_dl2, if_neg h1, if_neg h2, if_neg h3]] at kk
          exact ih (i + 1) (tq_u (tq_u (tq_u a 104 (tq_N (a 102 3)) (a 7 i)) 105 (tq_N (a 102 3)) (r_X7_maskFrom (tq_u a 104 (tq_N (a 102 3)) (a 7 i)) i)) 102 3 (((tq_u (tq_u a 104 (tq_N (a 102 3)) (a 7 i)) 105 (tq_N (a 102 3)) (r_X7_maskFrom (tq_u a 104 (tq_N (a 102 3)) (a 7 i)) i)) 102 3) + (nI 1))) (by omega) (by first | exact hI | exact tq_dl_ok hI h3 rfl (fun _ => rfl)) kk
theorem fr_dl2 (x y : Nat) {cz : Nat} (hc : cz ≠ 102 ∧ cz ≠ 104 ∧ cz ≠ 105) (n i : Nat) (a : tq_I) (jz : Nat) : (tq_it (f_dl2 x y) n i a) cz jz = a cz jz := by
  obtain ⟨hc0, hc1, hc2⟩ := hc
  refine tq_itF (fun i a j => ?_) n i a jz
  simp only [f_dl2]
  (repeat' split) <;> simp (disch := first | assumption | (simp only [ne_eq] at *; simp [*])) [tq_u, tq_cp, hc0, hc1, hc2, fr_tb1, fr_tb2, fr_X8_touchBlock, fr_X8_touchAll, fr_X8_changeCorner, fr_X8_changePath, fr_cb1, fr_cb2, fr_X8_changeBlock, fr_wipe1, fr_X1_wipe, fr_sm1, fr_sm2, fr_X8_startMap, fr_X6_place, fr_mt1, fr_mt2, fr_X6_moveTo, fr_ch2, fr_X10_choose, fr_X1_take, fr_fgt1, fr_X5_forget, fr_X5_meet, fr_gat1, fr_X5_gather, fr_dl1]
def I_X7_drawLayers (I : tq_I) (x y : Nat) : tq_I := (tq_it (f_dl2 x y) 6 0 (tq_u (tq_it (f_dl1 x y) 4 0 I) 102 3 (nI 0)))
set_option maxRecDepth 20000 in
theorem c_X7_drawLayers (g : tq_G) (rest : List tq_S) (I : tq_I) (J : Int64) (x y : Nat) (hx : x ≤ 9) (hy : y ≤ 9) (hT : ∀ i, i < 4 → 0 ≤ (I 3 ((y + i / 2) * 11 + (x + i % 2))).toInt ∧ (I 3 ((y + i / 2) * 11 + (x + i % 2))).toInt ≤ 5) (h7 : tq_le5 (I 7)) : CT g mX7_drawLayers 2 0 0 [.ref 102, .ref 1, .int (nI x), .int (nI y)] (tq_SC ++ rest) tq_RR I J (tq_ret (tq_SC ++ rest) tq_RR none (I_X7_drawLayers I x y) J) := by
  refine CT.ret kX7_drawLayers (Nat.le_of_ble_eq_true rfl) (fun x0 C hR hZ => ?_)
  refine EV_en (lv' := [some (.ref 102), some (.ref 1), some (.int (nI x)), some (.int (nI y)), none, none]) 2 rfl ?_
  refine EV_blk (own := 7) C rfl [(.iconst 0, 0, 0, 0, (nI 0)), (.istore 4, 0, 0, 0, 0)] (pc' := 3) (by decide +kernel) (lv' := [some (.ref 102), some (.ref 1), some (.int (nI x)), some (.int (nI y)), some (.int (nI 0)), none]) (st' := []) (I' := I) (J' := J) rfl ?_
  refine lp_dl1 C hR J x y hx hy 4 0 I (by omega) hT ?_
  refine EV_blk (own := 7) C rfl [(.aload_n 0, 0, 0, 0, 0), (.iconst 0, 0, 0, 0, (nI 0)), (.putfield 32, 7, 3, 255, 0), (.iconst 0, 0, 0, 0, (nI 0)), (.istore 4, 0, 0, 0, 0)] (pc' := 60) (by decide +kernel) (lv' := [some (.ref 102), some (.ref 1), some (.int (nI x)), some (.int (nI y)), some (.int (nI 0)), none]) (st' := []) (I' := (tq_u (tq_it (f_dl1 x y) 4 0 I) 102 3 (nI 0))) (J' := J) rfl ?_
  refine lp_dl2 C hR J x y  6 0 (tq_u (tq_it (f_dl1 x y) 4 0 I) 102 3 (nI 0)) (by omega) ⟨by rw [tq_u_same]; decide, by rw [tq_u_same]; decide, fun k hk => by rw [tq_u_cell (by decide), fr_dl1 _ _ (by decide)]; exact h7 k hk⟩ ?_
  exact EV_vret C hZ rfl (by decide +kernel) (Nat.le_refl _) (Nat.le_refl _) ⟨rfl, rfl, rfl, by simp only [I_X7_drawLayers], rfl⟩
theorem fr_X7_drawLayers (I : tq_I) (x y : Nat) {cz : Nat} (hc : cz ≠ 102 ∧ cz ≠ 103 ∧ cz ≠ 104 ∧ cz ≠ 105) (jz : Nat) : I_X7_drawLayers I x y cz jz = I cz jz := by
  obtain ⟨hc0, hc1, hc2, hc3⟩ := hc
  simp only [I_X7_drawLayers]
  (repeat' split) <;> simp (disch := first | assumption | (simp only [ne_eq] at *; simp [*])) [tq_u, tq_cp, hc0, hc1, hc2, hc3, fr_tb1, fr_tb2, fr_X8_touchBlock, fr_X8_touchAll, fr_X8_changeCorner, fr_X8_changePath, fr_cb1, fr_cb2, fr_X8_changeBlock, fr_wipe1, fr_X1_wipe, fr_sm1, fr_sm2, fr_X8_startMap, fr_X6_place, fr_mt1, fr_mt2, fr_X6_moveTo, fr_ch2, fr_X10_choose, fr_X1_take, fr_fgt1, fr_X5_forget, fr_X5_meet, fr_gat1, fr_X5_gather, fr_dl1, fr_dl2]
theorem tq_itB {α : Type} {f : Nat → α → α} (P : α → Prop) (N : Nat) (h : ∀ i a, i < N → P a → P (f i a)) : ∀ (n i : Nat) (a : α), i + n ≤ N → P a → P (tq_it f n i a)
  | 0, _, _, _, ha => ha
  | n + 1, i, a, hi, ha => tq_itB P N h n (i + 1) (f i a) (by omega) (h i a (by omega) ha)
theorem tq_incr {v : Int32} {m : Nat} (h0 : 0 ≤ v.toInt) (h1 : v.toInt ≤ (m : Int)) (hm : m < 2000000) : (v + nI 1).toInt = v.toInt + 1 ∧ tq_N (v + nI 1) = tq_N v + 1 := by
  have hn := tq_nIN h0
  have hle : tq_N v ≤ m := by unfold tq_N; omega
  have e : (v + nI 1).toInt = v.toInt + 1 := by
    rw [hn, nI_add, nI_toInt (by omega), nI_toInt (by omega)]
    rfl
  refine ⟨e, ?_⟩
  unfold tq_N
  rw [e]
  omega
/-- the layers found so far are sound -/
def tq_dlP (a : tq_I) : Prop := 0 ≤ (a 102 3).toInt ∧ (a 102 3).toInt ≤ 4 ∧ tq_le5 (a 7) ∧ ∀ k, k < tq_N (a 102 3) → (0 ≤ (a 104 k).toInt ∧ (a 104 k).toInt ≤ 5) ∧ 0 ≤ (a 105 k).toInt ∧ (a 105 k).toInt ≤ 15
theorem tq_dlP_step {x y i : Nat} {a : tq_I} (hi : i < 6) (h : tq_dlP a) : tq_dlP (f_dl2 x y i a) := by
  unfold f_dl2
  split
  · exact h
  · split
    · exact h
    · rename_i h4
      obtain ⟨h1, h2, h3, h5⟩ := h
      have hlt : (a 102 3).toInt < 4 := by simp (disch := omega) only [Int32.le_iff_toInt_le, nI_toInt] at h4; omega
      obtain ⟨e1, e2⟩ := tq_incr (m := 4) h1 (by omega) (by decide)
      generalize hm : r_X7_maskFrom _ i = mk
      have hmk : 0 ≤ mk.toInt ∧ mk.toInt ≤ 15 := by rw [← hm]; exact tq_mask15 _ _
      refine ⟨?_, ?_, fun k hk => ?_, fun k hk => ?_⟩
      · rw [tq_u_same, tq_u_cell (by decide), tq_u_cell (by decide), e1]; omega
      · rw [tq_u_same, tq_u_cell (by decide), tq_u_cell (by decide), e1]; omega
      · rw [tq_u_cell (by decide), tq_u_cell (by decide), tq_u_cell (by decide)]; exact h3 k hk
      · rw [tq_u_same, tq_u_cell (by decide), tq_u_cell (by decide), e2] at hk
        generalize hq : tq_N (a 102 3) = q at hk h5 ⊢
        have e104 : ∀ v, tq_u (tq_u (tq_u a 104 q (a 7 i)) 105 q mk) 102 3 v 104 k = if k = q then a 7 i else a 104 k := fun v => by simp [tq_u]
        have e105 : ∀ v, tq_u (tq_u (tq_u a 104 q (a 7 i)) 105 q mk) 102 3 v 105 k = if k = q then mk else a 105 k := fun v => by simp [tq_u]
        rw [e104, e105]
        by_cases hkk : k = q
        · rw [if_pos hkk, if_pos hkk]
          exact ⟨h3 i hi, hmk⟩
        · rw [if_neg hkk, if_neg hkk]
          exact h5 k (by omega)
theorem tq_dlP_draw {x y : Nat} {I : tq_I} (h7 : tq_le5 (I 7)) : tq_dlP (I_X7_drawLayers I x y) := by
  refine tq_itB tq_dlP 6 (fun i a hi ha => tq_dlP_step hi ha) 6 0 _ (by omega) ?_
  refine ⟨by rw [tq_u_same]; decide, by rw [tq_u_same]; decide, fun k hk => by rw [tq_u_cell (by decide), fr_dl1 _ _ (by decide)]; exact h7 k hk, fun k hk => ?_⟩
  rw [tq_u_same, tq_N_nI (by decide)] at hk
  exact absurd hk (Nat.not_lt_zero k)
theorem tq_pc_ok {a b : tq_I} (hI : 0 ≤ (a 102 5).toInt ∧ (a 102 5).toInt ≤ 7) (h : ¬ (nI 7) ≤ a 102 5) (hb : b 102 5 = a 102 5 + nI 1) : 0 ≤ (b 102 5).toInt ∧ (b 102 5).toInt ≤ 7 := by
  simp (disch := omega) only [Int32.le_iff_toInt_le, nI_toInt] at h
  rw [hb, (tq_incr (m := 7) hI.1 (by omega) (by decide)).1]
  omega
def f_dp1 (x y t m : Nat) (ps : Int32) (i : Nat) (a : tq_I) : tq_I := (if (tq_b (((ps >>> ((nI (1 + i)) &&& 31)) &&& (nI 1)) = (nI 1))) = 0 then a else (if (nI 7) ≤ (a 102 5) then a else (if (r_X10_flip (nI (1 + i)) (r_X10_wayOf a t (1 + i))) = (nI 15) then (tq_u (tq_u a 106 (tq_N (a 102 5)) (r_X11_codeOfPiece (nI t) (r_X10_flip (nI (1 + i)) (r_X10_wayOf a t (1 + i))) (r_X10_wayOf a t (1 + i)) (r_X6_variantOf a t x y))) 102 5 (((tq_u a 106 (tq_N (a 102 5)) (r_X11_codeOfPiece (nI t) (r_X10_flip (nI (1 + i)) (r_X10_wayOf a t (1 + i))) (r_X10_wayOf a t (1 + i)) (r_X6_variantOf a t x y))) 102 5) + (nI 1))) else (tq_u (tq_u a 106 (tq_N (a 102 5)) (r_X11_codeOfPiece (nI t) (r_X10_flip (nI (1 + i)) (r_X10_wayOf a t (1 + i))) (r_X10_wayOf a t (1 + i)) (nI 0))) 102 5 (((tq_u a 106 (tq_N (a 102 5)) (r_X11_codeOfPiece (nI t) (r_X10_flip (nI (1 + i)) (r_X10_wayOf a t (1 + i))) (r_X10_wayOf a t (1 + i)) (nI 0))) 102 5) + (nI 1))))))
set_option maxRecDepth 20000 in
theorem lp_dp1 {g : tq_G} {rest : List tq_S} {x0 : tq_X} (C : tq_C g mX7_drawPieces x0) (hR : tq_ht x0 2 0 0) (J : Int64) (x y t m : Nat) (ps : Int32) (ht : t ≤ 5) : ∀ (n i : Nat) (a : tq_I), i + n = 15 → (0 ≤ (a 102 5).toInt ∧ (a 102 5).toInt ≤ 7) → EV g mX7_drawPieces x0 0 0 121 [some (.ref 102), some (.ref 5), some (.int (nI x)), some (.int (nI y)), some (.int (nI t)), some (.int (nI m)), some (.int ps), some (.int (nI (1 + (i + n)))), none, none, none] [] (tq_SC ++ rest) tq_RR (tq_it (f_dp1 x y t m ps) n i a) J → EV g mX7_drawPieces x0 0 0 16 [some (.ref 102), some (.ref 5), some (.int (nI x)), some (.int (nI y)), some (.int (nI t)), some (.int (nI m)), some (.int ps), some (.int (nI (1 + i))), none, none, none] [] (tq_SC ++ rest) tq_RR a J := by
  intro n
  induction n with
  | zero =>
    intro i a hi hI kk
    rw [Nat.add_zero] at kk
    refine EV_blk (own := 7) C rfl [(.iload 7, 0, 0, 0, 0), (.bipush 15, 0, 0, 0, (nI 15))] (pc' := 20) (by decide +kernel) (lv' := [some (.ref 102), some (.ref 5), some (.int (nI x)), some (.int (nI y)), some (.int (nI t)), some (.int (nI m)), some (.int ps), some (.int (nI (1 + i))), none, none, none]) (st' := [.int (nI 15), .int (nI (1 + i))]) (I' := a) (J' := J) rfl ?_
    refine EV_icmp_gt (off := 101) (tgt := 121) C (by decide +kernel) (by decide) (fun h1 => ?_) (fun h1 => ?_)
    · skip
      exact kk
    · skip
      exact absurd h1 (by simp (disch := omega) only [Int32.lt_iff_toInt_lt, Int32.le_iff_toInt_le, Int32.toInt_zero, nI_toInt, tq_m1]; omega)
  | succ n ih =>
    intro i a hi hI kk
    rw [show i + (n + 1) = (i + 1) + n by omega] at kk
    refine EV_blk (own := 7) C rfl [(.iload 7, 0, 0, 0, 0), (.bipush 15, 0, 0, 0, (nI 15))] (pc' := 20) (by decide +kernel) (lv' := [some (.ref 102), some (.ref 5), some (.int (nI x)), some (.int (nI y)), some (.int (nI t)), some (.int (nI m)), some (.int ps), some (.int (nI (1 + i))), none, none, none]) (st' := [.int (nI 15), .int (nI (1 + i))]) (I' := a) (J' := J) rfl ?_
    refine EV_icmp_gt (off := 101) (tgt := 121) C (by decide +kernel) (by decide) (fun h1 => ?_) (fun h1 => ?_)
    · skip
      exact absurd h1 (by simp (disch := omega) only [Int32.lt_iff_toInt_lt, Int32.le_iff_toInt_le, Int32.toInt_zero, nI_toInt, tq_m1]; omega)
    · skip
      refine EV_blk (own := 7) C rfl [(.iload 6, 0, 0, 0, 0), (.iload 7, 0, 0, 0, 0)] (pc' := 27) (by decide +kernel) (lv' := [some (.ref 102), some (.ref 5), some (.int (nI x)), some (.int (nI y)), some (.int (nI t)), some (.int (nI m)), some (.int ps), some (.int (nI (1 + i))), none, none, none]) (st' := [.int (nI (1 + i)), .int ps]) (I' := a) (J' := J) rfl ?_
      refine EV_cS (own := 7) (idx := 91) (μ' := mX10_has) (av := [.int ps, .int (nI (1 + i))]) (rest := []) C hR rfl (Or.inl ⟨688, by decide⟩) kX10_has sX10_has (c_X10_has g rest a J ps (nI (1 + i)) ) (by decide +kernel) rfl (by decide) (Nat.le_of_ble_eq_true rfl) rfl ⟨Nat.zero_le _, Nat.zero_le _⟩ ?_
      refine EV_if_eq (off := 85) (tgt := 115) C (by decide +kernel) (by decide) (fun h2 => ?_) (fun h2 => ?_)
      · skip
        refine EV_blk (own := 7) C rfl [(.iinc 7 1, 0, 0, 0, (nI 1)), (.goto (-102), 0, 0, 0, 0)] (pc' := 16) (by decide +kernel) (lv' := [some (.ref 102), some (.ref 5), some (.int (nI x)), some (.int (nI y)), some (.int (nI t)), some (.int (nI m)), some (.int ps), some (.int ((nI (1 + i)) + (nI 1))), none, none, none]) (st' := []) (I' := a) (J' := J) rfl ?_
        rw [show ((nI (1 + i)) + (nI 1)) = (nI (1 + (i + 1))) from by simp (disch := omega) only [nI_add, tq_mul] <;> exact congrArg nI (by omega)]
        rw [tq_its, show (f_dp1 x y t m ps) i a = a from by simp only [f_dp1, if_neg h1, if_pos h2]] at kk
        exact ih (i + 1) a (by omega) (by first | exact hI | exact tq_pc_ok hI h3 rfl) kk
      · skip
        refine EV_blk (own := 7) C rfl [(.aload_n 0, 0, 0, 0, 0), (.getfield 28, 7, 5, 260, 0), (.bipush 7, 0, 0, 0, (nI 7))] (pc' := 39) (by decide +kernel) (lv' := [some (.ref 102), some (.ref 5), some (.int (nI x)), some (.int (nI y)), some (.int (nI t)), some (.int (nI m)), some (.int ps), some (.int (nI (1 + i))), none, none, none]) (st' := [.int (nI 7), .int (a 102 5)]) (I' := a) (J' := J) rfl ?_
        refine EV_icmp_ge (off := 76) (tgt := 115) C (by decide +kernel) (by decide) (fun h3 => ?_) (fun h3 => ?_)
        · skip
          refine EV_blk (own := 7) C rfl [(.iinc 7 1, 0, 0, 0, (nI 1)), (.goto (-102), 0, 0, 0, 0)] (pc' := 16) (by decide +kernel) (lv' := [some (.ref 102), some (.ref 5), some (.int (nI x)), some (.int (nI y)), some (.int (nI t)), some (.int (nI m)), some (.int ps), some (.int ((nI (1 + i)) + (nI 1))), none, none, none]) (st' := []) (I' := a) (J' := J) rfl ?_
          rw [show ((nI (1 + i)) + (nI 1)) = (nI (1 + (i + 1))) from by simp (disch := omega) only [nI_add, tq_mul] <;> exact congrArg nI (by omega)]
          rw [tq_its, show (f_dp1 x y t m ps) i a = a from by simp only [f_dp1, if_neg h1, if_neg h2, if_pos h3]] at kk
          exact ih (i + 1) a (by omega) (by first | exact hI | exact tq_pc_ok hI h3 rfl) kk
        · skip
          refine EV_blk (own := 7) C rfl [(.aload_n 1, 0, 0, 0, 0), (.getfield 82, 6, 3, 147, 0), (.iload 4, 0, 0, 0, 0), (.iload 7, 0, 0, 0, 0)] (pc' := 50) (by decide +kernel) (lv' := [some (.ref 102), some (.ref 5), some (.int (nI x)), some (.int (nI y)), some (.int (nI t)), some (.int (nI m)), some (.int ps), some (.int (nI (1 + i))), none, none, none]) (st' := [.int (nI (1 + i)), .int (nI t), .ref 9]) (I' := a) (J' := J) rfl ?_
          refine EV_cV (own := 7) (idx := 95) (μ' := mX10_wayOf) (b := 9) (cb := 10) (av := [.int (nI t), .int (nI (1 + i))]) (rest := []) C hR rfl (Or.inl ⟨689, by decide⟩) kX10_wayOf sX10_wayOf (c_X10_wayOf g rest a J t (1 + i) (by omega)) rfl rfl (by decide +kernel) rfl (by decide) (Nat.le_of_ble_eq_true rfl) rfl ⟨Nat.zero_le _, Nat.zero_le _⟩ ?_
          refine EV_blk (own := 7) C rfl [(.istore 8, 0, 0, 0, 0), (.iload 7, 0, 0, 0, 0), (.iload 8, 0, 0, 0, 0)] (pc' := 59) (by decide +kernel) (lv' := [some (.ref 102), some (.ref 5), some (.int (nI x)), some (.int (nI y)), some (.int (nI t)), some (.int (nI m)), some (.int ps), some (.int (nI (1 + i))), some (.int (r_X10_wayOf a t (1 + i))), none, none]) (st' := [.int (r_X10_wayOf a t (1 + i)), .int (nI (1 + i))]) (I' := a) (J' := J) rfl ?_
          refine EV_cS (own := 7) (idx := 98) (μ' := mX10_flip) (av := [.int (nI (1 + i)), .int (r_X10_wayOf a t (1 + i))]) (rest := []) C hR rfl (Or.inl ⟨690, by decide⟩) kX10_flip sX10_flip (c_X10_flip g rest a J (nI (1 + i)) (r_X10_wayOf a t (1 + i)) ) (by decide +kernel) rfl (by decide) (Nat.le_of_ble_eq_true rfl) rfl ⟨Nat.zero_le _, Nat.zero_le _⟩ ?_
          refine EV_blk (own := 7) C rfl [(.istore 9, 0, 0, 0, 0), (.iload 9, 0, 0, 0, 0), (.bipush 15, 0, 0, 0, (nI 15))] (pc' := 68) (by decide +kernel) (lv' := [some (.ref 102), some (.ref 5), some (.int (nI x)), some (.int (nI y)), some (.int (nI t)), some (.int (nI m)), some (.int ps), some (.int (nI (1 + i))), some (.int (r_X10_wayOf a t (1 + i))), some (.int (r_X10_flip (nI (1 + i)) (r_X10_wayOf a t (1 + i)))), none]) (st' := [.int (nI 15), .int (r_X10_flip (nI (1 + i)) (r_X10_wayOf a t (1 + i)))]) (I' := a) (J' := J) rfl ?_
          refine EV_icmp_ne (off := 14) (tgt := 82) C (by decide +kernel) (by decide) (fun h4 => ?_) (fun h4 => ?_)
          · skip
            refine EV_blk (own := 7) C rfl [(.iconst 0, 0, 0, 0, (nI 0)), (.istore 10, 0, 0, 0, 0), (.aload_n 0, 0, 0, 0, 0), (.getfield 21, 7, 4, 257, 0), (.aload_n 0, 0, 0, 0, 0), (.getfield 28, 7, 5, 260, 0), (.iload 4, 0, 0, 0, 0), (.iload 9, 0, 0, 0, 0), (.iload 8, 0, 0, 0, 0), (.iload 10, 0, 0, 0, 0)] (pc' := 101) (by decide +kernel) (lv' := [some (.ref 102), some (.ref 5), some (.int (nI x)), some (.int (nI y)), some (.int (nI t)), some (.int (nI m)), some (.int ps), some (.int (nI (1 + i))), some (.int (r_X10_wayOf a t (1 + i))), some (.int (r_X10_flip (nI (1 + i)) (r_X10_wayOf a t (1 + i)))), some (.int (nI 0))]) (st' := [.int (nI 0), .int (r_X10_wayOf a t (1 + i)), .int (r_X10_flip (nI (1 + i)) (r_X10_wayOf a t (1 + i))), .int (nI t), .int (a 102 5), .ref 106]) (I' := a) (J' := J) rfl ?_
            refine EV_cS (own := 7) (idx := 105) (μ' := mX11_codeOfPiece) (av := [.int (nI t), .int (r_X10_flip (nI (1 + i)) (r_X10_wayOf a t (1 + i))), .int (r_X10_wayOf a t (1 + i)), .int (nI 0)]) (rest := [.int (a 102 5), .ref 106]) C hR rfl (Or.inr ⟨696, by decide⟩) kX11_codeOfPiece sX11_codeOfPiece (c_X11_codeOfPiece g rest a J (nI t) (r_X10_flip (nI (1 + i)) (r_X10_wayOf a t (1 + i))) (r_X10_wayOf a t (1 + i)) (nI 0) ) (by decide +kernel) rfl (by decide) (Nat.le_of_ble_eq_true rfl) rfl ⟨Nat.zero_le _, Nat.zero_le _⟩ ?_
            have h7 : ¬ (nI 7) ≤ a 102 5 := h3
            simp (disch := omega) only [Int32.le_iff_toInt_le, nI_toInt] at h7
            refine EV_iast (j := (tq_N (a 102 5))) C (by decide +kernel) rfl (show (a 102 5).toInt = _ by unfold tq_N; omega) (by unfold tq_N; omega) ?_
            refine EV_blk (own := 7) C rfl [(.aload_n 0, 0, 0, 0, 0), (.dup, 0, 0, 0, 0), (.getfield 28, 7, 5, 260, 0), (.iconst 1, 0, 0, 0, (nI 1)), (.iadd, 0, 0, 0, 0), (.putfield 28, 7, 5, 260, 0), (.iinc 7 1, 0, 0, 0, (nI 1)), (.goto (-102), 0, 0, 0, 0)] (pc' := 16) (by decide +kernel) (lv' := [some (.ref 102), some (.ref 5), some (.int (nI x)), some (.int (nI y)), some (.int (nI t)), some (.int (nI m)), some (.int ps), some (.int ((nI (1 + i)) + (nI 1))), some (.int (r_X10_wayOf a t (1 + i))), some (.int (r_X10_flip (nI (1 + i)) (r_X10_wayOf a t (1 + i)))), some (.int (nI 0))]) (st' := []) (I' := (tq_u (tq_u a 106 (tq_N (a 102 5)) (r_X11_codeOfPiece (nI t) (r_X10_flip (nI (1 + i)) (r_X10_wayOf a t (1 + i))) (r_X10_wayOf a t (1 + i)) (nI 0))) 102 5 (((tq_u a 106 (tq_N (a 102 5)) (r_X11_codeOfPiece (nI t) (r_X10_flip (nI (1 + i)) (r_X10_wayOf a t (1 + i))) (r_X10_wayOf a t (1 + i)) (nI 0))) 102 5) + (nI 1)))) (J' := J) rfl ?_
            refine EV_fg (lv' := [some (.ref 102), some (.ref 5), some (.int (nI x)), some (.int (nI y)), some (.int (nI t)), some (.int (nI m)), some (.int ps), some (.int ((nI (1 + i)) + (nI 1))), none, none, none]) ⟨rfl, rfl, rfl, rfl, rfl, rfl, rfl, rfl, trivial⟩ ?_
            rw [show ((nI (1 + i)) + (nI 1)) = (nI (1 + (i + 1))) from by simp (disch := omega) only [nI_add, tq_mul] <;> exact congrArg nI (by omega)]
            rw [tq_its, show (f_dp1 x y t m ps) i a = (tq_u (tq_u a 106 (tq_N (a 102 5)) (r_X11_codeOfPiece (nI t) (r_X10_flip (nI (1 + i)) (r_X10_wayOf a t (1 + i))) (r_X10_wayOf a t (1 + i)) (nI 0))) 102 5 (((tq_u a 106 (tq_N (a 102 5)) (r_X11_codeOfPiece (nI t) (r_X10_flip (nI (1 + i)) (r_X10_wayOf a t (1 + i))) (r_X10_wayOf a t (1 + i)) (nI 0))) 102 5) + (nI 1))) from by simp only [f_dp1, if_neg h1, if_neg h2, if_neg h3, if_neg h4]] at kk
            exact ih (i + 1) (tq_u (tq_u a 106 (tq_N (a 102 5)) (r_X11_codeOfPiece (nI t) (r_X10_flip (nI (1 + i)) (r_X10_wayOf a t (1 + i))) (r_X10_wayOf a t (1 + i)) (nI 0))) 102 5 (((tq_u a 106 (tq_N (a 102 5)) (r_X11_codeOfPiece (nI t) (r_X10_flip (nI (1 + i)) (r_X10_wayOf a t (1 + i))) (r_X10_wayOf a t (1 + i)) (nI 0))) 102 5) + (nI 1))) (by omega) (by first | exact hI | exact tq_pc_ok hI h3 rfl) kk
          · skip
            refine EV_blk (own := 7) C rfl [(.aload_n 1, 0, 0, 0, 0), (.iload 4, 0, 0, 0, 0), (.iload_n 2, 0, 0, 0, 0), (.iload_n 3, 0, 0, 0, 0)] (pc' := 76) (by decide +kernel) (lv' := [some (.ref 102), some (.ref 5), some (.int (nI x)), some (.int (nI y)), some (.int (nI t)), some (.int (nI m)), some (.int ps), some (.int (nI (1 + i))), some (.int (r_X10_wayOf a t (1 + i))), some (.int (r_X10_flip (nI (1 + i)) (r_X10_wayOf a t (1 + i)))), none]) (st' := [.int (nI y), .int (nI x), .int (nI t), .ref 5]) (I' := a) (J' := J) rfl ?_
            refine EV_cV (own := 7) (idx := 101) (μ' := mX6_variantOf) (b := 5) (cb := 6) (av := [.int (nI t), .int (nI x), .int (nI y)]) (rest := []) C hR rfl (Or.inl ⟨691, by decide⟩) kX6_variantOf sX6_variantOf (c_X6_variantOf g rest a J t x y (by omega)) rfl rfl (by decide +kernel) rfl (by decide) (Nat.le_of_ble_eq_true rfl) rfl ⟨Nat.zero_le _, Nat.zero_le _⟩ ?_
            refine EV_blk (own := 7) C rfl [(.goto 4, 0, 0, 0, 0), (.istore 10, 0, 0, 0, 0), (.aload_n 0, 0, 0, 0, 0), (.getfield 21, 7, 4, 257, 0), (.aload_n 0, 0, 0, 0, 0), (.getfield 28, 7, 5, 260, 0), (.iload 4, 0, 0, 0, 0), (.iload 9, 0, 0, 0, 0), (.iload 8, 0, 0, 0, 0), (.iload 10, 0, 0, 0, 0)] (pc' := 101) (by decide +kernel) (lv' := [some (.ref 102), some (.ref 5), some (.int (nI x)), some (.int (nI y)), some (.int (nI t)), some (.int (nI m)), some (.int ps), some (.int (nI (1 + i))), some (.int (r_X10_wayOf a t (1 + i))), some (.int (r_X10_flip (nI (1 + i)) (r_X10_wayOf a t (1 + i)))), some (.int (r_X6_variantOf a t x y))]) (st' := [.int (r_X6_variantOf a t x y), .int (r_X10_wayOf a t (1 + i)), .int (r_X10_flip (nI (1 + i)) (r_X10_wayOf a t (1 + i))), .int (nI t), .int (a 102 5), .ref 106]) (I' := a) (J' := J) rfl ?_
            refine EV_cS (own := 7) (idx := 105) (μ' := mX11_codeOfPiece) (av := [.int (nI t), .int (r_X10_flip (nI (1 + i)) (r_X10_wayOf a t (1 + i))), .int (r_X10_wayOf a t (1 + i)), .int (r_X6_variantOf a t x y)]) (rest := [.int (a 102 5), .ref 106]) C hR rfl (Or.inr ⟨696, by decide⟩) kX11_codeOfPiece sX11_codeOfPiece (c_X11_codeOfPiece g rest a J (nI t) (r_X10_flip (nI (1 + i)) (r_X10_wayOf a t (1 + i))) (r_X10_wayOf a t (1 + i)) (r_X6_variantOf a t x y) ) (by decide +kernel) rfl (by decide) (Nat.le_of_ble_eq_true rfl) rfl ⟨Nat.zero_le _, Nat.zero_le _⟩ ?_
            have h7 : ¬ (nI 7) ≤ a 102 5 := h3
            simp (disch := omega) only [Int32.le_iff_toInt_le, nI_toInt] at h7
            refine EV_iast (j := (tq_N (a 102 5))) C (by decide +kernel) rfl (show (a 102 5).toInt = _ by unfold tq_N; omega) (by unfold tq_N; omega) ?_
            refine EV_blk (own := 7) C rfl [(.aload_n 0, 0, 0, 0, 0), (.dup, 0, 0, 0, 0), (.getfield 28, 7, 5, 260, 0), (.iconst 1, 0, 0, 0, (nI 1)), (.iadd, 0, 0, 0, 0), (.putfield 28, 7, 5, 260, 0), (.iinc 7 1, 0, 0, 0, (nI 1)), (.goto (-102), 0, 0, 0, 0)] (pc' := 16) (by decide +kernel) (lv' := [some (.ref 102), some (.ref 5), some (.int (nI x)), some (.int (nI y)), some (.int (nI t)), some (.int (nI m)), some (.int ps), some (.int ((nI (1 + i)) + (nI 1))), some (.int (r_X10_wayOf a t (1 + i))), some (.int (r_X10_flip (nI (1 + i)) (r_X10_wayOf a t (1 + i)))), some (.int (r_X6_variantOf a t x y))]) (st' := []) (I' := (tq_u (tq_u a 106 (tq_N (a 102 5)) (r_X11_codeOfPiece (nI t) (r_X10_flip (nI (1 + i)) (r_X10_wayOf a t (1 + i))) (r_X10_wayOf a t (1 + i)) (r_X6_variantOf a t x y))) 102 5 (((tq_u a 106 (tq_N (a 102 5)) (r_X11_codeOfPiece (nI t) (r_X10_flip (nI (1 + i)) (r_X10_wayOf a t (1 + i))) (r_X10_wayOf a t (1 + i)) (r_X6_variantOf a t x y))) 102 5) + (nI 1)))) (J' := J) rfl ?_
            refine EV_fg (lv' := [some (.ref 102), some (.ref 5), some (.int (nI x)), some (.int (nI y)), some (.int (nI t)), some (.int (nI m)), some (.int ps), some (.int ((nI (1 + i)) + (nI 1))), none, none, none]) ⟨rfl, rfl, rfl, rfl, rfl, rfl, rfl, rfl, trivial⟩ ?_
            rw [show ((nI (1 + i)) + (nI 1)) = (nI (1 + (i + 1))) from by simp (disch := omega) only [nI_add, tq_mul] <;> exact congrArg nI (by omega)]
            rw [tq_its, show (f_dp1 x y t m ps) i a = (tq_u (tq_u a 106 (tq_N (a 102 5)) (r_X11_codeOfPiece (nI t) (r_X10_flip (nI (1 + i)) (r_X10_wayOf a t (1 + i))) (r_X10_wayOf a t (1 + i)) (r_X6_variantOf a t x y))) 102 5 (((tq_u a 106 (tq_N (a 102 5)) (r_X11_codeOfPiece (nI t) (r_X10_flip (nI (1 + i)) (r_X10_wayOf a t (1 + i))) (r_X10_wayOf a t (1 + i)) (r_X6_variantOf a t x y))) 102 5) + (nI 1))) from by simp only [f_dp1, if_neg h1, if_neg h2, if_neg h3, if_pos h4]] at kk
            exact ih (i + 1) (tq_u (tq_u a 106 (tq_N (a 102 5)) (r_X11_codeOfPiece (nI t) (r_X10_flip (nI (1 + i)) (r_X10_wayOf a t (1 + i))) (r_X10_wayOf a t (1 + i)) (r_X6_variantOf a t x y))) 102 5 (((tq_u a 106 (tq_N (a 102 5)) (r_X11_codeOfPiece (nI t) (r_X10_flip (nI (1 + i)) (r_X10_wayOf a t (1 + i))) (r_X10_wayOf a t (1 + i)) (r_X6_variantOf a t x y))) 102 5) + (nI 1))) (by omega) (by first | exact hI | exact tq_pc_ok hI h3 rfl) kk
theorem fr_dp1 (x y t m : Nat) (ps : Int32) {cz : Nat} (hc : cz ≠ 102 ∧ cz ≠ 106) (n i : Nat) (a : tq_I) (jz : Nat) : (tq_it (f_dp1 x y t m ps) n i a) cz jz = a cz jz := by
  obtain ⟨hc0, hc1⟩ := hc
  refine tq_itF (fun i a j => ?_) n i a jz
  simp only [f_dp1]
  (repeat' split) <;> simp (disch := first | assumption | (simp only [ne_eq] at *; simp [*])) [tq_u, tq_cp, hc0, hc1, fr_tb1, fr_tb2, fr_X8_touchBlock, fr_X8_touchAll, fr_X8_changeCorner, fr_X8_changePath, fr_cb1, fr_cb2, fr_X8_changeBlock, fr_wipe1, fr_X1_wipe, fr_sm1, fr_sm2, fr_X8_startMap, fr_X6_place, fr_mt1, fr_mt2, fr_X6_moveTo, fr_ch2, fr_X10_choose, fr_X1_take, fr_fgt1, fr_X5_forget, fr_X5_meet, fr_gat1, fr_X5_gather, fr_dl1, fr_dl2, fr_X7_drawLayers]
def I_X7_drawPieces (I : tq_I) (x y t m : Nat) : tq_I := (tq_it (f_dp1 x y t m (I 11 (t * 16 + m))) 15 0 I)
set_option maxRecDepth 20000 in
theorem c_X7_drawPieces (g : tq_G) (rest : List tq_S) (I : tq_I) (J : Int64) (x y t m : Nat) (ht : t ≤ 5) (hm : m ≤ 15) (hI : 0 ≤ (I 102 5).toInt ∧ (I 102 5).toInt ≤ 7) : CT g mX7_drawPieces 2 0 0 [.ref 102, .ref 5, .int (nI x), .int (nI y), .int (nI t), .int (nI m)] (tq_SC ++ rest) tq_RR I J (tq_ret (tq_SC ++ rest) tq_RR none (I_X7_drawPieces I x y t m) J) := by
  refine CT.ret kX7_drawPieces (Nat.le_of_ble_eq_true rfl) (fun x0 C hR hZ => ?_)
  refine EV_en (lv' := [some (.ref 102), some (.ref 5), some (.int (nI x)), some (.int (nI y)), some (.int (nI t)), some (.int (nI m)), none, none, none, none, none]) 5 rfl ?_
  refine EV_blk (own := 7) C rfl [(.aload_n 1, 0, 0, 0, 0), (.getfield 82, 6, 3, 147, 0), (.iload 4, 0, 0, 0, 0), (.iload 5, 0, 0, 0, 0)] (pc' := 8) (by decide +kernel) (lv' := [some (.ref 102), some (.ref 5), some (.int (nI x)), some (.int (nI y)), some (.int (nI t)), some (.int (nI m)), none, none, none, none, none]) (st' := [.int (nI m), .int (nI t), .ref 9]) (I' := I) (J' := J) rfl ?_
  refine EV_cV (own := 7) (idx := 86) (μ' := mX10_partsOf) (b := 9) (cb := 10) (av := [.int (nI t), .int (nI m)]) (rest := []) C hR rfl (Or.inl ⟨687, by decide⟩) kX10_partsOf sX10_partsOf (c_X10_partsOf g rest I J t m (by omega) (by omega)) rfl rfl (by decide +kernel) rfl (by decide) (Nat.le_of_ble_eq_true rfl) rfl ⟨Nat.zero_le _, Nat.zero_le _⟩ ?_
  refine EV_blk (own := 7) C rfl [(.istore 6, 0, 0, 0, 0), (.iconst 1, 0, 0, 0, (nI 1)), (.istore 7, 0, 0, 0, 0)] (pc' := 16) (by decide +kernel) (lv' := [some (.ref 102), some (.ref 5), some (.int (nI x)), some (.int (nI y)), some (.int (nI t)), some (.int (nI m)), some (.int (I 11 (t * 16 + m))), some (.int (nI 1)), none, none, none]) (st' := []) (I' := I) (J' := J) rfl ?_
  refine lp_dp1 C hR J x y t m (I 11 (t * 16 + m)) ht 15 0 I (by omega) hI ?_
  exact EV_vret C hZ rfl (by decide +kernel) (Nat.le_refl _) (Nat.le_refl _) ⟨rfl, rfl, rfl, by simp only [I_X7_drawPieces], rfl⟩
theorem fr_X7_drawPieces (I : tq_I) (x y t m : Nat) {cz : Nat} (hc : cz ≠ 102 ∧ cz ≠ 106) (jz : Nat) : I_X7_drawPieces I x y t m cz jz = I cz jz := by
  obtain ⟨hc0, hc1⟩ := hc
  simp only [I_X7_drawPieces]
  (repeat' split) <;> simp (disch := first | assumption | (simp only [ne_eq] at *; simp [*])) [tq_u, tq_cp, hc0, hc1, fr_tb1, fr_tb2, fr_X8_touchBlock, fr_X8_touchAll, fr_X8_changeCorner, fr_X8_changePath, fr_cb1, fr_cb2, fr_X8_changeBlock, fr_wipe1, fr_X1_wipe, fr_sm1, fr_sm2, fr_X8_startMap, fr_X6_place, fr_mt1, fr_mt2, fr_X6_moveTo, fr_ch2, fr_X10_choose, fr_X1_take, fr_fgt1, fr_X5_forget, fr_X5_meet, fr_gat1, fr_X5_gather, fr_dl1, fr_dl2, fr_X7_drawLayers, fr_dp1]
/-- drawing pieces leaves the sketch's other fields -/
theorem tq_dp_step {x y t m i : Nat} {ps : Int32} {a : tq_I} (h : 0 ≤ (a 102 5).toInt ∧ (a 102 5).toInt ≤ 7) : (0 ≤ (f_dp1 x y t m ps i a 102 5).toInt ∧ (f_dp1 x y t m ps i a 102 5).toInt ≤ 7) ∧ ∀ j, j ≠ 5 → f_dp1 x y t m ps i a 102 j = a 102 j := by
  unfold f_dp1
  split
  · exact ⟨h, fun _ _ => rfl⟩
  · split
    · exact ⟨h, fun _ _ => rfl⟩
    · rename_i h7
      split
      · exact ⟨tq_pc_ok h h7 rfl, fun j hj => by rw [tq_u_slot hj, tq_u_cell (by decide)]⟩
      · exact ⟨tq_pc_ok h h7 rfl, fun j hj => by rw [tq_u_slot hj, tq_u_cell (by decide)]⟩
theorem tq_dp_inv {x y t m : Nat} {ps : Int32} : ∀ (n i : Nat) (a : tq_I), (0 ≤ (a 102 5).toInt ∧ (a 102 5).toInt ≤ 7) → (0 ≤ (tq_it (f_dp1 x y t m ps) n i a 102 5).toInt ∧ (tq_it (f_dp1 x y t m ps) n i a 102 5).toInt ≤ 7) ∧ ∀ j, j ≠ 5 → tq_it (f_dp1 x y t m ps) n i a 102 j = a 102 j
  | 0, _, _, h => ⟨h, fun _ _ => rfl⟩
  | n + 1, i, a, h => by
    have h1 := tq_dp_step (x := x) (y := y) (t := t) (m := m) (i := i) (ps := ps) h
    have h2 := tq_dp_inv (x := x) (y := y) (t := t) (m := m) (ps := ps) n (i + 1) _ h1.1
    exact ⟨h2.1, fun j hj => (h2.2 j hj).trans (h1.2 j hj)⟩
theorem tq_dpI {x y t m : Nat} {I : tq_I} (h : 0 ≤ (I 102 5).toInt ∧ (I 102 5).toInt ≤ 7) : (0 ≤ (I_X7_drawPieces I x y t m 102 5).toInt ∧ (I_X7_drawPieces I x y t m 102 5).toInt ≤ 7) ∧ ∀ j, j ≠ 5 → I_X7_drawPieces I x y t m 102 j = I 102 j := tq_dp_inv _ _ _ h
def tq_drP (c : Nat) (a : tq_I) : Prop := a 102 3 = nI c ∧ (0 ≤ (a 102 5).toInt ∧ (a 102 5).toInt ≤ 7) ∧ ∀ k, k < c → (0 ≤ (a 104 k).toInt ∧ (a 104 k).toInt ≤ 5) ∧ 0 ≤ (a 105 k).toInt ∧ (a 105 k).toInt ≤ 15
theorem tq_drP_step {c x y t m : Nat} {a : tq_I} (h : tq_drP c a) : tq_drP c (I_X7_drawPieces a x y t m) := by
  obtain ⟨h1, h2, h3⟩ := h
  have h4 := tq_dpI (x := x) (y := y) (t := t) (m := m) h2
  refine ⟨by rw [h4.2 3 (by decide)]; exact h1, h4.1, fun k hk => ?_⟩
  rw [fr_X7_drawPieces _ _ _ _ _ (by decide), fr_X7_drawPieces _ _ _ _ _ (by decide)]
  exact h3 k hk
theorem tq_N5 {v : Int32} (h : 0 ≤ v.toInt ∧ v.toInt ≤ 5) : tq_N v ≤ 5 := by unfold tq_N; omega
theorem tq_N15 {v : Int32} (h : 0 ≤ v.toInt ∧ v.toInt ≤ 15) : tq_N v ≤ 15 := by unfold tq_N; omega
def f_dr1 (x y c : Nat) (i : Nat) (a : tq_I) : tq_I := (I_X7_drawPieces a x y (tq_N (a 104 i)) (tq_N (a 105 i)))
set_option maxRecDepth 20000 in
theorem lp_dr1 {g : tq_G} {rest : List tq_S} {x0 : tq_X} (C : tq_C g mX7_draw x0) (hR : tq_ht x0 5 0 0) (J : Int64) (x y c : Nat) (hc : c ≤ 4) : ∀ (n i : Nat) (a : tq_I), i + n = c → tq_drP c a → EV g mX7_draw x0 0 0 54 [some (.ref 102), some (.ref 1), some (.int (nI x)), some (.int (nI y)), some (.int (nI (i + n)))] [] (tq_SC ++ rest) tq_RR (tq_it (f_dr1 x y c) n i a) J → EV g mX7_draw x0 0 0 15 [some (.ref 102), some (.ref 1), some (.int (nI x)), some (.int (nI y)), some (.int (nI i))] [] (tq_SC ++ rest) tq_RR a J := by
  intro n
  induction n with
  | zero =>
    intro i a hi hI kk
    rw [Nat.add_zero] at kk
    refine EV_blk (own := 7) C rfl [(.iload 4, 0, 0, 0, 0), (.aload_n 0, 0, 0, 0, 0), (.getfield 32, 7, 3, 255, 0)] (pc' := 21) (by decide +kernel) (lv' := [some (.ref 102), some (.ref 1), some (.int (nI x)), some (.int (nI y)), some (.int (nI i))]) (st' := [.int (a 102 3), .int (nI i)]) (I' := a) (J' := J) rfl ?_
    refine EV_icmp_ge (off := 33) (tgt := 54) C (by decide +kernel) (by decide) (fun h1 => ?_) (fun h1 => ?_)
    · skip
      exact kk
    · skip
      exact absurd h1 (by simp (disch := omega) only [Int32.lt_iff_toInt_lt, Int32.le_iff_toInt_le, Int32.toInt_zero, nI_toInt, tq_m1, hI.1]; omega)
  | succ n ih =>
    intro i a hi hI kk
    rw [show i + (n + 1) = (i + 1) + n by omega] at kk
    refine EV_blk (own := 7) C rfl [(.iload 4, 0, 0, 0, 0), (.aload_n 0, 0, 0, 0, 0), (.getfield 32, 7, 3, 255, 0)] (pc' := 21) (by decide +kernel) (lv' := [some (.ref 102), some (.ref 1), some (.int (nI x)), some (.int (nI y)), some (.int (nI i))]) (st' := [.int (a 102 3), .int (nI i)]) (I' := a) (J' := J) rfl ?_
    refine EV_icmp_ge (off := 33) (tgt := 54) C (by decide +kernel) (by decide) (fun h1 => ?_) (fun h1 => ?_)
    · skip
      exact absurd h1 (by simp (disch := omega) only [Int32.lt_iff_toInt_lt, Int32.le_iff_toInt_le, Int32.toInt_zero, nI_toInt, tq_m1, hI.1]; omega)
    · skip
      refine EV_blk (own := 7) C rfl [(.aload_n 0, 0, 0, 0, 0), (.aload_n 1, 0, 0, 0, 0), (.getfield 35, 8, 1, 195, 0), (.iload_n 2, 0, 0, 0, 0), (.iload_n 3, 0, 0, 0, 0), (.aload_n 0, 0, 0, 0, 0), (.getfield 15, 7, 1, 251, 0), (.iload 4, 0, 0, 0, 0)] (pc' := 37) (by decide +kernel) (lv' := [some (.ref 102), some (.ref 1), some (.int (nI x)), some (.int (nI y)), some (.int (nI i))]) (st' := [.int (nI i), .ref 104, .int (nI y), .int (nI x), .ref 5, .ref 102]) (I' := a) (J' := J) rfl ?_
      refine EV_iald (j := i) C (by decide +kernel) rfl (nI_toInt (by omega)) (by omega) ?_
      refine EV_blk (own := 7) C rfl [(.aload_n 0, 0, 0, 0, 0), (.getfield 18, 7, 2, 253, 0), (.iload 4, 0, 0, 0, 0)] (pc' := 44) (by decide +kernel) (lv' := [some (.ref 102), some (.ref 1), some (.int (nI x)), some (.int (nI y)), some (.int (nI i))]) (st' := [.int (nI i), .ref 105, .int (a 104 i), .int (nI y), .int (nI x), .ref 5, .ref 102]) (I' := a) (J' := J) rfl ?_
      refine EV_iald (j := i) C (by decide +kernel) rfl (nI_toInt (by omega)) (by omega) ?_
      have hq := hI.2.2 i (by omega)
      refine EV_ste (st' := [.int (nI (tq_N (a 105 i))), .int (nI (tq_N (a 104 i))), .int (nI y), .int (nI x), .ref 5, .ref 102]) (by rw [← tq_nIN hq.1.1, ← tq_nIN hq.2.1]) ?_
      refine EV_cV (own := 7) (idx := 41) (μ' := mX7_drawPieces) (b := 102) (cb := 7) (av := [.ref 5, .int (nI x), .int (nI y), .int (nI (tq_N (a 104 i))), .int (nI (tq_N (a 105 i)))]) (rest := []) C hR rfl (Or.inl ⟨683, by decide⟩) kX7_drawPieces sX7_drawPieces (c_X7_drawPieces g rest a J x y (tq_N (a 104 i)) (tq_N (a 105 i)) (tq_N5 hq.1) (tq_N15 hq.2) hI.2.1) rfl rfl (by decide +kernel) rfl (by decide) (Nat.le_of_ble_eq_true rfl) rfl ⟨Nat.zero_le _, Nat.zero_le _⟩ ?_
      refine EV_blk (own := 7) C rfl [(.iinc 4 1, 0, 0, 0, (nI 1)), (.goto (-36), 0, 0, 0, 0)] (pc' := 15) (by decide +kernel) (lv' := [some (.ref 102), some (.ref 1), some (.int (nI x)), some (.int (nI y)), some (.int ((nI i) + (nI 1)))]) (st' := []) (I' := (I_X7_drawPieces a x y (tq_N (a 104 i)) (tq_N (a 105 i)))) (J' := J) rfl ?_
      rw [show ((nI i) + (nI 1)) = (nI (i + 1)) from by simp (disch := omega) only [nI_add, tq_mul] <;> exact congrArg nI (by omega)]
      rw [tq_its, show (f_dr1 x y c) i a = (I_X7_drawPieces a x y (tq_N (a 104 i)) (tq_N (a 105 i))) from by simp only [f_dr1, if_neg h1]] at kk
      exact ih (i + 1) (I_X7_drawPieces a x y (tq_N (a 104 i)) (tq_N (a 105 i))) (by omega) (tq_drP_step hI) kk
theorem fr_dr1 (x y c : Nat) {cz : Nat} (hc : cz ≠ 102 ∧ cz ≠ 106) (n i : Nat) (a : tq_I) (jz : Nat) : (tq_it (f_dr1 x y c) n i a) cz jz = a cz jz := by
  obtain ⟨hc0, hc1⟩ := hc
  refine tq_itF (fun i a j => ?_) n i a jz
  simp only [f_dr1]
  (repeat' split) <;> simp (disch := first | assumption | (simp only [ne_eq] at *; simp [*])) [tq_u, tq_cp, hc0, hc1, fr_tb1, fr_tb2, fr_X8_touchBlock, fr_X8_touchAll, fr_X8_changeCorner, fr_X8_changePath, fr_cb1, fr_cb2, fr_X8_changeBlock, fr_wipe1, fr_X1_wipe, fr_sm1, fr_sm2, fr_X8_startMap, fr_X6_place, fr_mt1, fr_mt2, fr_X6_moveTo, fr_ch2, fr_X10_choose, fr_X1_take, fr_fgt1, fr_X5_forget, fr_X5_meet, fr_gat1, fr_X5_gather, fr_dl1, fr_dl2, fr_X7_drawLayers, fr_dp1, fr_X7_drawPieces]
theorem tq_drP_it {x y c : Nat} (n i : Nat) (a : tq_I) (h : tq_drP c a) : tq_drP c (tq_it (f_dr1 x y c) n i a) := tq_itP (tq_drP c) (fun _ _ hb => tq_drP_step hb) n i a h
theorem tq_drP_0 {x y : Nat} {I : tq_I} (h7 : tq_le5 (I 7)) : tq_drP (tq_N (I_X7_drawLayers I x y 102 3)) (tq_u (I_X7_drawLayers I x y) 102 5 (nI 0)) := by
  obtain ⟨h1, h2, h3, h4⟩ := tq_dlP_draw (x := x) (y := y) h7
  refine ⟨by rw [tq_u_slot (by decide)]; exact tq_nIN h1, by rw [tq_u_same]; decide, fun k hk => ?_⟩
  rw [tq_u_cell (by decide), tq_u_cell (by decide)]
  exact h4 k hk
theorem tq_dl4 {x y : Nat} {I : tq_I} (h7 : tq_le5 (I 7)) : tq_N (I_X7_drawLayers I x y 102 3) ≤ 4 := by
  obtain ⟨h1, h2, h3, h4⟩ := tq_dlP_draw (x := x) (y := y) h7
  unfold tq_N
  omega
def I_X7_draw (I : tq_I) (x y : Nat) : tq_I := (tq_u (tq_it (f_dr1 x y (tq_N (I_X7_drawLayers I x y 102 3))) (tq_N (I_X7_drawLayers I x y 102 3)) 0 (tq_u (I_X7_drawLayers I x y) 102 5 (nI 0))) 102 6 (r_X3_pathTileAt (tq_it (f_dr1 x y (tq_N (I_X7_drawLayers I x y 102 3))) (tq_N (I_X7_drawLayers I x y 102 3)) 0 (tq_u (I_X7_drawLayers I x y) 102 5 (nI 0))) x y ((tq_it (f_dr1 x y (tq_N (I_X7_drawLayers I x y 102 3))) (tq_N (I_X7_drawLayers I x y 102 3)) 0 (tq_u (I_X7_drawLayers I x y) 102 5 (nI 0))) 5 5)))
set_option maxRecDepth 20000 in
theorem c_X7_draw (g : tq_G) (rest : List tq_S) (I : tq_I) (J : Int64) (x y : Nat) (hx : x ≤ 9) (hy : y ≤ 9) (hT : ∀ i, i < 4 → 0 ≤ (I 3 ((y + i / 2) * 11 + (x + i % 2))).toInt ∧ (I 3 ((y + i / 2) * 11 + (x + i % 2))).toInt ≤ 5) (h7 : tq_le5 (I 7)) (hw10 : (I 2 0).toInt ≤ 10) (hh10 : (I 2 1).toInt ≤ 10) (hbd : I 5 5 = 0 ∨ I 5 5 = 1) : CT g mX7_draw 5 0 0 [.ref 102, .ref 1, .int (nI x), .int (nI y)] (tq_SC ++ rest) tq_RR I J (tq_ret (tq_SC ++ rest) tq_RR none (I_X7_draw I x y) J) := by
  refine CT.ret kX7_draw (Nat.le_of_ble_eq_true rfl) (fun x0 C hR hZ => ?_)
  refine EV_en (lv' := [some (.ref 102), some (.ref 1), some (.int (nI x)), some (.int (nI y)), none]) 1 rfl ?_
  refine EV_blk (own := 7) C rfl [(.aload_n 0, 0, 0, 0, 0), (.aload_n 1, 0, 0, 0, 0), (.iload_n 2, 0, 0, 0, 0), (.iload_n 3, 0, 0, 0, 0)] (pc' := 4) (by decide +kernel) (lv' := [some (.ref 102), some (.ref 1), some (.int (nI x)), some (.int (nI y)), none]) (st' := [.int (nI y), .int (nI x), .ref 1, .ref 102]) (I' := I) (J' := J) rfl ?_
  refine EV_cV (own := 7) (idx := 24) (μ' := mX7_drawLayers) (b := 102) (cb := 7) (av := [.ref 1, .int (nI x), .int (nI y)]) (rest := []) C hR rfl (Or.inl ⟨668, by decide⟩) kX7_drawLayers sX7_drawLayers (c_X7_drawLayers g rest I J x y (by omega) (by omega) hT h7) rfl rfl (by decide +kernel) rfl (by decide) (Nat.le_of_ble_eq_true rfl) rfl ⟨Nat.zero_le _, Nat.zero_le _⟩ ?_
  refine EV_blk (own := 7) C rfl [(.aload_n 0, 0, 0, 0, 0), (.iconst 0, 0, 0, 0, (nI 0)), (.putfield 28, 7, 5, 260, 0), (.iconst 0, 0, 0, 0, (nI 0)), (.istore 4, 0, 0, 0, 0)] (pc' := 15) (by decide +kernel) (lv' := [some (.ref 102), some (.ref 1), some (.int (nI x)), some (.int (nI y)), some (.int (nI 0))]) (st' := []) (I' := (tq_u (I_X7_drawLayers I x y) 102 5 (nI 0))) (J' := J) rfl ?_
  refine lp_dr1 C hR J x y (tq_N (I_X7_drawLayers I x y 102 3)) (tq_dl4 h7) (tq_N (I_X7_drawLayers I x y 102 3)) 0 (tq_u (I_X7_drawLayers I x y) 102 5 (nI 0)) (by omega) (tq_drP_0 h7) ?_
  refine EV_blk (own := 7) C rfl [(.aload_n 0, 0, 0, 0, 0), (.aload_n 1, 0, 0, 0, 0), (.getfield 45, 8, 0, 192, 0), (.iload_n 2, 0, 0, 0, 0), (.iload_n 3, 0, 0, 0, 0), (.aload_n 1, 0, 0, 0, 0), (.getfield 35, 8, 1, 195, 0), (.getfield 49, 6, 5, 151, 0)] (pc' := 68) (by decide +kernel) (lv' := [some (.ref 102), some (.ref 1), some (.int (nI x)), some (.int (nI y)), some (.int (nI ((0 + (tq_N (I_X7_drawLayers I x y 102 3))))))]) (st' := [.int ((tq_it (f_dr1 x y (tq_N (I_X7_drawLayers I x y 102 3))) (tq_N (I_X7_drawLayers I x y 102 3)) 0 (tq_u (I_X7_drawLayers I x y) 102 5 (nI 0))) 5 5), .int (nI y), .int (nI x), .ref 2, .ref 102]) (I' := (tq_it (f_dr1 x y (tq_N (I_X7_drawLayers I x y 102 3))) (tq_N (I_X7_drawLayers I x y 102 3)) 0 (tq_u (I_X7_drawLayers I x y) 102 5 (nI 0)))) (J' := J) rfl ?_
  refine EV_cV (own := 7) (idx := 55) (μ' := mX3_pathTileAt) (b := 2) (cb := 3) (av := [.int (nI x), .int (nI y), .int ((tq_it (f_dr1 x y (tq_N (I_X7_drawLayers I x y 102 3))) (tq_N (I_X7_drawLayers I x y 102 3)) 0 (tq_u (I_X7_drawLayers I x y) 102 5 (nI 0))) 5 5)]) (rest := [.ref 102]) C hR rfl (Or.inl ⟨699, by decide⟩) kX3_pathTileAt sX3_pathTileAt (c_X3_pathTileAt g rest (tq_it (f_dr1 x y (tq_N (I_X7_drawLayers I x y 102 3))) (tq_N (I_X7_drawLayers I x y 102 3)) 0 (tq_u (I_X7_drawLayers I x y) 102 5 (nI 0))) J x y ((tq_it (f_dr1 x y (tq_N (I_X7_drawLayers I x y 102 3))) (tq_N (I_X7_drawLayers I x y 102 3)) 0 (tq_u (I_X7_drawLayers I x y) 102 5 (nI 0))) 5 5) (by omega) (by omega) (by rw [fr_dr1 _ _ _ (by decide), tq_u_cell (by decide), fr_X7_drawLayers _ _ _ (by decide)]; exact hw10) (by rw [fr_dr1 _ _ _ (by decide), tq_u_cell (by decide), fr_X7_drawLayers _ _ _ (by decide)]; exact hh10) (by rw [fr_dr1 _ _ _ (by decide), tq_u_cell (by decide), fr_X7_drawLayers _ _ _ (by decide)]; exact hbd)) rfl rfl (by decide +kernel) rfl (by decide) (Nat.le_of_ble_eq_true rfl) rfl ⟨Nat.zero_le _, Nat.zero_le _⟩ ?_
  refine EV_blk (own := 7) C rfl [(.putfield 61, 7, 6, 263, 0)] (pc' := 74) (by decide +kernel) (lv' := [some (.ref 102), some (.ref 1), some (.int (nI x)), some (.int (nI y)), some (.int (nI ((0 + (tq_N (I_X7_drawLayers I x y 102 3))))))]) (st' := []) (I' := (tq_u (tq_it (f_dr1 x y (tq_N (I_X7_drawLayers I x y 102 3))) (tq_N (I_X7_drawLayers I x y 102 3)) 0 (tq_u (I_X7_drawLayers I x y) 102 5 (nI 0))) 102 6 (r_X3_pathTileAt (tq_it (f_dr1 x y (tq_N (I_X7_drawLayers I x y 102 3))) (tq_N (I_X7_drawLayers I x y 102 3)) 0 (tq_u (I_X7_drawLayers I x y) 102 5 (nI 0))) x y ((tq_it (f_dr1 x y (tq_N (I_X7_drawLayers I x y 102 3))) (tq_N (I_X7_drawLayers I x y 102 3)) 0 (tq_u (I_X7_drawLayers I x y) 102 5 (nI 0))) 5 5)))) (J' := J) rfl ?_
  exact EV_vret C hZ rfl (by decide +kernel) (Nat.le_refl _) (Nat.le_refl _) ⟨rfl, rfl, rfl, by simp only [I_X7_draw], rfl⟩
theorem fr_X7_draw (I : tq_I) (x y : Nat) {cz : Nat} (hc : cz ≠ 102 ∧ cz ≠ 103 ∧ cz ≠ 104 ∧ cz ≠ 105 ∧ cz ≠ 106) (jz : Nat) : I_X7_draw I x y cz jz = I cz jz := by
  obtain ⟨hc0, hc1, hc2, hc3, hc4⟩ := hc
  simp only [I_X7_draw]
  (repeat' split) <;> simp (disch := first | assumption | (simp only [ne_eq] at *; simp [*])) [tq_u, tq_cp, hc0, hc1, hc2, hc3, hc4, fr_tb1, fr_tb2, fr_X8_touchBlock, fr_X8_touchAll, fr_X8_changeCorner, fr_X8_changePath, fr_cb1, fr_cb2, fr_X8_changeBlock, fr_wipe1, fr_X1_wipe, fr_sm1, fr_sm2, fr_X8_startMap, fr_X6_place, fr_mt1, fr_mt2, fr_X6_moveTo, fr_ch2, fr_X10_choose, fr_X1_take, fr_fgt1, fr_X5_forget, fr_X5_meet, fr_gat1, fr_X5_gather, fr_dl1, fr_dl2, fr_X7_drawLayers, fr_dp1, fr_X7_drawPieces, fr_dr1]
end
section
/-! Tally: 107 (count 3), codes 108, sums 109, places 110 -/
theorem tq_pig : ∀ (m n : Nat) (f : Nat → Nat), (∀ i, i < n → f i < m) → (∀ i j, i < n → j < n → f i = f j → i = j) → n ≤ m
  | 0, n, f, h, _ => by
    cases n with
    | zero => exact Nat.le_refl 0
    | succ n => exact absurd (h 0 (Nat.succ_pos n)) (Nat.not_lt_zero _)
  | m + 1, n, f, h, inj => by
    cases n with
    | zero => exact Nat.zero_le _
    | succ n =>
      have key := tq_pig m n (fun i => if f i = m then f n else f i) (fun i hi => by
        by_cases hm : f i = m
        · rw [if_pos hm]
          have h1 : f n ≠ m := fun e => by
            have := inj i n (by omega) (by omega) (hm.trans e.symm)
            omega
          have h2 := h n (by omega)
          omega
        · rw [if_neg hm]
          have := h i (by omega)
          omega) (fun i j hi hj e => by
        by_cases h1 : f i = m <;> by_cases h2 : f j = m
        · exact inj i j (by omega) (by omega) (h1.trans h2.symm)
        · rw [if_pos h1, if_neg h2] at e
          have := inj n j (by omega) (by omega) e
          omega
        · rw [if_neg h1, if_pos h2] at e
          have := inj i n (by omega) (by omega) e
          omega
        · rw [if_neg h1, if_neg h2] at e
          exact inj i j (by omega) (by omega) e)
      omega
theorem tq_NI {v : Int32} (h : 0 ≤ v.toInt) : v.toInt = (tq_N v : Int) := by unfold tq_N; omega
theorem tq_Nlt {v : Int32} {m : Nat} (h : 0 ≤ v.toInt) (h2 : v.toInt < (m : Int)) : tq_N v < m := by unfold tq_N; omega
/-- the tally so far: the codes are met once each, places says where -/
def tq_tl (I : tq_I) : Prop := 0 ≤ (I 107 3).toInt ∧ (I 107 3).toInt ≤ 384 ∧ (∀ k, k < tq_N (I 107 3) → (0 ≤ (I 108 k).toInt ∧ (I 108 k).toInt ≤ 383) ∧ I 110 (tq_N (I 108 k)) = nI k) ∧ ∀ c, c < 384 → I 110 c = -1 ∨ ∃ k, k < tq_N (I 107 3) ∧ I 110 c = nI k ∧ tq_N (I 108 k) = c
theorem tq_tl_lt {I : tq_I} (h : tq_tl I) {c : Nat} (hc : c < 384) (hp : I 110 c = -1) : (I 107 3).toInt < 384 := by
  obtain ⟨h1, h2, h3, h4⟩ := h
  have hn : tq_N (I 107 3) ≤ 383 := by
    have key := tq_pig 384 (tq_N (I 107 3) + 1) (fun k => if k = tq_N (I 107 3) then c else tq_N (I 108 k)) (fun k hk => by
      by_cases e : k = tq_N (I 107 3)
      · rw [if_pos e]; exact hc
      · rw [if_neg e]
        have := (h3 k (by omega)).1
        unfold tq_N
        omega) (fun i j hi hj e => by
      have neg : ∀ k, k < tq_N (I 107 3) → tq_N (I 108 k) ≠ c := fun k hk e => by
        have h5 := (h3 k hk).2
        rw [e, hp] at h5
        have h6 := congrArg Int32.toInt h5
        have h7 : tq_N (I 107 3) ≤ 384 := by unfold tq_N; omega
        rw [nI_toInt (by omega)] at h6
        have h8 : (-1 : Int32).toInt = -1 := by decide
        omega
      by_cases e1 : i = tq_N (I 107 3) <;> by_cases e2 : j = tq_N (I 107 3)
      · omega
      · rw [if_pos e1, if_neg e2] at e
        exact absurd e.symm (neg j (by omega))
      · rw [if_neg e1, if_pos e2] at e
        exact absurd e (neg i (by omega))
      · rw [if_neg e1, if_neg e2] at e
        have h5 := (h3 i (by omega)).2
        have h6 := (h3 j (by omega)).2
        rw [e, h6] at h5
        have h7 : tq_N (I 107 3) ≤ 384 := by unfold tq_N; omega
        exact ((nI_eq (by omega) (by omega)).mp h5).symm)
    omega
  unfold tq_N at hn
  omega
theorem tq_tl_in {I : tq_I} (h : tq_tl I) {c : Nat} (hc : c < 384) (hp : ¬ I 110 c = -1) : 0 ≤ (I 110 c).toInt ∧ (I 110 c).toInt < 384 := by
  obtain ⟨h1, h2, h3, h4⟩ := h
  rcases h4 c hc with e | ⟨k, hk, e, -⟩
  · exact absurd e hp
  · have h7 : tq_N (I 107 3) ≤ 384 := by unfold tq_N; omega
    rw [e, nI_toInt (by omega)]
    omega
def I_X9_add (I : tq_I) (c : Int32) : tq_I := (if (I 110 (tq_N c)) = (-1) then (tq_u (tq_u (tq_u (tq_u (tq_u I 110 (tq_N c) (I 107 3)) 108 (tq_N (I 107 3)) c) 109 (tq_N (I 107 3)) (nI 0)) 107 3 (((tq_u (tq_u (tq_u I 110 (tq_N c) (I 107 3)) 108 (tq_N (I 107 3)) c) 109 (tq_N (I 107 3)) (nI 0)) 107 3) + (nI 1))) 109 (tq_N (I 107 3)) (((tq_u (tq_u (tq_u (tq_u I 110 (tq_N c) (I 107 3)) 108 (tq_N (I 107 3)) c) 109 (tq_N (I 107 3)) (nI 0)) 107 3 (((tq_u (tq_u (tq_u I 110 (tq_N c) (I 107 3)) 108 (tq_N (I 107 3)) c) 109 (tq_N (I 107 3)) (nI 0)) 107 3) + (nI 1))) 109 (tq_N (I 107 3))) + (nI 1))) else (tq_u I 109 (tq_N (I 110 (tq_N c))) ((I 109 (tq_N (I 110 (tq_N c)))) + (nI 1))))
set_option maxRecDepth 20000 in
theorem c_X9_add (g : tq_G) (rest : List tq_S) (I : tq_I) (J : Int64) (c : Int32) (hc0 : 0 ≤ c.toInt) (hc1 : c.toInt ≤ 383) (hI : tq_tl I) : CT g mX9_add 0 0 0 [.ref 107, .int c] (tq_SC ++ rest) tq_RR I J (tq_ret (tq_SC ++ rest) tq_RR none (I_X9_add I c) J) := by
  refine CT.ret kX9_add (Nat.le_of_ble_eq_true rfl) (fun x0 C hR hZ => ?_)
  refine EV_en (lv' := [some (.ref 107), some (.int c)]) 0 rfl ?_
  refine EV_blk (own := 9) C rfl [(.aload_n 0, 0, 0, 0, 0), (.getfield 18, 9, 2, 291, 0), (.iload_n 1, 0, 0, 0, 0)] (pc' := 5) (by decide +kernel) (lv' := [some (.ref 107), some (.int c)]) (st' := [.int c, .ref 110]) (I' := I) (J' := J) rfl ?_
  refine EV_iald (j := (tq_N c)) C (by decide +kernel) rfl (by unfold tq_N; omega) (by unfold tq_N; omega) ?_
  refine EV_blk (own := 9) C rfl [(.iconst (-1), 0, 0, 0, (-1))] (pc' := 7) (by decide +kernel) (lv' := [some (.ref 107), some (.int c)]) (st' := [.int (-1), .int (I 110 (tq_N c))]) (I' := I) (J' := J) rfl ?_
  refine EV_icmp_ne (off := 43) (tgt := 50) C (by decide +kernel) (by decide) (fun h1 => ?_) (fun h1 => ?_)
  · skip
    refine EV_blk (own := 9) C rfl [(.aload_n 0, 0, 0, 0, 0), (.getfield 15, 9, 1, 289, 0), (.aload_n 0, 0, 0, 0, 0), (.getfield 18, 9, 2, 291, 0), (.iload_n 1, 0, 0, 0, 0)] (pc' := 59) (by decide +kernel) (lv' := [some (.ref 107), some (.int c)]) (st' := [.int c, .ref 110, .ref 109]) (I' := I) (J' := J) rfl ?_
    refine EV_iald (j := (tq_N c)) C (by decide +kernel) rfl (by unfold tq_N; omega) (by unfold tq_N; omega) ?_
    have hl := tq_tl_in hI (by unfold tq_N; omega) h1
    refine EV_blk (own := 9) C rfl [(.dup2, 0, 0, 0, 0)] (pc' := 61) (by decide +kernel) (lv' := [some (.ref 107), some (.int c)]) (st' := [.int (I 110 (tq_N c)), .ref 109, .int (I 110 (tq_N c)), .ref 109]) (I' := I) (J' := J) rfl ?_
    refine EV_iald (j := (tq_N (I 110 (tq_N c)))) C (by decide +kernel) rfl (tq_NI hl.1) (tq_Nlt hl.1 hl.2) ?_
    refine EV_blk (own := 9) C rfl [(.iconst 1, 0, 0, 0, (nI 1)), (.iadd, 0, 0, 0, 0)] (pc' := 64) (by decide +kernel) (lv' := [some (.ref 107), some (.int c)]) (st' := [.int ((I 109 (tq_N (I 110 (tq_N c)))) + (nI 1)), .int (I 110 (tq_N c)), .ref 109]) (I' := I) (J' := J) rfl ?_
    refine EV_iast (j := (tq_N (I 110 (tq_N c)))) C (by decide +kernel) rfl (tq_NI hl.1) (tq_Nlt hl.1 hl.2) ?_
    exact EV_vret C hZ rfl (by decide +kernel) (Nat.le_refl _) (Nat.le_refl _) ⟨rfl, rfl, rfl, by simp only [I_X9_add, if_neg h1], rfl⟩
  · skip
    refine EV_blk (own := 9) C rfl [(.aload_n 0, 0, 0, 0, 0), (.getfield 18, 9, 2, 291, 0), (.iload_n 1, 0, 0, 0, 0), (.aload_n 0, 0, 0, 0, 0), (.getfield 21, 9, 3, 292, 0)] (pc' := 19) (by decide +kernel) (lv' := [some (.ref 107), some (.int c)]) (st' := [.int (I 107 3), .int c, .ref 110]) (I' := I) (J' := J) rfl ?_
    have hl := tq_tl_lt hI (by unfold tq_N; omega) h1
    refine EV_iast (j := (tq_N c)) C (by decide +kernel) rfl (by unfold tq_N; omega) (by unfold tq_N; omega) ?_
    refine EV_blk (own := 9) C rfl [(.aload_n 0, 0, 0, 0, 0), (.getfield 9, 9, 0, 287, 0), (.aload_n 0, 0, 0, 0, 0), (.getfield 21, 9, 3, 292, 0), (.iload_n 1, 0, 0, 0, 0)] (pc' := 29) (by decide +kernel) (lv' := [some (.ref 107), some (.int c)]) (st' := [.int c, .int ((tq_u I 110 (tq_N c) (I 107 3)) 107 3), .ref 108]) (I' := (tq_u I 110 (tq_N c) (I 107 3))) (J' := J) rfl ?_
    refine EV_iast (j := (tq_N (I 107 3))) C (by decide +kernel) rfl (show (I 107 3).toInt = _ by unfold tq_N; have := hI.1; omega) (by unfold tq_N; omega) ?_
    refine EV_blk (own := 9) C rfl [(.aload_n 0, 0, 0, 0, 0), (.getfield 15, 9, 1, 289, 0), (.aload_n 0, 0, 0, 0, 0), (.getfield 21, 9, 3, 292, 0), (.iconst 0, 0, 0, 0, (nI 0))] (pc' := 39) (by decide +kernel) (lv' := [some (.ref 107), some (.int c)]) (st' := [.int (nI 0), .int ((tq_u (tq_u I 110 (tq_N c) (I 107 3)) 108 (tq_N (I 107 3)) c) 107 3), .ref 109]) (I' := (tq_u (tq_u I 110 (tq_N c) (I 107 3)) 108 (tq_N (I 107 3)) c)) (J' := J) rfl ?_
    refine EV_iast (j := (tq_N (I 107 3))) C (by decide +kernel) rfl (show (I 107 3).toInt = _ by unfold tq_N; have := hI.1; omega) (by unfold tq_N; omega) ?_
    refine EV_blk (own := 9) C rfl [(.aload_n 0, 0, 0, 0, 0), (.dup, 0, 0, 0, 0), (.getfield 21, 9, 3, 292, 0), (.iconst 1, 0, 0, 0, (nI 1)), (.iadd, 0, 0, 0, 0), (.putfield 21, 9, 3, 292, 0), (.aload_n 0, 0, 0, 0, 0), (.getfield 15, 9, 1, 289, 0), (.aload_n 0, 0, 0, 0, 0), (.getfield 18, 9, 2, 291, 0), (.iload_n 1, 0, 0, 0, 0)] (pc' := 59) (by decide +kernel) (lv' := [some (.ref 107), some (.int c)]) (st' := [.int c, .ref 110, .ref 109]) (I' := (tq_u (tq_u (tq_u (tq_u I 110 (tq_N c) (I 107 3)) 108 (tq_N (I 107 3)) c) 109 (tq_N (I 107 3)) (nI 0)) 107 3 (((tq_u (tq_u (tq_u I 110 (tq_N c) (I 107 3)) 108 (tq_N (I 107 3)) c) 109 (tq_N (I 107 3)) (nI 0)) 107 3) + (nI 1)))) (J' := J) rfl ?_
    refine EV_iald (j := (tq_N c)) C (by decide +kernel) rfl (by unfold tq_N; omega) (by unfold tq_N; omega) ?_
    refine EV_ste (st' := [.int (I 107 3), .ref 109]) (by simp [tq_u]) ?_
    have hl := tq_tl_lt hI (by unfold tq_N; omega) h1
    refine EV_blk (own := 9) C rfl [(.dup2, 0, 0, 0, 0)] (pc' := 61) (by decide +kernel) (lv' := [some (.ref 107), some (.int c)]) (st' := [.int (I 107 3), .ref 109, .int (I 107 3), .ref 109]) (I' := (tq_u (tq_u (tq_u (tq_u I 110 (tq_N c) (I 107 3)) 108 (tq_N (I 107 3)) c) 109 (tq_N (I 107 3)) (nI 0)) 107 3 (((tq_u (tq_u (tq_u I 110 (tq_N c) (I 107 3)) 108 (tq_N (I 107 3)) c) 109 (tq_N (I 107 3)) (nI 0)) 107 3) + (nI 1)))) (J' := J) rfl ?_
    refine EV_iald (j := (tq_N (I 107 3))) C (by decide +kernel) rfl (by unfold tq_N; have := hI.1; omega) (by unfold tq_N; omega) ?_
    refine EV_blk (own := 9) C rfl [(.iconst 1, 0, 0, 0, (nI 1)), (.iadd, 0, 0, 0, 0)] (pc' := 64) (by decide +kernel) (lv' := [some (.ref 107), some (.int c)]) (st' := [.int (((tq_u (tq_u (tq_u (tq_u I 110 (tq_N c) (I 107 3)) 108 (tq_N (I 107 3)) c) 109 (tq_N (I 107 3)) (nI 0)) 107 3 (((tq_u (tq_u (tq_u I 110 (tq_N c) (I 107 3)) 108 (tq_N (I 107 3)) c) 109 (tq_N (I 107 3)) (nI 0)) 107 3) + (nI 1))) 109 (tq_N (I 107 3))) + (nI 1)), .int (I 107 3), .ref 109]) (I' := (tq_u (tq_u (tq_u (tq_u I 110 (tq_N c) (I 107 3)) 108 (tq_N (I 107 3)) c) 109 (tq_N (I 107 3)) (nI 0)) 107 3 (((tq_u (tq_u (tq_u I 110 (tq_N c) (I 107 3)) 108 (tq_N (I 107 3)) c) 109 (tq_N (I 107 3)) (nI 0)) 107 3) + (nI 1)))) (J' := J) rfl ?_
    refine EV_iast (j := (tq_N (I 107 3))) C (by decide +kernel) rfl (by unfold tq_N; have := hI.1; omega) (by unfold tq_N; omega) ?_
    exact EV_vret C hZ rfl (by decide +kernel) (Nat.le_refl _) (Nat.le_refl _) ⟨rfl, rfl, rfl, by simp only [I_X9_add, if_pos h1], rfl⟩
theorem fr_X9_add (I : tq_I) (c : Int32) {cz : Nat} (hc : cz ≠ 107 ∧ cz ≠ 108 ∧ cz ≠ 109 ∧ cz ≠ 110) (jz : Nat) : I_X9_add I c cz jz = I cz jz := by
  obtain ⟨hc0, hc1, hc2, hc3⟩ := hc
  simp only [I_X9_add]
  (repeat' split) <;> simp (disch := first | assumption | (simp only [ne_eq] at *; simp [*])) [tq_u, tq_cp, hc0, hc1, hc2, hc3, fr_tb1, fr_tb2, fr_X8_touchBlock, fr_X8_touchAll, fr_X8_changeCorner, fr_X8_changePath, fr_cb1, fr_cb2, fr_X8_changeBlock, fr_wipe1, fr_X1_wipe, fr_sm1, fr_sm2, fr_X8_startMap, fr_X6_place, fr_mt1, fr_mt2, fr_X6_moveTo, fr_ch2, fr_X10_choose, fr_X1_take, fr_fgt1, fr_X5_forget, fr_X5_meet, fr_gat1, fr_X5_gather, fr_dl1, fr_dl2, fr_X7_drawLayers, fr_dp1, fr_X7_drawPieces, fr_dr1, fr_X7_draw]
theorem tq_tl_add {I : tq_I} {c : Int32} (h : tq_tl I) (hc0 : 0 ≤ c.toInt) (hc1 : c.toInt ≤ 383) : tq_tl (I_X9_add I c) := by
  have hcN : tq_N c < 384 := tq_Nlt hc0 (by omega)
  unfold I_X9_add
  split
  · rename_i hp
    have hl := tq_tl_lt h hcN hp
    obtain ⟨h1, h2, h3, h4⟩ := h
    obtain ⟨e1, e2⟩ := tq_incr (m := 384) h1 (by omega) (by decide)
    have hn := tq_nIN h1
    have hN : tq_N (I 107 3) < 384 := tq_Nlt h1 (by omega)
    generalize hq : tq_N (I 107 3) = q at hN hn e2 h3 h4 ⊢
    refine ⟨?_, ?_, fun k hk => ?_, fun d hd => ?_⟩
    · have : ∀ K : tq_I, tq_u (tq_u K 107 3 (I 107 3 + nI 1)) 109 q (nI 0 + nI 1) 107 3 = I 107 3 + nI 1 := fun K => by simp [tq_u]
      simp only [tq_u, and_self, if_true, Nat.reduceEqDiff, false_and, if_false] at this ⊢
      omega
    · simp only [tq_u, and_self, if_true, Nat.reduceEqDiff, false_and, if_false]
      omega
    · have hk1 : k < q + 1 := by
        simp only [tq_u, and_self, if_true, Nat.reduceEqDiff, false_and, if_false] at hk
        omega
      by_cases hkk : k = q
      · subst hkk
        simp only [tq_u, and_self, if_true, Nat.reduceEqDiff, false_and, if_false, true_and]
        exact ⟨⟨hc0, hc1⟩, hn⟩
      · have h5 := h3 k (by omega)
        have hne : tq_N (I 108 k) ≠ tq_N c := fun e => by
          have h6 := h5.2
          rw [e, hp] at h6
          have h7 := congrArg Int32.toInt h6
          rw [nI_toInt (by omega)] at h7
          have h8 : (-1 : Int32).toInt = -1 := by decide
          omega
        simp only [tq_u, and_self, if_true, Nat.reduceEqDiff, false_and, if_false, true_and, hkk, hne]
        exact h5
    · by_cases hd1 : d = tq_N c
      · subst hd1
        refine Or.inr ⟨q, ?_, ?_, ?_⟩
        · simp only [tq_u, and_self, if_true, Nat.reduceEqDiff, false_and, if_false]
          omega
        · simp only [tq_u, and_self, if_true, Nat.reduceEqDiff, false_and, if_false, true_and]
          exact hn
        · simp only [tq_u, and_self, if_true, Nat.reduceEqDiff, false_and, if_false, true_and]
      · rcases h4 d hd with e | ⟨k, hk, e3, e4⟩
        · left
          simp only [tq_u, Nat.reduceEqDiff, false_and, if_false, true_and, hd1]
          exact e
        · refine Or.inr ⟨k, ?_, ?_, ?_⟩
          · simp only [tq_u, and_self, if_true, Nat.reduceEqDiff, false_and, if_false]
            omega
          · simp only [tq_u, Nat.reduceEqDiff, false_and, if_false, true_and, hd1]
            exact e3
          · have hkk : ¬ k = q := by omega
            simp only [tq_u, Nat.reduceEqDiff, false_and, if_false, true_and, hkk]
            exact e4
  · obtain ⟨h1, h2, h3, h4⟩ := h
    exact ⟨h1, h2, h3, h4⟩
def tq_acP (cl p : Nat) (a : tq_I) : Prop := tq_tl a ∧ a 13 cl = nI p ∧ ∀ i, i < p → 0 ≤ (a 14 (cl * 7 + i)).toInt ∧ (a 14 (cl * 7 + i)).toInt ≤ 383
theorem tq_acP_add {cl p : Nat} {a : tq_I} {c : Int32} (h : tq_acP cl p a) (hc : 0 ≤ c.toInt ∧ c.toInt ≤ 383) : tq_acP cl p (I_X9_add a c) := by
  refine ⟨tq_tl_add h.1 hc.1 hc.2, by rw [fr_X9_add _ _ (by decide)]; exact h.2.1, fun i hi => ?_⟩
  rw [fr_X9_add _ _ (by decide)]
  exact h.2.2 i hi
def f_ac1 (cl p : Nat) (i : Nat) (a : tq_I) : tq_I := (I_X9_add a (a 14 (cl * 7 + i)))
set_option maxRecDepth 20000 in
theorem lp_ac1 {g : tq_G} {rest : List tq_S} {x0 : tq_X} (C : tq_C g mX9_addCell x0) (hR : tq_ht x0 1 0 0) (J : Int64) (cl p : Nat) (hcl : cl ≤ 99) (hp7 : p ≤ 7) : ∀ (n i : Nat) (a : tq_I), i + n = p → tq_acP cl p a → EV g mX9_addCell x0 0 0 28 [some (.ref 107), some (.ref 12), some (.int (nI cl)), some (.int (nI (i + n)))] [] (tq_SC ++ rest) tq_RR (tq_it (f_ac1 cl p) n i a) J → EV g mX9_addCell x0 0 0 2 [some (.ref 107), some (.ref 12), some (.int (nI cl)), some (.int (nI i))] [] (tq_SC ++ rest) tq_RR a J := by
  intro n
  induction n with
  | zero =>
    intro i a hi hI kk
    rw [Nat.add_zero] at kk
    refine EV_blk (own := 9) C rfl [(.iload_n 3, 0, 0, 0, 0), (.aload_n 1, 0, 0, 0, 0), (.getfield 51, 1, 0, 174, 0), (.iload_n 2, 0, 0, 0, 0)] (pc' := 8) (by decide +kernel) (lv' := [some (.ref 107), some (.ref 12), some (.int (nI cl)), some (.int (nI i))]) (st' := [.int (nI cl), .ref 13, .int (nI i)]) (I' := a) (J' := J) rfl ?_
    refine EV_iald (j := cl) C (by decide +kernel) rfl (nI_toInt (by omega)) (by omega) ?_
    refine EV_icmp_ge (off := 19) (tgt := 28) C (by decide +kernel) (by decide) (fun h1 => ?_) (fun h1 => ?_)
    · skip
      exact kk
    · skip
      exact absurd h1 (by simp (disch := omega) only [Int32.lt_iff_toInt_lt, Int32.le_iff_toInt_le, Int32.toInt_zero, nI_toInt, tq_m1, hI.2.1]; omega)
  | succ n ih =>
    intro i a hi hI kk
    rw [show i + (n + 1) = (i + 1) + n by omega] at kk
    refine EV_blk (own := 9) C rfl [(.iload_n 3, 0, 0, 0, 0), (.aload_n 1, 0, 0, 0, 0), (.getfield 51, 1, 0, 174, 0), (.iload_n 2, 0, 0, 0, 0)] (pc' := 8) (by decide +kernel) (lv' := [some (.ref 107), some (.ref 12), some (.int (nI cl)), some (.int (nI i))]) (st' := [.int (nI cl), .ref 13, .int (nI i)]) (I' := a) (J' := J) rfl ?_
    refine EV_iald (j := cl) C (by decide +kernel) rfl (nI_toInt (by omega)) (by omega) ?_
    refine EV_icmp_ge (off := 19) (tgt := 28) C (by decide +kernel) (by decide) (fun h1 => ?_) (fun h1 => ?_)
    · skip
      exact absurd h1 (by simp (disch := omega) only [Int32.lt_iff_toInt_lt, Int32.le_iff_toInt_le, Int32.toInt_zero, nI_toInt, tq_m1, hI.2.1]; omega)
    · skip
      refine EV_blk (own := 9) C rfl [(.aload_n 0, 0, 0, 0, 0), (.aload_n 1, 0, 0, 0, 0), (.iload_n 2, 0, 0, 0, 0), (.iload_n 3, 0, 0, 0, 0)] (pc' := 16) (by decide +kernel) (lv' := [some (.ref 107), some (.ref 12), some (.int (nI cl)), some (.int (nI i))]) (st' := [.int (nI i), .int (nI cl), .ref 12, .ref 107]) (I' := a) (J' := J) rfl ?_
      refine EV_cV (own := 9) (idx := 56) (μ' := mX1_codeAt) (b := 12) (cb := 1) (av := [.int (nI cl), .int (nI i)]) (rest := [.ref 107]) C hR rfl (Or.inl ⟨773, by decide⟩) kX1_codeAt sX1_codeAt (c_X1_codeAt g rest a J cl i (by omega) (by omega)) rfl rfl (by decide +kernel) rfl (by decide) (Nat.le_of_ble_eq_true rfl) rfl ⟨Nat.zero_le _, Nat.zero_le _⟩ ?_
      refine EV_cV (own := 9) (idx := 59) (μ' := mX9_add) (b := 107) (cb := 9) (av := [.int (a 14 (cl * 7 + i))]) (rest := []) C hR rfl (Or.inl ⟨774, by decide⟩) kX9_add sX9_add (c_X9_add g rest a J (a 14 (cl * 7 + i)) (hI.2.2 i (by omega)).1 (hI.2.2 i (by omega)).2 hI.1) rfl rfl (by decide +kernel) rfl (by decide) (Nat.le_of_ble_eq_true rfl) rfl ⟨Nat.zero_le _, Nat.zero_le _⟩ ?_
      refine EV_blk (own := 9) C rfl [(.iinc 3 1, 0, 0, 0, (nI 1)), (.goto (-23), 0, 0, 0, 0)] (pc' := 2) (by decide +kernel) (lv' := [some (.ref 107), some (.ref 12), some (.int (nI cl)), some (.int ((nI i) + (nI 1)))]) (st' := []) (I' := (I_X9_add a (a 14 (cl * 7 + i)))) (J' := J) rfl ?_
      rw [show ((nI i) + (nI 1)) = (nI (i + 1)) from by simp (disch := omega) only [nI_add, tq_mul] <;> exact congrArg nI (by omega)]
      rw [tq_its, show (f_ac1 cl p) i a = (I_X9_add a (a 14 (cl * 7 + i))) from by simp only [f_ac1, if_neg h1]] at kk
      exact ih (i + 1) (I_X9_add a (a 14 (cl * 7 + i))) (by omega) (tq_acP_add hI (hI.2.2 i (by omega))) kk
theorem fr_ac1 (cl p : Nat) {cz : Nat} (hc : cz ≠ 107 ∧ cz ≠ 108 ∧ cz ≠ 109 ∧ cz ≠ 110) (n i : Nat) (a : tq_I) (jz : Nat) : (tq_it (f_ac1 cl p) n i a) cz jz = a cz jz := by
  obtain ⟨hc0, hc1, hc2, hc3⟩ := hc
  refine tq_itF (fun i a j => ?_) n i a jz
  simp only [f_ac1]
  (repeat' split) <;> simp (disch := first | assumption | (simp only [ne_eq] at *; simp [*])) [tq_u, tq_cp, hc0, hc1, hc2, hc3, fr_tb1, fr_tb2, fr_X8_touchBlock, fr_X8_touchAll, fr_X8_changeCorner, fr_X8_changePath, fr_cb1, fr_cb2, fr_X8_changeBlock, fr_wipe1, fr_X1_wipe, fr_sm1, fr_sm2, fr_X8_startMap, fr_X6_place, fr_mt1, fr_mt2, fr_X6_moveTo, fr_ch2, fr_X10_choose, fr_X1_take, fr_fgt1, fr_X5_forget, fr_X5_meet, fr_gat1, fr_X5_gather, fr_dl1, fr_dl2, fr_X7_drawLayers, fr_dp1, fr_X7_drawPieces, fr_dr1, fr_X7_draw, fr_X9_add]
theorem tq_acP_it {cl p : Nat} : ∀ (n i : Nat) (a : tq_I), i + n ≤ p → tq_acP cl p a → tq_acP cl p (tq_it (f_ac1 cl p) n i a) := fun n i a hi h => tq_itB (tq_acP cl p) p (fun i a hi ha => tq_acP_add ha (ha.2.2 i hi)) n i a hi h
def I_X9_addCell (I : tq_I) (cl p : Nat) : tq_I := (tq_it (f_ac1 cl p) p 0 I)
set_option maxRecDepth 20000 in
theorem c_X9_addCell (g : tq_G) (rest : List tq_S) (I : tq_I) (J : Int64) (cl p : Nat) (hcl : cl ≤ 99) (hp7 : p ≤ 7) (hI : tq_acP cl p I) : CT g mX9_addCell 1 0 0 [.ref 107, .ref 12, .int (nI cl)] (tq_SC ++ rest) tq_RR I J (tq_ret (tq_SC ++ rest) tq_RR none (I_X9_addCell I cl p) J) := by
  refine CT.ret kX9_addCell (Nat.le_of_ble_eq_true rfl) (fun x0 C hR hZ => ?_)
  refine EV_en (lv' := [some (.ref 107), some (.ref 12), some (.int (nI cl)), none]) 1 rfl ?_
  refine EV_blk (own := 9) C rfl [(.iconst 0, 0, 0, 0, (nI 0)), (.istore_n 3, 0, 0, 0, 0)] (pc' := 2) (by decide +kernel) (lv' := [some (.ref 107), some (.ref 12), some (.int (nI cl)), some (.int (nI 0))]) (st' := []) (I' := I) (J' := J) rfl ?_
  refine lp_ac1 C hR J cl p hcl hp7 p 0 I (by omega) hI ?_
  exact EV_vret C hZ rfl (by decide +kernel) (Nat.le_refl _) (Nat.le_refl _) ⟨rfl, rfl, rfl, by simp only [I_X9_addCell], rfl⟩
theorem fr_X9_addCell (I : tq_I) (cl p : Nat) {cz : Nat} (hc : cz ≠ 107 ∧ cz ≠ 108 ∧ cz ≠ 109 ∧ cz ≠ 110) (jz : Nat) : I_X9_addCell I cl p cz jz = I cz jz := by
  obtain ⟨hc0, hc1, hc2, hc3⟩ := hc
  simp only [I_X9_addCell]
  (repeat' split) <;> simp (disch := first | assumption | (simp only [ne_eq] at *; simp [*])) [tq_u, tq_cp, hc0, hc1, hc2, hc3, fr_tb1, fr_tb2, fr_X8_touchBlock, fr_X8_touchAll, fr_X8_changeCorner, fr_X8_changePath, fr_cb1, fr_cb2, fr_X8_changeBlock, fr_wipe1, fr_X1_wipe, fr_sm1, fr_sm2, fr_X8_startMap, fr_X6_place, fr_mt1, fr_mt2, fr_X6_moveTo, fr_ch2, fr_X10_choose, fr_X1_take, fr_fgt1, fr_X5_forget, fr_X5_meet, fr_gat1, fr_X5_gather, fr_dl1, fr_dl2, fr_X7_drawLayers, fr_dp1, fr_X7_drawPieces, fr_dr1, fr_X7_draw, fr_X9_add, fr_ac1]
/-- what is painted is sound: the counts, the codes -/
def tq_cv (I : tq_I) : Prop := ∀ cl, cl < 100 → (0 ≤ (I 13 cl).toInt ∧ (I 13 cl).toInt ≤ 7) ∧ ∀ k, k < tq_N (I 13 cl) → 0 ≤ (I 14 (cl * 7 + k)).toInt ∧ (I 14 (cl * 7 + k)).toInt ≤ 383
def tq_tkP (w h : Nat) (a : tq_I) : Prop := tq_tl a ∧ tq_cv a ∧ a 2 0 = nI w ∧ a 2 1 = nI h
theorem tq_tkP_cell {w h cl : Nat} {a : tq_I} (hcl : cl < 100) (hP : tq_tkP w h a) : tq_N (a 13 cl) ≤ 7 ∧ tq_acP cl (tq_N (a 13 cl)) a := by
  obtain ⟨h1, h2, h3, h4⟩ := hP
  have h5 := h2 cl hcl
  refine ⟨by unfold tq_N; omega, h1, tq_nIN h5.1.1, h5.2⟩
theorem tq_tkP_step {w h cl : Nat} {a : tq_I} (hcl : cl < 100) (hP : tq_tkP w h a) : tq_tkP w h (I_X9_addCell a cl (tq_N (a 13 cl))) := by
  have h6 := (tq_tkP_cell hcl hP).2
  obtain ⟨h1, h2, h3, h4⟩ := hP
  refine ⟨(tq_acP_it _ _ _ (by omega) h6).1, fun d hd => ?_, by rw [fr_X9_addCell _ _ _ (by decide)]; exact h3, by rw [fr_X9_addCell _ _ _ (by decide)]; exact h4⟩
  have h7 := h2 d hd
  rw [fr_X9_addCell _ _ _ (by decide)]
  refine ⟨h7.1, fun k hk => ?_⟩
  rw [fr_X9_addCell _ _ _ (by decide)]
  exact h7.2 k hk
def f_tk0  (i : Nat) (a : tq_I) : tq_I := (tq_u a 110 i (-1))
set_option maxRecDepth 20000 in
theorem lp_tk0 {g : tq_G} {rest : List tq_S} {x0 : tq_X} (C : tq_C g mX9_take x0) (hR : tq_ht x0 2 0 0) (J : Int64)   : ∀ (n i : Nat) (a : tq_I), i + n = 384 → EV g mX9_take x0 0 0 27 [some (.ref 107), some (.ref 1), some (.int (nI (i + n))), none] [] (tq_SC ++ rest) tq_RR (tq_it (f_tk0) n i a) J → EV g mX9_take x0 0 0 7 [some (.ref 107), some (.ref 1), some (.int (nI i)), none] [] (tq_SC ++ rest) tq_RR a J := by
  intro n
  induction n with
  | zero =>
    intro i a hi kk
    rw [Nat.add_zero] at kk
    refine EV_blk (own := 9) C rfl [(.iload_n 2, 0, 0, 0, 0), (.sipush 384, 0, 0, 0, (nI 384))] (pc' := 11) (by decide +kernel) (lv' := [some (.ref 107), some (.ref 1), some (.int (nI i)), none]) (st' := [.int (nI 384), .int (nI i)]) (I' := a) (J' := J) rfl ?_
    refine EV_icmp_ge (off := 16) (tgt := 27) C (by decide +kernel) (by decide) (fun h1 => ?_) (fun h1 => ?_)
    · skip
      exact kk
    · skip
      exact absurd h1 (by simp (disch := omega) only [Int32.lt_iff_toInt_lt, Int32.le_iff_toInt_le, Int32.toInt_zero, nI_toInt, tq_m1]; omega)
  | succ n ih =>
    intro i a hi kk
    rw [show i + (n + 1) = (i + 1) + n by omega] at kk
    refine EV_blk (own := 9) C rfl [(.iload_n 2, 0, 0, 0, 0), (.sipush 384, 0, 0, 0, (nI 384))] (pc' := 11) (by decide +kernel) (lv' := [some (.ref 107), some (.ref 1), some (.int (nI i)), none]) (st' := [.int (nI 384), .int (nI i)]) (I' := a) (J' := J) rfl ?_
    refine EV_icmp_ge (off := 16) (tgt := 27) C (by decide +kernel) (by decide) (fun h1 => ?_) (fun h1 => ?_)
    · skip
      exact absurd h1 (by simp (disch := omega) only [Int32.lt_iff_toInt_lt, Int32.le_iff_toInt_le, Int32.toInt_zero, nI_toInt, tq_m1]; omega)
    · skip
      refine EV_blk (own := 9) C rfl [(.aload_n 0, 0, 0, 0, 0), (.getfield 18, 9, 2, 291, 0), (.iload_n 2, 0, 0, 0, 0), (.iconst (-1), 0, 0, 0, (-1))] (pc' := 20) (by decide +kernel) (lv' := [some (.ref 107), some (.ref 1), some (.int (nI i)), none]) (st' := [.int (-1), .int (nI i), .ref 110]) (I' := a) (J' := J) rfl ?_
      refine EV_iast (j := i) C (by decide +kernel) rfl (nI_toInt (by omega)) (by omega) ?_
      refine EV_blk (own := 9) C rfl [(.iinc 2 1, 0, 0, 0, (nI 1)), (.goto (-17), 0, 0, 0, 0)] (pc' := 7) (by decide +kernel) (lv' := [some (.ref 107), some (.ref 1), some (.int ((nI i) + (nI 1))), none]) (st' := []) (I' := (tq_u a 110 i (-1))) (J' := J) rfl ?_
      rw [show ((nI i) + (nI 1)) = (nI (i + 1)) from by simp (disch := omega) only [nI_add, tq_mul] <;> exact congrArg nI (by omega)]
      rw [tq_its, show (f_tk0) i a = (tq_u a 110 i (-1)) from by simp only [f_tk0, if_neg h1]] at kk
      exact ih (i + 1) (tq_u a 110 i (-1)) (by omega) kk
theorem fr_tk0  {cz : Nat} (hc : cz ≠ 110) (n i : Nat) (a : tq_I) (jz : Nat) : (tq_it (f_tk0) n i a) cz jz = a cz jz := by
  have hc0 := hc
  refine tq_itF (fun i a j => ?_) n i a jz
  simp only [f_tk0]
  (repeat' split) <;> simp (disch := first | assumption | (simp only [ne_eq] at *; simp [*])) [tq_u, tq_cp, hc0, fr_tb1, fr_tb2, fr_X8_touchBlock, fr_X8_touchAll, fr_X8_changeCorner, fr_X8_changePath, fr_cb1, fr_cb2, fr_X8_changeBlock, fr_wipe1, fr_X1_wipe, fr_sm1, fr_sm2, fr_X8_startMap, fr_X6_place, fr_mt1, fr_mt2, fr_X6_moveTo, fr_ch2, fr_X10_choose, fr_X1_take, fr_fgt1, fr_X5_forget, fr_X5_meet, fr_gat1, fr_X5_gather, fr_dl1, fr_dl2, fr_X7_drawLayers, fr_dp1, fr_X7_drawPieces, fr_dr1, fr_X7_draw, fr_X9_add, fr_ac1, fr_X9_addCell]
def f_tk1 (w h y : Nat) (i : Nat) (a : tq_I) : tq_I := (I_X9_addCell a (y * 10 + i) (tq_N (a 13 (y * 10 + i))))
set_option maxRecDepth 20000 in
theorem lp_tk1 {g : tq_G} {rest : List tq_S} {x0 : tq_X} (C : tq_C g mX9_take x0) (hR : tq_ht x0 2 0 0) (J : Int64) (w h y : Nat) (hw10 : w ≤ 10) (hy : y ≤ 9) : ∀ (n i : Nat) (a : tq_I), i + n = w → tq_tkP w h a → EV g mX9_take x0 0 0 72 [some (.ref 107), some (.ref 1), some (.int (nI y)), some (.int (nI (i + n)))] [] (tq_SC ++ rest) tq_RR (tq_it (f_tk1 w h y) n i a) J → EV g mX9_take x0 0 0 42 [some (.ref 107), some (.ref 1), some (.int (nI y)), some (.int (nI i))] [] (tq_SC ++ rest) tq_RR a J := by
  intro n
  induction n with
  | zero =>
    intro i a hi hI kk
    rw [Nat.add_zero] at kk
    refine EV_blk (own := 9) C rfl [(.iload_n 3, 0, 0, 0, 0), (.aload_n 1, 0, 0, 0, 0), (.getfield 25, 8, 0, 191, 0), (.getfield 36, 3, 0, 96, 0)] (pc' := 50) (by decide +kernel) (lv' := [some (.ref 107), some (.ref 1), some (.int (nI y)), some (.int (nI i))]) (st' := [.int (a 2 0), .int (nI i)]) (I' := a) (J' := J) rfl ?_
    refine EV_icmp_ge (off := 22) (tgt := 72) C (by decide +kernel) (by decide) (fun h1 => ?_) (fun h1 => ?_)
    · skip
      exact kk
    · skip
      exact absurd h1 (by simp (disch := omega) only [Int32.lt_iff_toInt_lt, Int32.le_iff_toInt_le, Int32.toInt_zero, nI_toInt, tq_m1, hI.2.2.1]; omega)
  | succ n ih =>
    intro i a hi hI kk
    rw [show i + (n + 1) = (i + 1) + n by omega] at kk
    refine EV_blk (own := 9) C rfl [(.iload_n 3, 0, 0, 0, 0), (.aload_n 1, 0, 0, 0, 0), (.getfield 25, 8, 0, 191, 0), (.getfield 36, 3, 0, 96, 0)] (pc' := 50) (by decide +kernel) (lv' := [some (.ref 107), some (.ref 1), some (.int (nI y)), some (.int (nI i))]) (st' := [.int (a 2 0), .int (nI i)]) (I' := a) (J' := J) rfl ?_
    refine EV_icmp_ge (off := 22) (tgt := 72) C (by decide +kernel) (by decide) (fun h1 => ?_) (fun h1 => ?_)
    · skip
      exact absurd h1 (by simp (disch := omega) only [Int32.lt_iff_toInt_lt, Int32.le_iff_toInt_le, Int32.toInt_zero, nI_toInt, tq_m1, hI.2.2.1]; omega)
    · skip
      refine EV_blk (own := 9) C rfl [(.aload_n 0, 0, 0, 0, 0), (.aload_n 1, 0, 0, 0, 0), (.getfield 39, 8, 2, 198, 0), (.iload_n 3, 0, 0, 0, 0), (.iload_n 2, 0, 0, 0, 0)] (pc' := 60) (by decide +kernel) (lv' := [some (.ref 107), some (.ref 1), some (.int (nI y)), some (.int (nI i))]) (st' := [.int (nI y), .int (nI i), .ref 12, .ref 107]) (I' := a) (J' := J) rfl ?_
      refine EV_cS (own := 9) (idx := 43) (μ' := mX11_cellIndex) (av := [.int (nI i), .int (nI y)]) (rest := [.ref 12, .ref 107]) C hR rfl (Or.inr ⟨768, by decide⟩) kX11_cellIndex sX11_cellIndex (c_X11_cellIndex g rest a J i y ) (by decide +kernel) rfl (by decide) (Nat.le_of_ble_eq_true rfl) rfl ⟨Nat.zero_le _, Nat.zero_le _⟩ ?_
      have hq := tq_tkP_cell (cl := (y * 10 + i)) (by omega) hI
      refine EV_cV (own := 9) (idx := 47) (μ' := mX9_addCell) (b := 107) (cb := 9) (av := [.ref 12, .int (nI (y * 10 + i))]) (rest := []) C hR rfl (Or.inl ⟨769, by decide⟩) kX9_addCell sX9_addCell (c_X9_addCell g rest a J (y * 10 + i) (tq_N (a 13 (y * 10 + i))) (by omega) hq.1 hq.2) rfl rfl (by decide +kernel) rfl (by decide) (Nat.le_of_ble_eq_true rfl) rfl ⟨Nat.zero_le _, Nat.zero_le _⟩ ?_
      refine EV_blk (own := 9) C rfl [(.iinc 3 1, 0, 0, 0, (nI 1)), (.goto (-27), 0, 0, 0, 0)] (pc' := 42) (by decide +kernel) (lv' := [some (.ref 107), some (.ref 1), some (.int (nI y)), some (.int ((nI i) + (nI 1)))]) (st' := []) (I' := (I_X9_addCell a (y * 10 + i) (tq_N (a 13 (y * 10 + i))))) (J' := J) rfl ?_
      rw [show ((nI i) + (nI 1)) = (nI (i + 1)) from by simp (disch := omega) only [nI_add, tq_mul] <;> exact congrArg nI (by omega)]
      rw [tq_its, show (f_tk1 w h y) i a = (I_X9_addCell a (y * 10 + i) (tq_N (a 13 (y * 10 + i)))) from by simp only [f_tk1, if_neg h1]] at kk
      exact ih (i + 1) (I_X9_addCell a (y * 10 + i) (tq_N (a 13 (y * 10 + i)))) (by omega) (tq_tkP_step (by omega) hI) kk
theorem fr_tk1 (w h y : Nat) {cz : Nat} (hc : cz ≠ 107 ∧ cz ≠ 108 ∧ cz ≠ 109 ∧ cz ≠ 110) (n i : Nat) (a : tq_I) (jz : Nat) : (tq_it (f_tk1 w h y) n i a) cz jz = a cz jz := by
  obtain ⟨hc0, hc1, hc2, hc3⟩ := hc
  refine tq_itF (fun i a j => ?_) n i a jz
  simp only [f_tk1]
  (repeat' split) <;> simp (disch := first | assumption | (simp only [ne_eq] at *; simp [*])) [tq_u, tq_cp, hc0, hc1, hc2, hc3, fr_tb1, fr_tb2, fr_X8_touchBlock, fr_X8_touchAll, fr_X8_changeCorner, fr_X8_changePath, fr_cb1, fr_cb2, fr_X8_changeBlock, fr_wipe1, fr_X1_wipe, fr_sm1, fr_sm2, fr_X8_startMap, fr_X6_place, fr_mt1, fr_mt2, fr_X6_moveTo, fr_ch2, fr_X10_choose, fr_X1_take, fr_fgt1, fr_X5_forget, fr_X5_meet, fr_gat1, fr_X5_gather, fr_dl1, fr_dl2, fr_X7_drawLayers, fr_dp1, fr_X7_drawPieces, fr_dr1, fr_X7_draw, fr_X9_add, fr_ac1, fr_X9_addCell, fr_tk0]
theorem tq_tk1P {w h y : Nat} (hw10 : w ≤ 10) (hy : y ≤ 9) (n i : Nat) (a : tq_I) (hi : i + n ≤ w) (h0 : tq_tkP w h a) : tq_tkP w h (tq_it (f_tk1 w h y) n i a) := tq_itB (tq_tkP w h) w (fun i a hi ha => tq_tkP_step (by omega) ha) n i a hi h0
def f_tk2 (w h : Nat) (i : Nat) (a : tq_I) : tq_I := (tq_it (f_tk1 w h i) w 0 a)
set_option maxRecDepth 20000 in
theorem lp_tk2 {g : tq_G} {rest : List tq_S} {x0 : tq_X} (C : tq_C g mX9_take x0) (hR : tq_ht x0 2 0 0) (J : Int64) (w h : Nat) (hw10 : w ≤ 10) (hh10 : h ≤ 10) : ∀ (n i : Nat) (a : tq_I), i + n = h → tq_tkP w h a → EV g mX9_take x0 0 0 78 [some (.ref 107), some (.ref 1), some (.int (nI (i + n))), none] [] (tq_SC ++ rest) tq_RR (tq_it (f_tk2 w h) n i a) J → EV g mX9_take x0 0 0 29 [some (.ref 107), some (.ref 1), some (.int (nI i)), none] [] (tq_SC ++ rest) tq_RR a J := by
  intro n
  induction n with
  | zero =>
    intro i a hi hI kk
    rw [Nat.add_zero] at kk
    refine EV_blk (own := 9) C rfl [(.iload_n 2, 0, 0, 0, 0), (.aload_n 1, 0, 0, 0, 0), (.getfield 25, 8, 0, 191, 0), (.getfield 31, 3, 1, 100, 0)] (pc' := 37) (by decide +kernel) (lv' := [some (.ref 107), some (.ref 1), some (.int (nI i)), none]) (st' := [.int (a 2 1), .int (nI i)]) (I' := a) (J' := J) rfl ?_
    refine EV_icmp_ge (off := 41) (tgt := 78) C (by decide +kernel) (by decide) (fun h1 => ?_) (fun h1 => ?_)
    · skip
      exact kk
    · skip
      exact absurd h1 (by simp (disch := omega) only [Int32.lt_iff_toInt_lt, Int32.le_iff_toInt_le, Int32.toInt_zero, nI_toInt, tq_m1, hI.2.2.2]; omega)
  | succ n ih =>
    intro i a hi hI kk
    rw [show i + (n + 1) = (i + 1) + n by omega] at kk
    refine EV_blk (own := 9) C rfl [(.iload_n 2, 0, 0, 0, 0), (.aload_n 1, 0, 0, 0, 0), (.getfield 25, 8, 0, 191, 0), (.getfield 31, 3, 1, 100, 0)] (pc' := 37) (by decide +kernel) (lv' := [some (.ref 107), some (.ref 1), some (.int (nI i)), none]) (st' := [.int (a 2 1), .int (nI i)]) (I' := a) (J' := J) rfl ?_
    refine EV_icmp_ge (off := 41) (tgt := 78) C (by decide +kernel) (by decide) (fun h1 => ?_) (fun h1 => ?_)
    · skip
      exact absurd h1 (by simp (disch := omega) only [Int32.lt_iff_toInt_lt, Int32.le_iff_toInt_le, Int32.toInt_zero, nI_toInt, tq_m1, hI.2.2.2]; omega)
    · skip
      refine EV_blk (own := 9) C rfl [(.iconst 0, 0, 0, 0, (nI 0)), (.istore_n 3, 0, 0, 0, 0)] (pc' := 42) (by decide +kernel) (lv' := [some (.ref 107), some (.ref 1), some (.int (nI i)), some (.int (nI 0))]) (st' := []) (I' := a) (J' := J) rfl ?_
      refine lp_tk1 C hR J w h i hw10 (by omega) w 0 a (by omega) hI ?_
      refine EV_blk (own := 9) C rfl [(.iinc 2 1, 0, 0, 0, (nI 1)), (.goto (-46), 0, 0, 0, 0)] (pc' := 29) (by decide +kernel) (lv' := [some (.ref 107), some (.ref 1), some (.int ((nI i) + (nI 1))), some (.int (nI ((0 + w))))]) (st' := []) (I' := (tq_it (f_tk1 w h i) w 0 a)) (J' := J) rfl ?_
      refine EV_fg (lv' := [some (.ref 107), some (.ref 1), some (.int ((nI i) + (nI 1))), none]) ⟨rfl, rfl, rfl, trivial⟩ ?_
      rw [show ((nI i) + (nI 1)) = (nI (i + 1)) from by simp (disch := omega) only [nI_add, tq_mul] <;> exact congrArg nI (by omega)]
      rw [tq_its, show (f_tk2 w h) i a = (tq_it (f_tk1 w h i) w 0 a) from by simp only [f_tk2, if_neg h1]] at kk
      exact ih (i + 1) (tq_it (f_tk1 w h i) w 0 a) (by omega) (tq_tk1P hw10 (by omega) _ _ _ (by omega) hI) kk
theorem fr_tk2 (w h : Nat) {cz : Nat} (hc : cz ≠ 107 ∧ cz ≠ 108 ∧ cz ≠ 109 ∧ cz ≠ 110) (n i : Nat) (a : tq_I) (jz : Nat) : (tq_it (f_tk2 w h) n i a) cz jz = a cz jz := by
  obtain ⟨hc0, hc1, hc2, hc3⟩ := hc
  refine tq_itF (fun i a j => ?_) n i a jz
  simp only [f_tk2]
  (repeat' split) <;> simp (disch := first | assumption | (simp only [ne_eq] at *; simp [*])) [tq_u, tq_cp, hc0, hc1, hc2, hc3, fr_tb1, fr_tb2, fr_X8_touchBlock, fr_X8_touchAll, fr_X8_changeCorner, fr_X8_changePath, fr_cb1, fr_cb2, fr_X8_changeBlock, fr_wipe1, fr_X1_wipe, fr_sm1, fr_sm2, fr_X8_startMap, fr_X6_place, fr_mt1, fr_mt2, fr_X6_moveTo, fr_ch2, fr_X10_choose, fr_X1_take, fr_fgt1, fr_X5_forget, fr_X5_meet, fr_gat1, fr_X5_gather, fr_dl1, fr_dl2, fr_X7_drawLayers, fr_dp1, fr_X7_drawPieces, fr_dr1, fr_X7_draw, fr_X9_add, fr_ac1, fr_X9_addCell, fr_tk0, fr_tk1]
theorem tq_tk0_get (n : Nat) : ∀ (i : Nat) (a : tq_I) (k : Nat), i ≤ k → k < i + n → tq_it f_tk0 n i a 110 k = -1 := by
  induction n with
  | zero => intro i a k h1 h2; omega
  | succ n ih =>
    intro i a k h1 h2
    rw [tq_its]
    by_cases hk : k = i
    · subst hk
      have : ∀ (m j : Nat) (b : tq_I), k < j → tq_it f_tk0 m j b 110 k = b 110 k := by
        intro m
        induction m with
        | zero => intro j b _; rfl
        | succ m ih2 =>
          intro j b hj
          rw [tq_its, ih2 (j + 1) _ (by omega)]
          simp only [f_tk0]
          rw [tq_u_slot (by omega)]
      rw [this n (k + 1) _ (by omega)]
      simp only [f_tk0]
      rw [tq_u_same]
    · exact ih (i + 1) _ k (by omega) (by omega)
theorem tq_tl_0 {I : tq_I} : tq_tl (tq_it f_tk0 384 0 (tq_u I 107 3 (nI 0))) := by
  have e : tq_it f_tk0 384 0 (tq_u I 107 3 (nI 0)) 107 3 = nI 0 := by rw [fr_tk0 (by decide), tq_u_same]
  refine ⟨by rw [e]; decide, by rw [e]; decide, fun k hk => ?_, fun c hc => Or.inl (tq_tk0_get 384 0 _ c (by omega) (by omega))⟩
  rw [e, tq_N_nI (by decide)] at hk
  exact absurd hk (Nat.not_lt_zero k)
theorem tq_tkP_0 {w h : Nat} {I : tq_I} (hv : tq_cv I) (hw : I 2 0 = nI w) (hh : I 2 1 = nI h) : tq_tkP w h (tq_it f_tk0 384 0 (tq_u I 107 3 (nI 0))) := by
  have e : ∀ c j, c ≠ 110 → c ≠ 107 → tq_it f_tk0 384 0 (tq_u I 107 3 (nI 0)) c j = I c j := fun c j h1 h2 => by rw [fr_tk0 h1, tq_u_cell h2]
  refine ⟨tq_tl_0, fun d hd => ?_, by rw [e _ _ (by decide) (by decide)]; exact hw, by rw [e _ _ (by decide) (by decide)]; exact hh⟩
  have h7 := hv d hd
  rw [e _ _ (by decide) (by decide)]
  refine ⟨h7.1, fun k hk => ?_⟩
  rw [e _ _ (by decide) (by decide)]
  exact h7.2 k hk
def I_X9_take (I : tq_I) (w h : Nat) : tq_I := (tq_it (f_tk2 w h) h 0 (tq_it (f_tk0) 384 0 (tq_u I 107 3 (nI 0))))
set_option maxRecDepth 20000 in
theorem c_X9_take (g : tq_G) (rest : List tq_S) (I : tq_I) (J : Int64) (w h : Nat) (hw : I 2 0 = nI w) (hh : I 2 1 = nI h) (hw10 : w ≤ 10) (hh10 : h ≤ 10) (hv : tq_cv I) : CT g mX9_take 2 0 0 [.ref 107, .ref 1] (tq_SC ++ rest) tq_RR I J (tq_ret (tq_SC ++ rest) tq_RR none (I_X9_take I w h) J) := by
  refine CT.ret kX9_take (Nat.le_of_ble_eq_true rfl) (fun x0 C hR hZ => ?_)
  refine EV_en (lv' := [some (.ref 107), some (.ref 1), none, none]) 2 rfl ?_
  refine EV_blk (own := 9) C rfl [(.aload_n 0, 0, 0, 0, 0), (.iconst 0, 0, 0, 0, (nI 0)), (.putfield 21, 9, 3, 292, 0), (.iconst 0, 0, 0, 0, (nI 0)), (.istore_n 2, 0, 0, 0, 0)] (pc' := 7) (by decide +kernel) (lv' := [some (.ref 107), some (.ref 1), some (.int (nI 0)), none]) (st' := []) (I' := (tq_u I 107 3 (nI 0))) (J' := J) rfl ?_
  refine lp_tk0 C hR J  384 0 (tq_u I 107 3 (nI 0)) (by omega) ?_
  refine EV_blk (own := 9) C rfl [(.iconst 0, 0, 0, 0, (nI 0)), (.istore_n 2, 0, 0, 0, 0)] (pc' := 29) (by decide +kernel) (lv' := [some (.ref 107), some (.ref 1), some (.int (nI 0)), none]) (st' := []) (I' := (tq_it (f_tk0) 384 0 (tq_u I 107 3 (nI 0)))) (J' := J) rfl ?_
  refine lp_tk2 C hR J w h hw10 hh10 h 0 (tq_it (f_tk0) 384 0 (tq_u I 107 3 (nI 0))) (by omega) (tq_tkP_0 hv hw hh) ?_
  exact EV_vret C hZ rfl (by decide +kernel) (Nat.le_refl _) (Nat.le_refl _) ⟨rfl, rfl, rfl, by simp only [I_X9_take], rfl⟩
theorem fr_X9_take (I : tq_I) (w h : Nat) {cz : Nat} (hc : cz ≠ 107 ∧ cz ≠ 108 ∧ cz ≠ 109 ∧ cz ≠ 110) (jz : Nat) : I_X9_take I w h cz jz = I cz jz := by
  obtain ⟨hc0, hc1, hc2, hc3⟩ := hc
  simp only [I_X9_take]
  (repeat' split) <;> simp (disch := first | assumption | (simp only [ne_eq] at *; simp [*])) [tq_u, tq_cp, hc0, hc1, hc2, hc3, fr_tb1, fr_tb2, fr_X8_touchBlock, fr_X8_touchAll, fr_X8_changeCorner, fr_X8_changePath, fr_cb1, fr_cb2, fr_X8_changeBlock, fr_wipe1, fr_X1_wipe, fr_sm1, fr_sm2, fr_X8_startMap, fr_X6_place, fr_mt1, fr_mt2, fr_X6_moveTo, fr_ch2, fr_X10_choose, fr_X1_take, fr_fgt1, fr_X5_forget, fr_X5_meet, fr_gat1, fr_X5_gather, fr_dl1, fr_dl2, fr_X7_drawLayers, fr_dp1, fr_X7_drawPieces, fr_dr1, fr_X7_draw, fr_X9_add, fr_ac1, fr_X9_addCell, fr_tk0, fr_tk1, fr_tk2]
theorem tq_take_ok {w h : Nat} {I : tq_I} (hw : I 2 0 = nI w) (hh : I 2 1 = nI h) (hw10 : w ≤ 10) (hh10 : h ≤ 10) (hv : tq_cv I) : tq_tl (I_X9_take I w h) := (tq_itB (tq_tkP w h) h (fun i a hi ha => tq_tk1P hw10 (by omega) _ _ _ (by omega) ha) h 0 _ (by omega) (tq_tkP_0 hv hw hh)).1
end
section
/-! the texts: 111 (length 1) with 112, 113 with 114; the reader 115 (row 1, column 2, rowLength 3, number 4), its terrains 116 -/
/-- rounds of a loop that may answer, or end and answer d -/
def tq_wr {α ρ : Type} (f : α → α ⊕ ρ ⊕ Unit) (d : α → ρ) : Nat → α → ρ
  | 0, a => d a
  | n + 1, a => match f a with
    | .inl b => tq_wr f d n b
    | .inr (.inl r) => r
    | .inr (.inr _) => d a
theorem tq_wr_c {α ρ : Type} {f : α → α ⊕ ρ ⊕ Unit} {d : α → ρ} {n : Nat} {a b : α} (h : f a = .inl b) : tq_wr f d (n + 1) a = tq_wr f d n b := by simp only [tq_wr, h]
theorem tq_wr_r {α ρ : Type} {f : α → α ⊕ ρ ⊕ Unit} {d : α → ρ} {n : Nat} {a : α} {r : ρ} (h : f a = .inr (.inl r)) : tq_wr f d (n + 1) a = r := by simp only [tq_wr, h]
theorem tq_wr_x {α ρ : Type} {f : α → α ⊕ ρ ⊕ Unit} {d : α → ρ} {n : Nat} {a : α} (h : f a = .inr (.inr ())) : tq_wr f d (n + 1) a = d a := by simp only [tq_wr, h]
def I_append111 (I : tq_I) (c : Int32) : tq_I := (if (nI 150) ≤ (I 111 1) then I else (tq_u (tq_u I 112 (tq_N (I 111 1)) c) 111 1 (((tq_u I 112 (tq_N (I 111 1)) c) 111 1) + (nI 1))))
set_option maxRecDepth 20000 in
theorem c_append111 (g : tq_G) (rest : List tq_S) (I : tq_I) (J : Int64) (c : Int32) (hl0 : 0 ≤ (I 111 1).toInt) : CT g mX0_append 0 0 0 [.ref 111, .int c] (tq_SC ++ rest) tq_RR I J (tq_ret (tq_SC ++ rest) tq_RR none (I_append111 I c) J) := by
  refine CT.ret kX0_append (Nat.le_of_ble_eq_true rfl) (fun x0 C hR hZ => ?_)
  refine EV_en (lv' := [some (.ref 111), some (.int c)]) 0 rfl ?_
  refine EV_blk (own := 0) C rfl [(.aload_n 0, 0, 0, 0, 0), (.getfield 13, 0, 1, 312, 0), (.sipush 150, 0, 0, 0, (nI 150))] (pc' := 7) (by decide +kernel) (lv' := [some (.ref 111), some (.int c)]) (st' := [.int (nI 150), .int (I 111 1)]) (I' := I) (J' := J) rfl ?_
  refine EV_icmp_ge (off := 23) (tgt := 30) C (by decide +kernel) (by decide) (fun h1 => ?_) (fun h1 => ?_)
  · skip
    exact EV_vret C hZ rfl (by decide +kernel) (Nat.le_refl _) (Nat.le_refl _) ⟨rfl, rfl, rfl, by simp only [I_append111, if_pos h1], rfl⟩
  · skip
    refine EV_blk (own := 0) C rfl [(.aload_n 0, 0, 0, 0, 0), (.getfield 9, 0, 0, 309, 0), (.aload_n 0, 0, 0, 0, 0), (.getfield 13, 0, 1, 312, 0), (.iload_n 1, 0, 0, 0, 0)] (pc' := 19) (by decide +kernel) (lv' := [some (.ref 111), some (.int c)]) (st' := [.int c, .int (I 111 1), .ref 112]) (I' := I) (J' := J) rfl ?_
    have hl : ¬ (nI 150) ≤ I 111 1 := h1
    simp (disch := omega) only [Int32.le_iff_toInt_le, nI_toInt] at hl
    refine EV_iast (j := (tq_N (I 111 1))) C (by decide +kernel) rfl (tq_NI hl0) (tq_Nlt hl0 (by omega)) ?_
    refine EV_blk (own := 0) C rfl [(.aload_n 0, 0, 0, 0, 0), (.dup, 0, 0, 0, 0), (.getfield 13, 0, 1, 312, 0), (.iconst 1, 0, 0, 0, (nI 1)), (.iadd, 0, 0, 0, 0), (.putfield 13, 0, 1, 312, 0)] (pc' := 30) (by decide +kernel) (lv' := [some (.ref 111), some (.int c)]) (st' := []) (I' := (tq_u (tq_u I 112 (tq_N (I 111 1)) c) 111 1 (((tq_u I 112 (tq_N (I 111 1)) c) 111 1) + (nI 1)))) (J' := J) rfl ?_
    exact EV_vret C hZ rfl (by decide +kernel) (Nat.le_refl _) (Nat.le_refl _) ⟨rfl, rfl, rfl, by simp only [I_append111, if_neg h1], rfl⟩
theorem fr_append111 (I : tq_I) (c : Int32) {cz : Nat} (hc : cz ≠ 111 ∧ cz ≠ 112) (jz : Nat) : I_append111 I c cz jz = I cz jz := by
  obtain ⟨hc0, hc1⟩ := hc
  simp only [I_append111]
  (repeat' split) <;> simp (disch := first | assumption | (simp only [ne_eq] at *; simp [*])) [tq_u, tq_cp, hc0, hc1, fr_tb1, fr_tb2, fr_X8_touchBlock, fr_X8_touchAll, fr_X8_changeCorner, fr_X8_changePath, fr_cb1, fr_cb2, fr_X8_changeBlock, fr_wipe1, fr_X1_wipe, fr_sm1, fr_sm2, fr_X8_startMap, fr_X6_place, fr_mt1, fr_mt2, fr_X6_moveTo, fr_ch2, fr_X10_choose, fr_X1_take, fr_fgt1, fr_X5_forget, fr_X5_meet, fr_gat1, fr_X5_gather, fr_dl1, fr_dl2, fr_X7_drawLayers, fr_dp1, fr_X7_drawPieces, fr_dr1, fr_X7_draw, fr_X9_add, fr_ac1, fr_X9_addCell, fr_tk0, fr_tk1, fr_tk2, fr_X9_take]
def I_append113 (I : tq_I) (c : Int32) : tq_I := (if (nI 150) ≤ (I 113 1) then I else (tq_u (tq_u I 114 (tq_N (I 113 1)) c) 113 1 (((tq_u I 114 (tq_N (I 113 1)) c) 113 1) + (nI 1))))
set_option maxRecDepth 20000 in
theorem c_append113 (g : tq_G) (rest : List tq_S) (I : tq_I) (J : Int64) (c : Int32) (hl0 : 0 ≤ (I 113 1).toInt) : CT g mX0_append 0 0 0 [.ref 113, .int c] (tq_SC ++ rest) tq_RR I J (tq_ret (tq_SC ++ rest) tq_RR none (I_append113 I c) J) := by
  refine CT.ret kX0_append (Nat.le_of_ble_eq_true rfl) (fun x0 C hR hZ => ?_)
  refine EV_en (lv' := [some (.ref 113), some (.int c)]) 0 rfl ?_
  refine EV_blk (own := 0) C rfl [(.aload_n 0, 0, 0, 0, 0), (.getfield 13, 0, 1, 312, 0), (.sipush 150, 0, 0, 0, (nI 150))] (pc' := 7) (by decide +kernel) (lv' := [some (.ref 113), some (.int c)]) (st' := [.int (nI 150), .int (I 113 1)]) (I' := I) (J' := J) rfl ?_
  refine EV_icmp_ge (off := 23) (tgt := 30) C (by decide +kernel) (by decide) (fun h1 => ?_) (fun h1 => ?_)
  · skip
    exact EV_vret C hZ rfl (by decide +kernel) (Nat.le_refl _) (Nat.le_refl _) ⟨rfl, rfl, rfl, by simp only [I_append113, if_pos h1], rfl⟩
  · skip
    refine EV_blk (own := 0) C rfl [(.aload_n 0, 0, 0, 0, 0), (.getfield 9, 0, 0, 309, 0), (.aload_n 0, 0, 0, 0, 0), (.getfield 13, 0, 1, 312, 0), (.iload_n 1, 0, 0, 0, 0)] (pc' := 19) (by decide +kernel) (lv' := [some (.ref 113), some (.int c)]) (st' := [.int c, .int (I 113 1), .ref 114]) (I' := I) (J' := J) rfl ?_
    have hl : ¬ (nI 150) ≤ I 113 1 := h1
    simp (disch := omega) only [Int32.le_iff_toInt_le, nI_toInt] at hl
    refine EV_iast (j := (tq_N (I 113 1))) C (by decide +kernel) rfl (tq_NI hl0) (tq_Nlt hl0 (by omega)) ?_
    refine EV_blk (own := 0) C rfl [(.aload_n 0, 0, 0, 0, 0), (.dup, 0, 0, 0, 0), (.getfield 13, 0, 1, 312, 0), (.iconst 1, 0, 0, 0, (nI 1)), (.iadd, 0, 0, 0, 0), (.putfield 13, 0, 1, 312, 0)] (pc' := 30) (by decide +kernel) (lv' := [some (.ref 113), some (.int c)]) (st' := []) (I' := (tq_u (tq_u I 114 (tq_N (I 113 1)) c) 113 1 (((tq_u I 114 (tq_N (I 113 1)) c) 113 1) + (nI 1)))) (J' := J) rfl ?_
    exact EV_vret C hZ rfl (by decide +kernel) (Nat.le_refl _) (Nat.le_refl _) ⟨rfl, rfl, rfl, by simp only [I_append113, if_neg h1], rfl⟩
theorem fr_append113 (I : tq_I) (c : Int32) {cz : Nat} (hc : cz ≠ 113 ∧ cz ≠ 114) (jz : Nat) : I_append113 I c cz jz = I cz jz := by
  obtain ⟨hc0, hc1⟩ := hc
  simp only [I_append113]
  (repeat' split) <;> simp (disch := first | assumption | (simp only [ne_eq] at *; simp [*])) [tq_u, tq_cp, hc0, hc1, fr_tb1, fr_tb2, fr_X8_touchBlock, fr_X8_touchAll, fr_X8_changeCorner, fr_X8_changePath, fr_cb1, fr_cb2, fr_X8_changeBlock, fr_wipe1, fr_X1_wipe, fr_sm1, fr_sm2, fr_X8_startMap, fr_X6_place, fr_mt1, fr_mt2, fr_X6_moveTo, fr_ch2, fr_X10_choose, fr_X1_take, fr_fgt1, fr_X5_forget, fr_X5_meet, fr_gat1, fr_X5_gather, fr_dl1, fr_dl2, fr_X7_drawLayers, fr_dp1, fr_X7_drawPieces, fr_dr1, fr_X7_draw, fr_X9_add, fr_ac1, fr_X9_addCell, fr_tk0, fr_tk1, fr_tk2, fr_X9_take, fr_append111]
set_option maxRecDepth 20000 in
theorem c_X4_isDigit (g : tq_G) (rest : List tq_S) (I : tq_I) (J : Int64) (v : Int32)  : CT g mX4_isDigit 1 0 0 [.int v] (tq_SC ++ rest) tq_RR I J (tq_ret (tq_SC ++ rest) tq_RR (some (.int (tq_b ((nI 48).toInt ≤ v.toInt ∧ v.toInt ≤ (nI 57).toInt)))) I J) := by
  refine CT.ret kX4_isDigit (Nat.le_of_ble_eq_true rfl) (fun x0 C hR hZ => ?_)
  refine EV_en (lv' := [some (.int v)]) 0 rfl ?_
  refine EV_blk (own := 4) C rfl [(.iload_n 0, 0, 0, 0, 0), (.bipush 48, 0, 0, 0, (nI 48)), (.bipush 57, 0, 0, 0, (nI 57))] (pc' := 5) (by decide +kernel) (lv' := [some (.int v)]) (st' := [.int (nI 57), .int (nI 48), .int v]) (I' := I) (J' := J) rfl ?_
  refine EV_cS (own := 4) (idx := 62) (μ' := mX11_isWithin) (av := [.int v, .int (nI 48), .int (nI 57)]) (rest := []) C hR rfl (Or.inr ⟨817, by decide⟩) kX11_isWithin sX11_isWithin (c_X11_isWithin g rest I J v (nI 48) (nI 57) ) (by decide +kernel) rfl (by decide) (Nat.le_of_ble_eq_true rfl) rfl ⟨Nat.zero_le _, Nat.zero_le _⟩ ?_
  exact EV_zret C hZ rfl tq_b01 (by decide +kernel) (Nat.le_refl _) (Nat.le_refl _) ⟨rfl, rfl, rfl, rfl, rfl⟩
def r_X4_isRowWhole (I : tq_I)  : Int32 := (if (I 115 1) = 0 then (if (I 115 2) < (nI 2) then (nI 0) else (nI 1)) else (if (I 115 2) = (I 115 3) then (nI 1) else (nI 0)))
set_option maxRecDepth 20000 in
theorem c_X4_isRowWhole (g : tq_G) (rest : List tq_S) (I : tq_I) (J : Int64)   : CT g mX4_isRowWhole 0 0 0 [.ref 115] (tq_SC ++ rest) tq_RR I J (tq_ret (tq_SC ++ rest) tq_RR (some (.int (r_X4_isRowWhole I))) I J) := by
  refine CT.ret kX4_isRowWhole (Nat.le_of_ble_eq_true rfl) (fun x0 C hR hZ => ?_)
  refine EV_en (lv' := [some (.ref 115)]) 0 rfl ?_
  refine EV_blk (own := 4) C rfl [(.aload_n 0, 0, 0, 0, 0), (.getfield 15, 4, 1, 328, 0)] (pc' := 4) (by decide +kernel) (lv' := [some (.ref 115)]) (st' := [.int (I 115 1)]) (I' := I) (J' := J) rfl ?_
  refine EV_if_ne (off := 19) (tgt := 23) C (by decide +kernel) (by decide) (fun h1 => ?_) (fun h1 => ?_)
  · skip
    refine EV_blk (own := 4) C rfl [(.aload_n 0, 0, 0, 0, 0), (.getfield 19, 4, 2, 330, 0), (.aload_n 0, 0, 0, 0, 0), (.getfield 22, 4, 3, 331, 0)] (pc' := 31) (by decide +kernel) (lv' := [some (.ref 115)]) (st' := [.int (I 115 3), .int (I 115 2)]) (I' := I) (J' := J) rfl ?_
    refine EV_icmp_ne (off := 7) (tgt := 38) C (by decide +kernel) (by decide) (fun h2 => ?_) (fun h2 => ?_)
    · skip
      refine EV_blk (own := 4) C rfl [(.iconst 0, 0, 0, 0, (nI 0))] (pc' := 39) (by decide +kernel) (lv' := [some (.ref 115)]) (st' := [.int (nI 0)]) (I' := I) (J' := J) rfl ?_
      exact EV_zret C hZ rfl (by decide) (by decide +kernel) (Nat.le_refl _) (Nat.le_refl _) ⟨tq_some (by simp only [r_X4_isRowWhole, if_neg h1, if_neg h2]), rfl, rfl, rfl, rfl⟩
    · skip
      refine EV_blk (own := 4) C rfl [(.iconst 1, 0, 0, 0, (nI 1)), (.goto 4, 0, 0, 0, 0)] (pc' := 39) (by decide +kernel) (lv' := [some (.ref 115)]) (st' := [.int (nI 1)]) (I' := I) (J' := J) rfl ?_
      exact EV_zret C hZ rfl (by decide) (by decide +kernel) (Nat.le_refl _) (Nat.le_refl _) ⟨tq_some (by simp only [r_X4_isRowWhole, if_neg h1, if_pos h2]), rfl, rfl, rfl, rfl⟩
  · skip
    refine EV_blk (own := 4) C rfl [(.aload_n 0, 0, 0, 0, 0), (.getfield 19, 4, 2, 330, 0), (.iconst 2, 0, 0, 0, (nI 2))] (pc' := 12) (by decide +kernel) (lv' := [some (.ref 115)]) (st' := [.int (nI 2), .int (I 115 2)]) (I' := I) (J' := J) rfl ?_
    refine EV_icmp_lt (off := 7) (tgt := 19) C (by decide +kernel) (by decide) (fun h3 => ?_) (fun h3 => ?_)
    · skip
      refine EV_blk (own := 4) C rfl [(.iconst 0, 0, 0, 0, (nI 0)), (.goto 19, 0, 0, 0, 0)] (pc' := 39) (by decide +kernel) (lv' := [some (.ref 115)]) (st' := [.int (nI 0)]) (I' := I) (J' := J) rfl ?_
      exact EV_zret C hZ rfl (by decide) (by decide +kernel) (Nat.le_refl _) (Nat.le_refl _) ⟨tq_some (by simp only [r_X4_isRowWhole, if_pos h1, if_pos h3]), rfl, rfl, rfl, rfl⟩
    · skip
      refine EV_blk (own := 4) C rfl [(.iconst 1, 0, 0, 0, (nI 1)), (.goto 23, 0, 0, 0, 0)] (pc' := 39) (by decide +kernel) (lv' := [some (.ref 115)]) (st' := [.int (nI 1)]) (I' := I) (J' := J) rfl ?_
      exact EV_zret C hZ rfl (by decide) (by decide +kernel) (Nat.le_refl _) (Nat.le_refl _) ⟨tq_some (by simp only [r_X4_isRowWhole, if_pos h1, if_neg h3]), rfl, rfl, rfl, rfl⟩
def r_X4_acceptRowEnd (I : tq_I)  : Int32 := (if (I 115 4) = 0 then (if (r_X4_isRowWhole I) = 0 then (nI 0) else (if (I 115 1) < (nI 10) then (if (I 115 1) = 0 then (nI 1) else (nI 1)) else (nI 0))) else (nI 0))
def I_X4_acceptRowEnd (I : tq_I)  : tq_I := (if (I 115 4) = 0 then (if (r_X4_isRowWhole I) = 0 then I else (if (I 115 1) < (nI 10) then (if (I 115 1) = 0 then (tq_u (tq_u (tq_u I 115 3 (I 115 2)) 115 1 (((tq_u I 115 3 (I 115 2)) 115 1) + (nI 1))) 115 2 (nI 0)) else (tq_u (tq_u I 115 1 ((I 115 1) + (nI 1))) 115 2 (nI 0))) else I)) else I)
set_option maxRecDepth 20000 in
theorem c_X4_acceptRowEnd (g : tq_G) (rest : List tq_S) (I : tq_I) (J : Int64)   : CT g mX4_acceptRowEnd 1 0 0 [.ref 115] (tq_SC ++ rest) tq_RR I J (tq_ret (tq_SC ++ rest) tq_RR (some (.int (r_X4_acceptRowEnd I))) (I_X4_acceptRowEnd I) J) := by
  refine CT.ret kX4_acceptRowEnd (Nat.le_of_ble_eq_true rfl) (fun x0 C hR hZ => ?_)
  refine EV_en (lv' := [some (.ref 115)]) 0 rfl ?_
  refine EV_blk (own := 4) C rfl [(.aload_n 0, 0, 0, 0, 0), (.getfield 25, 4, 4, 333, 0)] (pc' := 4) (by decide +kernel) (lv' := [some (.ref 115)]) (st' := [.int (I 115 4)]) (I' := I) (J' := J) rfl ?_
  refine EV_if_ne (off := 19) (tgt := 23) C (by decide +kernel) (by decide) (fun h1 => ?_) (fun h1 => ?_)
  · skip
    refine EV_blk (own := 4) C rfl [(.iconst 0, 0, 0, 0, (nI 0))] (pc' := 24) (by decide +kernel) (lv' := [some (.ref 115)]) (st' := [.int (nI 0)]) (I' := I) (J' := J) rfl ?_
    exact EV_iret C hZ rfl (by decide +kernel) (Nat.le_refl _) (Nat.le_refl _) ⟨tq_some (by simp only [r_X4_acceptRowEnd, if_neg h1]), rfl, rfl, by simp only [I_X4_acceptRowEnd, if_neg h1], rfl⟩
  · skip
    refine EV_blk (own := 4) C rfl [(.aload_n 0, 0, 0, 0, 0)] (pc' := 8) (by decide +kernel) (lv' := [some (.ref 115)]) (st' := [.ref 115]) (I' := I) (J' := J) rfl ?_
    refine EV_cV (own := 4) (idx := 37) (μ' := mX4_isRowWhole) (b := 115) (cb := 4) (av := []) (rest := []) C hR rfl (Or.inl ⟨826, by decide⟩) kX4_isRowWhole sX4_isRowWhole (c_X4_isRowWhole g rest I J  ) rfl rfl (by decide +kernel) rfl (by decide) (Nat.le_of_ble_eq_true rfl) rfl ⟨Nat.zero_le _, Nat.zero_le _⟩ ?_
    refine EV_if_eq (off := 12) (tgt := 23) C (by decide +kernel) (by decide) (fun h2 => ?_) (fun h2 => ?_)
    · skip
      refine EV_blk (own := 4) C rfl [(.iconst 0, 0, 0, 0, (nI 0))] (pc' := 24) (by decide +kernel) (lv' := [some (.ref 115)]) (st' := [.int (nI 0)]) (I' := I) (J' := J) rfl ?_
      exact EV_iret C hZ rfl (by decide +kernel) (Nat.le_refl _) (Nat.le_refl _) ⟨tq_some (by simp only [r_X4_acceptRowEnd, if_pos h1, if_pos h2]), rfl, rfl, by simp only [I_X4_acceptRowEnd, if_pos h1, if_pos h2], rfl⟩
    · skip
      refine EV_blk (own := 4) C rfl [(.aload_n 0, 0, 0, 0, 0), (.getfield 15, 4, 1, 328, 0), (.bipush 10, 0, 0, 0, (nI 10))] (pc' := 20) (by decide +kernel) (lv' := [some (.ref 115)]) (st' := [.int (nI 10), .int (I 115 1)]) (I' := I) (J' := J) rfl ?_
      refine EV_icmp_lt (off := 5) (tgt := 25) C (by decide +kernel) (by decide) (fun h3 => ?_) (fun h3 => ?_)
      · skip
        refine EV_blk (own := 4) C rfl [(.aload_n 0, 0, 0, 0, 0), (.getfield 15, 4, 1, 328, 0)] (pc' := 29) (by decide +kernel) (lv' := [some (.ref 115)]) (st' := [.int (I 115 1)]) (I' := I) (J' := J) rfl ?_
        refine EV_if_ne (off := 11) (tgt := 40) C (by decide +kernel) (by decide) (fun h4 => ?_) (fun h4 => ?_)
        · skip
          refine EV_blk (own := 4) C rfl [(.aload_n 0, 0, 0, 0, 0), (.dup, 0, 0, 0, 0), (.getfield 15, 4, 1, 328, 0), (.iconst 1, 0, 0, 0, (nI 1)), (.iadd, 0, 0, 0, 0), (.putfield 15, 4, 1, 328, 0), (.aload_n 0, 0, 0, 0, 0), (.iconst 0, 0, 0, 0, (nI 0)), (.putfield 19, 4, 2, 330, 0), (.iconst 1, 0, 0, 0, (nI 1))] (pc' := 56) (by decide +kernel) (lv' := [some (.ref 115)]) (st' := [.int (nI 1)]) (I' := (tq_u (tq_u I 115 1 ((I 115 1) + (nI 1))) 115 2 (nI 0))) (J' := J) rfl ?_
          exact EV_iret C hZ rfl (by decide +kernel) (Nat.le_refl _) (Nat.le_refl _) ⟨tq_some (by simp only [r_X4_acceptRowEnd, if_pos h1, if_neg h2, if_pos h3, if_neg h4]), rfl, rfl, by simp only [I_X4_acceptRowEnd, if_pos h1, if_neg h2, if_pos h3, if_neg h4], rfl⟩
        · skip
          refine EV_blk (own := 4) C rfl [(.aload_n 0, 0, 0, 0, 0), (.aload_n 0, 0, 0, 0, 0), (.getfield 19, 4, 2, 330, 0), (.putfield 22, 4, 3, 331, 0), (.aload_n 0, 0, 0, 0, 0), (.dup, 0, 0, 0, 0), (.getfield 15, 4, 1, 328, 0), (.iconst 1, 0, 0, 0, (nI 1)), (.iadd, 0, 0, 0, 0), (.putfield 15, 4, 1, 328, 0), (.aload_n 0, 0, 0, 0, 0), (.iconst 0, 0, 0, 0, (nI 0)), (.putfield 19, 4, 2, 330, 0), (.iconst 1, 0, 0, 0, (nI 1))] (pc' := 56) (by decide +kernel) (lv' := [some (.ref 115)]) (st' := [.int (nI 1)]) (I' := (tq_u (tq_u (tq_u I 115 3 (I 115 2)) 115 1 (((tq_u I 115 3 (I 115 2)) 115 1) + (nI 1))) 115 2 (nI 0))) (J' := J) rfl ?_
          exact EV_iret C hZ rfl (by decide +kernel) (Nat.le_refl _) (Nat.le_refl _) ⟨tq_some (by simp only [r_X4_acceptRowEnd, if_pos h1, if_neg h2, if_pos h3, if_pos h4]), rfl, rfl, by simp only [I_X4_acceptRowEnd, if_pos h1, if_neg h2, if_pos h3, if_pos h4], rfl⟩
      · skip
        refine EV_blk (own := 4) C rfl [(.iconst 0, 0, 0, 0, (nI 0))] (pc' := 24) (by decide +kernel) (lv' := [some (.ref 115)]) (st' := [.int (nI 0)]) (I' := I) (J' := J) rfl ?_
        exact EV_iret C hZ rfl (by decide +kernel) (Nat.le_refl _) (Nat.le_refl _) ⟨tq_some (by simp only [r_X4_acceptRowEnd, if_pos h1, if_neg h2, if_neg h3]), rfl, rfl, by simp only [I_X4_acceptRowEnd, if_pos h1, if_neg h2, if_neg h3], rfl⟩
theorem fr_X4_acceptRowEnd (I : tq_I)  {cz : Nat} (hc : cz ≠ 115) (jz : Nat) : I_X4_acceptRowEnd I  cz jz = I cz jz := by
  have hc0 := hc
  simp only [I_X4_acceptRowEnd]
  (repeat' split) <;> simp (disch := first | assumption | (simp only [ne_eq] at *; simp [*])) [tq_u, tq_cp, hc0, fr_tb1, fr_tb2, fr_X8_touchBlock, fr_X8_touchAll, fr_X8_changeCorner, fr_X8_changePath, fr_cb1, fr_cb2, fr_X8_changeBlock, fr_wipe1, fr_X1_wipe, fr_sm1, fr_sm2, fr_X8_startMap, fr_X6_place, fr_mt1, fr_mt2, fr_X6_moveTo, fr_ch2, fr_X10_choose, fr_X1_take, fr_fgt1, fr_X5_forget, fr_X5_meet, fr_gat1, fr_X5_gather, fr_dl1, fr_dl2, fr_X7_drawLayers, fr_dp1, fr_X7_drawPieces, fr_dr1, fr_X7_draw, fr_X9_add, fr_ac1, fr_X9_addCell, fr_tk0, fr_tk1, fr_tk2, fr_X9_take, fr_append111, fr_append113]
def r_X4_acceptNumber (I : tq_I) (p L : Nat) : Int32 := (if (I 115 4) = 0 then (if (I 111 1) ≤ ((nI p) + (nI 1)) then (if (tq_b ((nI 1).toInt ≤ ((I 112 p) - (nI 48)).toInt ∧ ((I 112 p) - (nI 48)).toInt ≤ (nI 11).toInt)) = 0 then (nI 0) else (nI 1)) else (if (tq_b ((nI 48).toInt ≤ (I 112 (p + 1)).toInt ∧ (I 112 (p + 1)).toInt ≤ (nI 57).toInt)) = 0 then (if (tq_b ((nI 1).toInt ≤ ((I 112 p) - (nI 48)).toInt ∧ ((I 112 p) - (nI 48)).toInt ≤ (nI 11).toInt)) = 0 then (nI 0) else (nI 1)) else (if (I 111 1) ≤ ((nI p) + (nI 2)) then (if (tq_b ((nI 1).toInt ≤ ((((nI 10) * ((I 112 p) - (nI 48))) + (I 112 (p + 1))) - (nI 48)).toInt ∧ ((((nI 10) * ((I 112 p) - (nI 48))) + (I 112 (p + 1))) - (nI 48)).toInt ≤ (nI 11).toInt)) = 0 then (nI 0) else (nI 2)) else (if (tq_b ((nI 48).toInt ≤ (I 112 (p + 2)).toInt ∧ (I 112 (p + 2)).toInt ≤ (nI 57).toInt)) = 0 then (if (tq_b ((nI 1).toInt ≤ ((((nI 10) * ((I 112 p) - (nI 48))) + (I 112 (p + 1))) - (nI 48)).toInt ∧ ((((nI 10) * ((I 112 p) - (nI 48))) + (I 112 (p + 1))) - (nI 48)).toInt ≤ (nI 11).toInt)) = 0 then (nI 0) else (nI 2)) else (nI 0))))) else (nI 0))
def I_X4_acceptNumber (I : tq_I) (p L : Nat) : tq_I := (if (I 115 4) = 0 then (if (I 111 1) ≤ ((nI p) + (nI 1)) then (if (tq_b ((nI 1).toInt ≤ ((I 112 p) - (nI 48)).toInt ∧ ((I 112 p) - (nI 48)).toInt ≤ (nI 11).toInt)) = 0 then I else (tq_u I 115 4 ((I 112 p) - (nI 48)))) else (if (tq_b ((nI 48).toInt ≤ (I 112 (p + 1)).toInt ∧ (I 112 (p + 1)).toInt ≤ (nI 57).toInt)) = 0 then (if (tq_b ((nI 1).toInt ≤ ((I 112 p) - (nI 48)).toInt ∧ ((I 112 p) - (nI 48)).toInt ≤ (nI 11).toInt)) = 0 then I else (tq_u I 115 4 ((I 112 p) - (nI 48)))) else (if (I 111 1) ≤ ((nI p) + (nI 2)) then (if (tq_b ((nI 1).toInt ≤ ((((nI 10) * ((I 112 p) - (nI 48))) + (I 112 (p + 1))) - (nI 48)).toInt ∧ ((((nI 10) * ((I 112 p) - (nI 48))) + (I 112 (p + 1))) - (nI 48)).toInt ≤ (nI 11).toInt)) = 0 then I else (tq_u I 115 4 ((((nI 10) * ((I 112 p) - (nI 48))) + (I 112 (p + 1))) - (nI 48)))) else (if (tq_b ((nI 48).toInt ≤ (I 112 (p + 2)).toInt ∧ (I 112 (p + 2)).toInt ≤ (nI 57).toInt)) = 0 then (if (tq_b ((nI 1).toInt ≤ ((((nI 10) * ((I 112 p) - (nI 48))) + (I 112 (p + 1))) - (nI 48)).toInt ∧ ((((nI 10) * ((I 112 p) - (nI 48))) + (I 112 (p + 1))) - (nI 48)).toInt ≤ (nI 11).toInt)) = 0 then I else (tq_u I 115 4 ((((nI 10) * ((I 112 p) - (nI 48))) + (I 112 (p + 1))) - (nI 48)))) else I)))) else I)
set_option maxRecDepth 20000 in
theorem c_X4_acceptNumber (g : tq_G) (rest : List tq_S) (I : tq_I) (J : Int64) (p L : Nat) (hp : p < L) (hL : I 111 1 = nI L) (hL150 : L ≤ 150) : CT g mX4_acceptNumber 2 0 0 [.ref 115, .ref 111, .int (nI p)] (tq_SC ++ rest) tq_RR I J (tq_ret (tq_SC ++ rest) tq_RR (some (.int (r_X4_acceptNumber I p L))) (I_X4_acceptNumber I p L) J) := by
  refine CT.ret kX4_acceptNumber (Nat.le_of_ble_eq_true rfl) (fun x0 C hR hZ => ?_)
  refine EV_en (lv' := [some (.ref 115), some (.ref 111), some (.int (nI p)), none, none, none]) 3 rfl ?_
  refine EV_blk (own := 4) C rfl [(.aload_n 0, 0, 0, 0, 0), (.getfield 25, 4, 4, 333, 0)] (pc' := 4) (by decide +kernel) (lv' := [some (.ref 115), some (.ref 111), some (.int (nI p)), none, none, none]) (st' := [.int (I 115 4)]) (I' := I) (J' := J) rfl ?_
  refine EV_if_eq (off := 5) (tgt := 9) C (by decide +kernel) (by decide) (fun h1 => ?_) (fun h1 => ?_)
  · skip
    refine EV_blk (own := 4) C rfl [(.iload_n 2, 0, 0, 0, 0), (.iconst 1, 0, 0, 0, (nI 1)), (.iadd, 0, 0, 0, 0), (.aload_n 1, 0, 0, 0, 0), (.getfield 28, 0, 1, 313, 0)] (pc' := 16) (by decide +kernel) (lv' := [some (.ref 115), some (.ref 111), some (.int (nI p)), none, none, none]) (st' := [.int (I 111 1), .int ((nI p) + (nI 1))]) (I' := I) (J' := J) rfl ?_
    refine EV_icmp_ge (off := 21) (tgt := 37) C (by decide +kernel) (by decide) (fun h2 => ?_) (fun h2 => ?_)
    · skip
      refine EV_blk (own := 4) C rfl [(.iconst 0, 0, 0, 0, (nI 0)), (.istore_n 3, 0, 0, 0, 0), (.iload_n 3, 0, 0, 0, 0)] (pc' := 40) (by decide +kernel) (lv' := [some (.ref 115), some (.ref 111), some (.int (nI p)), some (.int (nI 0)), none, none]) (st' := [.int (nI 0)]) (I' := I) (J' := J) rfl ?_
      refine EV_if_eq (off := 31) (tgt := 71) C (by decide +kernel) (by decide) (fun h3 => ?_) (fun h3 => ?_)
      · skip
        refine EV_blk (own := 4) C rfl [(.iconst 0, 0, 0, 0, (nI 0)), (.istore 4, 0, 0, 0, 0), (.aload_n 1, 0, 0, 0, 0), (.getfield 41, 0, 0, 310, 0), (.iload_n 2, 0, 0, 0, 0)] (pc' := 79) (by decide +kernel) (lv' := [some (.ref 115), some (.ref 111), some (.int (nI p)), some (.int (nI 0)), some (.int (nI 0)), none]) (st' := [.int (nI p), .ref 112]) (I' := I) (J' := J) rfl ?_
        refine EV_iald (j := p) C (by decide +kernel) rfl (nI_toInt (by omega)) (by omega) ?_
        refine EV_blk (own := 4) C rfl [(.bipush 48, 0, 0, 0, (nI 48)), (.isub, 0, 0, 0, 0), (.istore 5, 0, 0, 0, 0), (.iload_n 3, 0, 0, 0, 0)] (pc' := 86) (by decide +kernel) (lv' := [some (.ref 115), some (.ref 111), some (.int (nI p)), some (.int (nI 0)), some (.int (nI 0)), some (.int ((I 112 p) - (nI 48)))]) (st' := [.int (nI 0)]) (I' := I) (J' := J) rfl ?_
        refine EV_if_eq (off := 22) (tgt := 108) C (by decide +kernel) (by decide) (fun h4 => ?_) (fun h4 => ?_)
        · skip
          refine EV_blk (own := 4) C rfl [(.iload 4, 0, 0, 0, 0)] (pc' := 110) (by decide +kernel) (lv' := [some (.ref 115), some (.ref 111), some (.int (nI p)), some (.int (nI 0)), some (.int (nI 0)), some (.int ((I 112 p) - (nI 48)))]) (st' := [.int (nI 0)]) (I' := I) (J' := J) rfl ?_
          refine EV_if_ne (off := 14) (tgt := 124) C (by decide +kernel) (by decide) (fun h5 => ?_) (fun h5 => ?_)
          · skip
            exact absurd (by decide) h5
          · skip
            refine EV_blk (own := 4) C rfl [(.iload 5, 0, 0, 0, 0), (.iconst 1, 0, 0, 0, (nI 1)), (.bipush 11, 0, 0, 0, (nI 11))] (pc' := 118) (by decide +kernel) (lv' := [some (.ref 115), some (.ref 111), some (.int (nI p)), some (.int (nI 0)), some (.int (nI 0)), some (.int ((I 112 p) - (nI 48)))]) (st' := [.int (nI 11), .int (nI 1), .int ((I 112 p) - (nI 48))]) (I' := I) (J' := J) rfl ?_
            refine EV_cS (own := 4) (idx := 62) (μ' := mX11_isWithin) (av := [.int ((I 112 p) - (nI 48)), .int (nI 1), .int (nI 11)]) (rest := []) C hR rfl (Or.inr ⟨817, by decide⟩) kX11_isWithin sX11_isWithin (c_X11_isWithin g rest I J ((I 112 p) - (nI 48)) (nI 1) (nI 11) ) (by decide +kernel) rfl (by decide) (Nat.le_of_ble_eq_true rfl) rfl ⟨Nat.zero_le _, Nat.zero_le _⟩ ?_
            refine EV_if_ne (off := 5) (tgt := 126) C (by decide +kernel) (by decide) (fun h6 => ?_) (fun h6 => ?_)
            · skip
              refine EV_blk (own := 4) C rfl [(.aload_n 0, 0, 0, 0, 0), (.iload 5, 0, 0, 0, 0), (.putfield 25, 4, 4, 333, 0), (.iload_n 3, 0, 0, 0, 0)] (pc' := 133) (by decide +kernel) (lv' := [some (.ref 115), some (.ref 111), some (.int (nI p)), some (.int (nI 0)), some (.int (nI 0)), some (.int ((I 112 p) - (nI 48)))]) (st' := [.int (nI 0)]) (I' := (tq_u I 115 4 ((I 112 p) - (nI 48)))) (J' := J) rfl ?_
              refine EV_if_eq (off := 7) (tgt := 140) C (by decide +kernel) (by decide) (fun h7 => ?_) (fun h7 => ?_)
              · skip
                refine EV_blk (own := 4) C rfl [(.iconst 1, 0, 0, 0, (nI 1))] (pc' := 141) (by decide +kernel) (lv' := [some (.ref 115), some (.ref 111), some (.int (nI p)), some (.int (nI 0)), some (.int (nI 0)), some (.int ((I 112 p) - (nI 48)))]) (st' := [.int (nI 1)]) (I' := (tq_u I 115 4 ((I 112 p) - (nI 48)))) (J' := J) rfl ?_
                exact EV_iret C hZ rfl (by decide +kernel) (Nat.le_refl _) (Nat.le_refl _) ⟨tq_some (by simp only [r_X4_acceptNumber, if_pos h1, if_pos h2, if_pos h3, if_pos h4, if_pos h5, if_neg h6, if_pos h7]), rfl, rfl, by simp only [I_X4_acceptNumber, if_pos h1, if_pos h2, if_pos h3, if_pos h4, if_pos h5, if_neg h6, if_pos h7], rfl⟩
              · skip
                exact absurd (by decide) h7
            · skip
              refine EV_blk (own := 4) C rfl [(.iconst 0, 0, 0, 0, (nI 0))] (pc' := 125) (by decide +kernel) (lv' := [some (.ref 115), some (.ref 111), some (.int (nI p)), some (.int (nI 0)), some (.int (nI 0)), some (.int ((I 112 p) - (nI 48)))]) (st' := [.int (nI 0)]) (I' := I) (J' := J) rfl ?_
              exact EV_iret C hZ rfl (by decide +kernel) (Nat.le_refl _) (Nat.le_refl _) ⟨tq_some (by simp only [r_X4_acceptNumber, if_pos h1, if_pos h2, if_pos h3, if_pos h4, if_pos h5, if_pos h6]), rfl, rfl, by simp only [I_X4_acceptNumber, if_pos h1, if_pos h2, if_pos h3, if_pos h4, if_pos h5, if_pos h6], rfl⟩
        · skip
          exact absurd (by decide) h4
      · skip
        exact absurd (by decide) h3
    · skip
      have hk1 : p + 1 < L := by rw [hL] at h2; simp (disch := omega) only [nI_add, Int32.le_iff_toInt_le, nI_toInt] at h2; omega
      refine EV_blk (own := 4) C rfl [(.aload_n 1, 0, 0, 0, 0), (.getfield 41, 0, 0, 310, 0), (.iload_n 2, 0, 0, 0, 0), (.iconst 1, 0, 0, 0, (nI 1)), (.iadd, 0, 0, 0, 0)] (pc' := 26) (by decide +kernel) (lv' := [some (.ref 115), some (.ref 111), some (.int (nI p)), none, none, none]) (st' := [.int ((nI p) + (nI 1)), .ref 112]) (I' := I) (J' := J) rfl ?_
      refine EV_iald (j := (p + 1)) C (by decide +kernel) rfl (tq_toI (p + 1) (by simp (disch := omega) only [nI_add, tq_mul, tq_rem_nI, tq_div_nI, tq_sub_nI]) (by omega)) (by omega) ?_
      refine EV_cS (own := 4) (idx := 44) (μ' := mX4_isDigit) (av := [.int (I 112 (p + 1))]) (rest := []) C hR rfl (Or.inl ⟨814, by decide⟩) kX4_isDigit sX4_isDigit (c_X4_isDigit g rest I J (I 112 (p + 1)) ) (by decide +kernel) rfl (by decide) (Nat.le_of_ble_eq_true rfl) rfl ⟨Nat.zero_le _, Nat.zero_le _⟩ ?_
      refine EV_if_eq (off := 7) (tgt := 37) C (by decide +kernel) (by decide) (fun h8 => ?_) (fun h8 => ?_)
      · skip
        refine EV_blk (own := 4) C rfl [(.iconst 0, 0, 0, 0, (nI 0)), (.istore_n 3, 0, 0, 0, 0), (.iload_n 3, 0, 0, 0, 0)] (pc' := 40) (by decide +kernel) (lv' := [some (.ref 115), some (.ref 111), some (.int (nI p)), some (.int (nI 0)), none, none]) (st' := [.int (nI 0)]) (I' := I) (J' := J) rfl ?_
        refine EV_if_eq (off := 31) (tgt := 71) C (by decide +kernel) (by decide) (fun h9 => ?_) (fun h9 => ?_)
        · skip
          refine EV_blk (own := 4) C rfl [(.iconst 0, 0, 0, 0, (nI 0)), (.istore 4, 0, 0, 0, 0), (.aload_n 1, 0, 0, 0, 0), (.getfield 41, 0, 0, 310, 0), (.iload_n 2, 0, 0, 0, 0)] (pc' := 79) (by decide +kernel) (lv' := [some (.ref 115), some (.ref 111), some (.int (nI p)), some (.int (nI 0)), some (.int (nI 0)), none]) (st' := [.int (nI p), .ref 112]) (I' := I) (J' := J) rfl ?_
          refine EV_iald (j := p) C (by decide +kernel) rfl (nI_toInt (by omega)) (by omega) ?_
          refine EV_blk (own := 4) C rfl [(.bipush 48, 0, 0, 0, (nI 48)), (.isub, 0, 0, 0, 0), (.istore 5, 0, 0, 0, 0), (.iload_n 3, 0, 0, 0, 0)] (pc' := 86) (by decide +kernel) (lv' := [some (.ref 115), some (.ref 111), some (.int (nI p)), some (.int (nI 0)), some (.int (nI 0)), some (.int ((I 112 p) - (nI 48)))]) (st' := [.int (nI 0)]) (I' := I) (J' := J) rfl ?_
          refine EV_if_eq (off := 22) (tgt := 108) C (by decide +kernel) (by decide) (fun h10 => ?_) (fun h10 => ?_)
          · skip
            refine EV_blk (own := 4) C rfl [(.iload 4, 0, 0, 0, 0)] (pc' := 110) (by decide +kernel) (lv' := [some (.ref 115), some (.ref 111), some (.int (nI p)), some (.int (nI 0)), some (.int (nI 0)), some (.int ((I 112 p) - (nI 48)))]) (st' := [.int (nI 0)]) (I' := I) (J' := J) rfl ?_
            refine EV_if_ne (off := 14) (tgt := 124) C (by decide +kernel) (by decide) (fun h11 => ?_) (fun h11 => ?_)
            · skip
              exact absurd (by decide) h11
            · skip
              refine EV_blk (own := 4) C rfl [(.iload 5, 0, 0, 0, 0), (.iconst 1, 0, 0, 0, (nI 1)), (.bipush 11, 0, 0, 0, (nI 11))] (pc' := 118) (by decide +kernel) (lv' := [some (.ref 115), some (.ref 111), some (.int (nI p)), some (.int (nI 0)), some (.int (nI 0)), some (.int ((I 112 p) - (nI 48)))]) (st' := [.int (nI 11), .int (nI 1), .int ((I 112 p) - (nI 48))]) (I' := I) (J' := J) rfl ?_
              refine EV_cS (own := 4) (idx := 62) (μ' := mX11_isWithin) (av := [.int ((I 112 p) - (nI 48)), .int (nI 1), .int (nI 11)]) (rest := []) C hR rfl (Or.inr ⟨817, by decide⟩) kX11_isWithin sX11_isWithin (c_X11_isWithin g rest I J ((I 112 p) - (nI 48)) (nI 1) (nI 11) ) (by decide +kernel) rfl (by decide) (Nat.le_of_ble_eq_true rfl) rfl ⟨Nat.zero_le _, Nat.zero_le _⟩ ?_
              refine EV_if_ne (off := 5) (tgt := 126) C (by decide +kernel) (by decide) (fun h12 => ?_) (fun h12 => ?_)
              · skip
                refine EV_blk (own := 4) C rfl [(.aload_n 0, 0, 0, 0, 0), (.iload 5, 0, 0, 0, 0), (.putfield 25, 4, 4, 333, 0), (.iload_n 3, 0, 0, 0, 0)] (pc' := 133) (by decide +kernel) (lv' := [some (.ref 115), some (.ref 111), some (.int (nI p)), some (.int (nI 0)), some (.int (nI 0)), some (.int ((I 112 p) - (nI 48)))]) (st' := [.int (nI 0)]) (I' := (tq_u I 115 4 ((I 112 p) - (nI 48)))) (J' := J) rfl ?_
                refine EV_if_eq (off := 7) (tgt := 140) C (by decide +kernel) (by decide) (fun h13 => ?_) (fun h13 => ?_)
                · skip
                  refine EV_blk (own := 4) C rfl [(.iconst 1, 0, 0, 0, (nI 1))] (pc' := 141) (by decide +kernel) (lv' := [some (.ref 115), some (.ref 111), some (.int (nI p)), some (.int (nI 0)), some (.int (nI 0)), some (.int ((I 112 p) - (nI 48)))]) (st' := [.int (nI 1)]) (I' := (tq_u I 115 4 ((I 112 p) - (nI 48)))) (J' := J) rfl ?_
                  exact EV_iret C hZ rfl (by decide +kernel) (Nat.le_refl _) (Nat.le_refl _) ⟨tq_some (by simp only [r_X4_acceptNumber, if_pos h1, if_neg h2, if_pos h8, if_pos h9, if_pos h10, if_pos h11, if_neg h12, if_pos h13]), rfl, rfl, by simp only [I_X4_acceptNumber, if_pos h1, if_neg h2, if_pos h8, if_pos h9, if_pos h10, if_pos h11, if_neg h12, if_pos h13], rfl⟩
                · skip
                  exact absurd (by decide) h13
              · skip
                refine EV_blk (own := 4) C rfl [(.iconst 0, 0, 0, 0, (nI 0))] (pc' := 125) (by decide +kernel) (lv' := [some (.ref 115), some (.ref 111), some (.int (nI p)), some (.int (nI 0)), some (.int (nI 0)), some (.int ((I 112 p) - (nI 48)))]) (st' := [.int (nI 0)]) (I' := I) (J' := J) rfl ?_
                exact EV_iret C hZ rfl (by decide +kernel) (Nat.le_refl _) (Nat.le_refl _) ⟨tq_some (by simp only [r_X4_acceptNumber, if_pos h1, if_neg h2, if_pos h8, if_pos h9, if_pos h10, if_pos h11, if_pos h12]), rfl, rfl, by simp only [I_X4_acceptNumber, if_pos h1, if_neg h2, if_pos h8, if_pos h9, if_pos h10, if_pos h11, if_pos h12], rfl⟩
          · skip
            exact absurd (by decide) h10
        · skip
          exact absurd (by decide) h9
      · skip
        refine EV_blk (own := 4) C rfl [(.iconst 1, 0, 0, 0, (nI 1)), (.goto 4, 0, 0, 0, 0), (.istore_n 3, 0, 0, 0, 0), (.iload_n 3, 0, 0, 0, 0)] (pc' := 40) (by decide +kernel) (lv' := [some (.ref 115), some (.ref 111), some (.int (nI p)), some (.int (nI 1)), none, none]) (st' := [.int (nI 1)]) (I' := I) (J' := J) rfl ?_
        refine EV_if_eq (off := 31) (tgt := 71) C (by decide +kernel) (by decide) (fun h14 => ?_) (fun h14 => ?_)
        · skip
          exact absurd h14 (by decide)
        · skip
          refine EV_blk (own := 4) C rfl [(.iload_n 2, 0, 0, 0, 0), (.iconst 2, 0, 0, 0, (nI 2)), (.iadd, 0, 0, 0, 0), (.aload_n 1, 0, 0, 0, 0), (.getfield 28, 0, 1, 313, 0)] (pc' := 50) (by decide +kernel) (lv' := [some (.ref 115), some (.ref 111), some (.int (nI p)), some (.int (nI 1)), none, none]) (st' := [.int (I 111 1), .int ((nI p) + (nI 2))]) (I' := I) (J' := J) rfl ?_
          refine EV_icmp_ge (off := 21) (tgt := 71) C (by decide +kernel) (by decide) (fun h15 => ?_) (fun h15 => ?_)
          · skip
            refine EV_blk (own := 4) C rfl [(.iconst 0, 0, 0, 0, (nI 0)), (.istore 4, 0, 0, 0, 0), (.aload_n 1, 0, 0, 0, 0), (.getfield 41, 0, 0, 310, 0), (.iload_n 2, 0, 0, 0, 0)] (pc' := 79) (by decide +kernel) (lv' := [some (.ref 115), some (.ref 111), some (.int (nI p)), some (.int (nI 1)), some (.int (nI 0)), none]) (st' := [.int (nI p), .ref 112]) (I' := I) (J' := J) rfl ?_
            refine EV_iald (j := p) C (by decide +kernel) rfl (nI_toInt (by omega)) (by omega) ?_
            refine EV_blk (own := 4) C rfl [(.bipush 48, 0, 0, 0, (nI 48)), (.isub, 0, 0, 0, 0), (.istore 5, 0, 0, 0, 0), (.iload_n 3, 0, 0, 0, 0)] (pc' := 86) (by decide +kernel) (lv' := [some (.ref 115), some (.ref 111), some (.int (nI p)), some (.int (nI 1)), some (.int (nI 0)), some (.int ((I 112 p) - (nI 48)))]) (st' := [.int (nI 1)]) (I' := I) (J' := J) rfl ?_
            refine EV_if_eq (off := 22) (tgt := 108) C (by decide +kernel) (by decide) (fun h16 => ?_) (fun h16 => ?_)
            · skip
              exact absurd h16 (by decide)
            · skip
              refine EV_blk (own := 4) C rfl [(.bipush 10, 0, 0, 0, (nI 10)), (.iload 5, 0, 0, 0, 0), (.imul, 0, 0, 0, 0), (.aload_n 1, 0, 0, 0, 0), (.getfield 41, 0, 0, 310, 0), (.iload_n 2, 0, 0, 0, 0), (.iconst 1, 0, 0, 0, (nI 1)), (.iadd, 0, 0, 0, 0)] (pc' := 101) (by decide +kernel) (lv' := [some (.ref 115), some (.ref 111), some (.int (nI p)), some (.int (nI 1)), some (.int (nI 0)), some (.int ((I 112 p) - (nI 48)))]) (st' := [.int ((nI p) + (nI 1)), .ref 112, .int ((nI 10) * ((I 112 p) - (nI 48)))]) (I' := I) (J' := J) rfl ?_
              refine EV_iald (j := (p + 1)) C (by decide +kernel) rfl (tq_toI (p + 1) (by simp (disch := omega) only [nI_add, tq_mul, tq_rem_nI, tq_div_nI, tq_sub_nI]) (by omega)) (by omega) ?_
              refine EV_blk (own := 4) C rfl [(.iadd, 0, 0, 0, 0), (.bipush 48, 0, 0, 0, (nI 48)), (.isub, 0, 0, 0, 0), (.istore 5, 0, 0, 0, 0), (.iload 4, 0, 0, 0, 0)] (pc' := 110) (by decide +kernel) (lv' := [some (.ref 115), some (.ref 111), some (.int (nI p)), some (.int (nI 1)), some (.int (nI 0)), some (.int ((((nI 10) * ((I 112 p) - (nI 48))) + (I 112 (p + 1))) - (nI 48)))]) (st' := [.int (nI 0)]) (I' := I) (J' := J) rfl ?_
              refine EV_if_ne (off := 14) (tgt := 124) C (by decide +kernel) (by decide) (fun h17 => ?_) (fun h17 => ?_)
              · skip
                exact absurd (by decide) h17
              · skip
                refine EV_blk (own := 4) C rfl [(.iload 5, 0, 0, 0, 0), (.iconst 1, 0, 0, 0, (nI 1)), (.bipush 11, 0, 0, 0, (nI 11))] (pc' := 118) (by decide +kernel) (lv' := [some (.ref 115), some (.ref 111), some (.int (nI p)), some (.int (nI 1)), some (.int (nI 0)), some (.int ((((nI 10) * ((I 112 p) - (nI 48))) + (I 112 (p + 1))) - (nI 48)))]) (st' := [.int (nI 11), .int (nI 1), .int ((((nI 10) * ((I 112 p) - (nI 48))) + (I 112 (p + 1))) - (nI 48))]) (I' := I) (J' := J) rfl ?_
                refine EV_cS (own := 4) (idx := 62) (μ' := mX11_isWithin) (av := [.int ((((nI 10) * ((I 112 p) - (nI 48))) + (I 112 (p + 1))) - (nI 48)), .int (nI 1), .int (nI 11)]) (rest := []) C hR rfl (Or.inr ⟨817, by decide⟩) kX11_isWithin sX11_isWithin (c_X11_isWithin g rest I J ((((nI 10) * ((I 112 p) - (nI 48))) + (I 112 (p + 1))) - (nI 48)) (nI 1) (nI 11) ) (by decide +kernel) rfl (by decide) (Nat.le_of_ble_eq_true rfl) rfl ⟨Nat.zero_le _, Nat.zero_le _⟩ ?_
                refine EV_if_ne (off := 5) (tgt := 126) C (by decide +kernel) (by decide) (fun h18 => ?_) (fun h18 => ?_)
                · skip
                  refine EV_blk (own := 4) C rfl [(.aload_n 0, 0, 0, 0, 0), (.iload 5, 0, 0, 0, 0), (.putfield 25, 4, 4, 333, 0), (.iload_n 3, 0, 0, 0, 0)] (pc' := 133) (by decide +kernel) (lv' := [some (.ref 115), some (.ref 111), some (.int (nI p)), some (.int (nI 1)), some (.int (nI 0)), some (.int ((((nI 10) * ((I 112 p) - (nI 48))) + (I 112 (p + 1))) - (nI 48)))]) (st' := [.int (nI 1)]) (I' := (tq_u I 115 4 ((((nI 10) * ((I 112 p) - (nI 48))) + (I 112 (p + 1))) - (nI 48)))) (J' := J) rfl ?_
                  refine EV_if_eq (off := 7) (tgt := 140) C (by decide +kernel) (by decide) (fun h19 => ?_) (fun h19 => ?_)
                  · skip
                    exact absurd h19 (by decide)
                  · skip
                    refine EV_blk (own := 4) C rfl [(.iconst 2, 0, 0, 0, (nI 2)), (.goto 4, 0, 0, 0, 0)] (pc' := 141) (by decide +kernel) (lv' := [some (.ref 115), some (.ref 111), some (.int (nI p)), some (.int (nI 1)), some (.int (nI 0)), some (.int ((((nI 10) * ((I 112 p) - (nI 48))) + (I 112 (p + 1))) - (nI 48)))]) (st' := [.int (nI 2)]) (I' := (tq_u I 115 4 ((((nI 10) * ((I 112 p) - (nI 48))) + (I 112 (p + 1))) - (nI 48)))) (J' := J) rfl ?_
                    exact EV_iret C hZ rfl (by decide +kernel) (Nat.le_refl _) (Nat.le_refl _) ⟨tq_some (by simp only [r_X4_acceptNumber, if_pos h1, if_neg h2, if_neg h8, if_neg h14, if_pos h15, if_neg h16, if_pos h17, if_neg h18, if_neg h19]), rfl, rfl, by simp only [I_X4_acceptNumber, if_pos h1, if_neg h2, if_neg h8, if_neg h14, if_pos h15, if_neg h16, if_pos h17, if_neg h18, if_neg h19], rfl⟩
                · skip
                  refine EV_blk (own := 4) C rfl [(.iconst 0, 0, 0, 0, (nI 0))] (pc' := 125) (by decide +kernel) (lv' := [some (.ref 115), some (.ref 111), some (.int (nI p)), some (.int (nI 1)), some (.int (nI 0)), some (.int ((((nI 10) * ((I 112 p) - (nI 48))) + (I 112 (p + 1))) - (nI 48)))]) (st' := [.int (nI 0)]) (I' := I) (J' := J) rfl ?_
                  exact EV_iret C hZ rfl (by decide +kernel) (Nat.le_refl _) (Nat.le_refl _) ⟨tq_some (by simp only [r_X4_acceptNumber, if_pos h1, if_neg h2, if_neg h8, if_neg h14, if_pos h15, if_neg h16, if_pos h17, if_pos h18]), rfl, rfl, by simp only [I_X4_acceptNumber, if_pos h1, if_neg h2, if_neg h8, if_neg h14, if_pos h15, if_neg h16, if_pos h17, if_pos h18], rfl⟩
          · skip
            have hk2 : p + 2 < L := by rw [hL] at h15; simp (disch := omega) only [nI_add, Int32.le_iff_toInt_le, nI_toInt] at h15; omega
            refine EV_blk (own := 4) C rfl [(.aload_n 1, 0, 0, 0, 0), (.getfield 41, 0, 0, 310, 0), (.iload_n 2, 0, 0, 0, 0), (.iconst 2, 0, 0, 0, (nI 2)), (.iadd, 0, 0, 0, 0)] (pc' := 60) (by decide +kernel) (lv' := [some (.ref 115), some (.ref 111), some (.int (nI p)), some (.int (nI 1)), none, none]) (st' := [.int ((nI p) + (nI 2)), .ref 112]) (I' := I) (J' := J) rfl ?_
            refine EV_iald (j := (p + 2)) C (by decide +kernel) rfl (tq_toI (p + 2) (by simp (disch := omega) only [nI_add, tq_mul, tq_rem_nI, tq_div_nI, tq_sub_nI]) (by omega)) (by omega) ?_
            refine EV_cS (own := 4) (idx := 44) (μ' := mX4_isDigit) (av := [.int (I 112 (p + 2))]) (rest := []) C hR rfl (Or.inl ⟨814, by decide⟩) kX4_isDigit sX4_isDigit (c_X4_isDigit g rest I J (I 112 (p + 2)) ) (by decide +kernel) rfl (by decide) (Nat.le_of_ble_eq_true rfl) rfl ⟨Nat.zero_le _, Nat.zero_le _⟩ ?_
            refine EV_if_eq (off := 7) (tgt := 71) C (by decide +kernel) (by decide) (fun h20 => ?_) (fun h20 => ?_)
            · skip
              refine EV_blk (own := 4) C rfl [(.iconst 0, 0, 0, 0, (nI 0)), (.istore 4, 0, 0, 0, 0), (.aload_n 1, 0, 0, 0, 0), (.getfield 41, 0, 0, 310, 0), (.iload_n 2, 0, 0, 0, 0)] (pc' := 79) (by decide +kernel) (lv' := [some (.ref 115), some (.ref 111), some (.int (nI p)), some (.int (nI 1)), some (.int (nI 0)), none]) (st' := [.int (nI p), .ref 112]) (I' := I) (J' := J) rfl ?_
              refine EV_iald (j := p) C (by decide +kernel) rfl (nI_toInt (by omega)) (by omega) ?_
              refine EV_blk (own := 4) C rfl [(.bipush 48, 0, 0, 0, (nI 48)), (.isub, 0, 0, 0, 0), (.istore 5, 0, 0, 0, 0), (.iload_n 3, 0, 0, 0, 0)] (pc' := 86) (by decide +kernel) (lv' := [some (.ref 115), some (.ref 111), some (.int (nI p)), some (.int (nI 1)), some (.int (nI 0)), some (.int ((I 112 p) - (nI 48)))]) (st' := [.int (nI 1)]) (I' := I) (J' := J) rfl ?_
              refine EV_if_eq (off := 22) (tgt := 108) C (by decide +kernel) (by decide) (fun h21 => ?_) (fun h21 => ?_)
              · skip
                exact absurd h21 (by decide)
              · skip
                refine EV_blk (own := 4) C rfl [(.bipush 10, 0, 0, 0, (nI 10)), (.iload 5, 0, 0, 0, 0), (.imul, 0, 0, 0, 0), (.aload_n 1, 0, 0, 0, 0), (.getfield 41, 0, 0, 310, 0), (.iload_n 2, 0, 0, 0, 0), (.iconst 1, 0, 0, 0, (nI 1)), (.iadd, 0, 0, 0, 0)] (pc' := 101) (by decide +kernel) (lv' := [some (.ref 115), some (.ref 111), some (.int (nI p)), some (.int (nI 1)), some (.int (nI 0)), some (.int ((I 112 p) - (nI 48)))]) (st' := [.int ((nI p) + (nI 1)), .ref 112, .int ((nI 10) * ((I 112 p) - (nI 48)))]) (I' := I) (J' := J) rfl ?_
                refine EV_iald (j := (p + 1)) C (by decide +kernel) rfl (tq_toI (p + 1) (by simp (disch := omega) only [nI_add, tq_mul, tq_rem_nI, tq_div_nI, tq_sub_nI]) (by omega)) (by omega) ?_
                refine EV_blk (own := 4) C rfl [(.iadd, 0, 0, 0, 0), (.bipush 48, 0, 0, 0, (nI 48)), (.isub, 0, 0, 0, 0), (.istore 5, 0, 0, 0, 0), (.iload 4, 0, 0, 0, 0)] (pc' := 110) (by decide +kernel) (lv' := [some (.ref 115), some (.ref 111), some (.int (nI p)), some (.int (nI 1)), some (.int (nI 0)), some (.int ((((nI 10) * ((I 112 p) - (nI 48))) + (I 112 (p + 1))) - (nI 48)))]) (st' := [.int (nI 0)]) (I' := I) (J' := J) rfl ?_
                refine EV_if_ne (off := 14) (tgt := 124) C (by decide +kernel) (by decide) (fun h22 => ?_) (fun h22 => ?_)
                · skip
                  exact absurd (by decide) h22
                · skip
                  refine EV_blk (own := 4) C rfl [(.iload 5, 0, 0, 0, 0), (.iconst 1, 0, 0, 0, (nI 1)), (.bipush 11, 0, 0, 0, (nI 11))] (pc' := 118) (by decide +kernel) (lv' := [some (.ref 115), some (.ref 111), some (.int (nI p)), some (.int (nI 1)), some (.int (nI 0)), some (.int ((((nI 10) * ((I 112 p) - (nI 48))) + (I 112 (p + 1))) - (nI 48)))]) (st' := [.int (nI 11), .int (nI 1), .int ((((nI 10) * ((I 112 p) - (nI 48))) + (I 112 (p + 1))) - (nI 48))]) (I' := I) (J' := J) rfl ?_
                  refine EV_cS (own := 4) (idx := 62) (μ' := mX11_isWithin) (av := [.int ((((nI 10) * ((I 112 p) - (nI 48))) + (I 112 (p + 1))) - (nI 48)), .int (nI 1), .int (nI 11)]) (rest := []) C hR rfl (Or.inr ⟨817, by decide⟩) kX11_isWithin sX11_isWithin (c_X11_isWithin g rest I J ((((nI 10) * ((I 112 p) - (nI 48))) + (I 112 (p + 1))) - (nI 48)) (nI 1) (nI 11) ) (by decide +kernel) rfl (by decide) (Nat.le_of_ble_eq_true rfl) rfl ⟨Nat.zero_le _, Nat.zero_le _⟩ ?_
                  refine EV_if_ne (off := 5) (tgt := 126) C (by decide +kernel) (by decide) (fun h23 => ?_) (fun h23 => ?_)
                  · skip
                    refine EV_blk (own := 4) C rfl [(.aload_n 0, 0, 0, 0, 0), (.iload 5, 0, 0, 0, 0), (.putfield 25, 4, 4, 333, 0), (.iload_n 3, 0, 0, 0, 0)] (pc' := 133) (by decide +kernel) (lv' := [some (.ref 115), some (.ref 111), some (.int (nI p)), some (.int (nI 1)), some (.int (nI 0)), some (.int ((((nI 10) * ((I 112 p) - (nI 48))) + (I 112 (p + 1))) - (nI 48)))]) (st' := [.int (nI 1)]) (I' := (tq_u I 115 4 ((((nI 10) * ((I 112 p) - (nI 48))) + (I 112 (p + 1))) - (nI 48)))) (J' := J) rfl ?_
                    refine EV_if_eq (off := 7) (tgt := 140) C (by decide +kernel) (by decide) (fun h24 => ?_) (fun h24 => ?_)
                    · skip
                      exact absurd h24 (by decide)
                    · skip
                      refine EV_blk (own := 4) C rfl [(.iconst 2, 0, 0, 0, (nI 2)), (.goto 4, 0, 0, 0, 0)] (pc' := 141) (by decide +kernel) (lv' := [some (.ref 115), some (.ref 111), some (.int (nI p)), some (.int (nI 1)), some (.int (nI 0)), some (.int ((((nI 10) * ((I 112 p) - (nI 48))) + (I 112 (p + 1))) - (nI 48)))]) (st' := [.int (nI 2)]) (I' := (tq_u I 115 4 ((((nI 10) * ((I 112 p) - (nI 48))) + (I 112 (p + 1))) - (nI 48)))) (J' := J) rfl ?_
                      exact EV_iret C hZ rfl (by decide +kernel) (Nat.le_refl _) (Nat.le_refl _) ⟨tq_some (by simp only [r_X4_acceptNumber, if_pos h1, if_neg h2, if_neg h8, if_neg h14, if_neg h15, if_pos h20, if_neg h21, if_pos h22, if_neg h23, if_neg h24]), rfl, rfl, by simp only [I_X4_acceptNumber, if_pos h1, if_neg h2, if_neg h8, if_neg h14, if_neg h15, if_pos h20, if_neg h21, if_pos h22, if_neg h23, if_neg h24], rfl⟩
                  · skip
                    refine EV_blk (own := 4) C rfl [(.iconst 0, 0, 0, 0, (nI 0))] (pc' := 125) (by decide +kernel) (lv' := [some (.ref 115), some (.ref 111), some (.int (nI p)), some (.int (nI 1)), some (.int (nI 0)), some (.int ((((nI 10) * ((I 112 p) - (nI 48))) + (I 112 (p + 1))) - (nI 48)))]) (st' := [.int (nI 0)]) (I' := I) (J' := J) rfl ?_
                    exact EV_iret C hZ rfl (by decide +kernel) (Nat.le_refl _) (Nat.le_refl _) ⟨tq_some (by simp only [r_X4_acceptNumber, if_pos h1, if_neg h2, if_neg h8, if_neg h14, if_neg h15, if_pos h20, if_neg h21, if_pos h22, if_pos h23]), rfl, rfl, by simp only [I_X4_acceptNumber, if_pos h1, if_neg h2, if_neg h8, if_neg h14, if_neg h15, if_pos h20, if_neg h21, if_pos h22, if_pos h23], rfl⟩
            · skip
              refine EV_blk (own := 4) C rfl [(.iconst 1, 0, 0, 0, (nI 1)), (.goto 4, 0, 0, 0, 0), (.istore 4, 0, 0, 0, 0), (.aload_n 1, 0, 0, 0, 0), (.getfield 41, 0, 0, 310, 0), (.iload_n 2, 0, 0, 0, 0)] (pc' := 79) (by decide +kernel) (lv' := [some (.ref 115), some (.ref 111), some (.int (nI p)), some (.int (nI 1)), some (.int (nI 1)), none]) (st' := [.int (nI p), .ref 112]) (I' := I) (J' := J) rfl ?_
              refine EV_iald (j := p) C (by decide +kernel) rfl (nI_toInt (by omega)) (by omega) ?_
              refine EV_blk (own := 4) C rfl [(.bipush 48, 0, 0, 0, (nI 48)), (.isub, 0, 0, 0, 0), (.istore 5, 0, 0, 0, 0), (.iload_n 3, 0, 0, 0, 0)] (pc' := 86) (by decide +kernel) (lv' := [some (.ref 115), some (.ref 111), some (.int (nI p)), some (.int (nI 1)), some (.int (nI 1)), some (.int ((I 112 p) - (nI 48)))]) (st' := [.int (nI 1)]) (I' := I) (J' := J) rfl ?_
              refine EV_if_eq (off := 22) (tgt := 108) C (by decide +kernel) (by decide) (fun h25 => ?_) (fun h25 => ?_)
              · skip
                exact absurd h25 (by decide)
              · skip
                refine EV_blk (own := 4) C rfl [(.bipush 10, 0, 0, 0, (nI 10)), (.iload 5, 0, 0, 0, 0), (.imul, 0, 0, 0, 0), (.aload_n 1, 0, 0, 0, 0), (.getfield 41, 0, 0, 310, 0), (.iload_n 2, 0, 0, 0, 0), (.iconst 1, 0, 0, 0, (nI 1)), (.iadd, 0, 0, 0, 0)] (pc' := 101) (by decide +kernel) (lv' := [some (.ref 115), some (.ref 111), some (.int (nI p)), some (.int (nI 1)), some (.int (nI 1)), some (.int ((I 112 p) - (nI 48)))]) (st' := [.int ((nI p) + (nI 1)), .ref 112, .int ((nI 10) * ((I 112 p) - (nI 48)))]) (I' := I) (J' := J) rfl ?_
                refine EV_iald (j := (p + 1)) C (by decide +kernel) rfl (tq_toI (p + 1) (by simp (disch := omega) only [nI_add, tq_mul, tq_rem_nI, tq_div_nI, tq_sub_nI]) (by omega)) (by omega) ?_
                refine EV_blk (own := 4) C rfl [(.iadd, 0, 0, 0, 0), (.bipush 48, 0, 0, 0, (nI 48)), (.isub, 0, 0, 0, 0), (.istore 5, 0, 0, 0, 0), (.iload 4, 0, 0, 0, 0)] (pc' := 110) (by decide +kernel) (lv' := [some (.ref 115), some (.ref 111), some (.int (nI p)), some (.int (nI 1)), some (.int (nI 1)), some (.int ((((nI 10) * ((I 112 p) - (nI 48))) + (I 112 (p + 1))) - (nI 48)))]) (st' := [.int (nI 1)]) (I' := I) (J' := J) rfl ?_
                refine EV_if_ne (off := 14) (tgt := 124) C (by decide +kernel) (by decide) (fun h26 => ?_) (fun h26 => ?_)
                · skip
                  refine EV_blk (own := 4) C rfl [(.iconst 0, 0, 0, 0, (nI 0))] (pc' := 125) (by decide +kernel) (lv' := [some (.ref 115), some (.ref 111), some (.int (nI p)), some (.int (nI 1)), some (.int (nI 1)), some (.int ((((nI 10) * ((I 112 p) - (nI 48))) + (I 112 (p + 1))) - (nI 48)))]) (st' := [.int (nI 0)]) (I' := I) (J' := J) rfl ?_
                  exact EV_iret C hZ rfl (by decide +kernel) (Nat.le_refl _) (Nat.le_refl _) ⟨tq_some (by simp only [r_X4_acceptNumber, if_pos h1, if_neg h2, if_neg h8, if_neg h14, if_neg h15, if_neg h20, if_neg h25, if_neg h26]), rfl, rfl, by simp only [I_X4_acceptNumber, if_pos h1, if_neg h2, if_neg h8, if_neg h14, if_neg h15, if_neg h20, if_neg h25, if_neg h26], rfl⟩
                · skip
                  exact absurd h26 (by decide)
  · skip
    refine EV_blk (own := 4) C rfl [(.iconst 0, 0, 0, 0, (nI 0))] (pc' := 8) (by decide +kernel) (lv' := [some (.ref 115), some (.ref 111), some (.int (nI p)), none, none, none]) (st' := [.int (nI 0)]) (I' := I) (J' := J) rfl ?_
    exact EV_iret C hZ rfl (by decide +kernel) (Nat.le_refl _) (Nat.le_refl _) ⟨tq_some (by simp only [r_X4_acceptNumber, if_neg h1]), rfl, rfl, by simp only [I_X4_acceptNumber, if_neg h1], rfl⟩
theorem fr_X4_acceptNumber (I : tq_I) (p L : Nat) {cz : Nat} (hc : cz ≠ 115) (jz : Nat) : I_X4_acceptNumber I p L cz jz = I cz jz := by
  have hc0 := hc
  simp only [I_X4_acceptNumber]
  (repeat' split) <;> simp (disch := first | assumption | (simp only [ne_eq] at *; simp [*])) [tq_u, tq_cp, hc0, fr_tb1, fr_tb2, fr_X8_touchBlock, fr_X8_touchAll, fr_X8_changeCorner, fr_X8_changePath, fr_cb1, fr_cb2, fr_X8_changeBlock, fr_wipe1, fr_X1_wipe, fr_sm1, fr_sm2, fr_X8_startMap, fr_X6_place, fr_mt1, fr_mt2, fr_X6_moveTo, fr_ch2, fr_X10_choose, fr_X1_take, fr_fgt1, fr_X5_forget, fr_X5_meet, fr_gat1, fr_X5_gather, fr_dl1, fr_dl2, fr_X7_drawLayers, fr_dp1, fr_X7_drawPieces, fr_dr1, fr_X7_draw, fr_X9_add, fr_ac1, fr_X9_addCell, fr_tk0, fr_tk1, fr_tk2, fr_X9_take, fr_append111, fr_append113, fr_X4_acceptRowEnd]
/-- the reader's numbers are small -/
def tq_mr (I : tq_I) : Prop := (0 ≤ (I 115 1).toInt ∧ (I 115 1).toInt ≤ 10) ∧ (0 ≤ (I 115 2).toInt ∧ (I 115 2).toInt ≤ 11) ∧ (0 ≤ (I 115 3).toInt ∧ (I 115 3).toInt ≤ 11) ∧ 0 ≤ (I 115 4).toInt ∧ (I 115 4).toInt ≤ 11
theorem tq_mx {a b : Int32} (ha : 0 ≤ a.toInt) (hb : 0 ≤ b.toInt) : a + (if b < nI 1 then nI 1 else b) = nI (tq_N a + max (tq_N b) 1) := by
  have e1 := tq_nIN ha
  have e2 := tq_nIN hb
  have e3 : (nI 1).toInt = 1 := by decide
  by_cases h : b < nI 1
  · rw [if_pos h]
    have h2 := Int32.lt_iff_toInt_lt.mp h
    have : max (tq_N b) 1 = 1 := by unfold tq_N; omega
    rw [this, ← nI_add, ← e1]
  · rw [if_neg h]
    have h2 : ¬ b.toInt < (nI 1).toInt := fun q => h (Int32.lt_iff_toInt_lt.mpr q)
    have : max (tq_N b) 1 = tq_N b := by unfold tq_N; omega
    rw [this, ← nI_add, ← e1, ← e2]
def f_al1 (t : Int32) (ro co e : Nat) (i : Nat) (a : tq_I) : tq_I := (tq_u a 116 (ro * 11 + (co + i)) t)
set_option maxRecDepth 20000 in
theorem lp_al1 {g : tq_G} {rest : List tq_S} {x0 : tq_X} (C : tq_C g mX4_acceptLetter x0) (hR : tq_ht x0 1 0 0) (J : Int64) (t : Int32) (ro co e : Nat) (hro : ro ≤ 10) (hce : co ≤ e) (he : e ≤ 11) : ∀ (n i : Nat) (a : tq_I), i + n = e - co → a 115 1 = nI ro → EV g mX4_acceptLetter x0 0 0 66 [some (.ref 115), some (.int t), some (.int (nI e)), some (.int (nI (co + (i + n))))] [] (tq_SC ++ rest) tq_RR (tq_it (f_al1 t ro co e) n i a) J → EV g mX4_acceptLetter x0 0 0 41 [some (.ref 115), some (.int t), some (.int (nI e)), some (.int (nI (co + i)))] [] (tq_SC ++ rest) tq_RR a J := by
  intro n
  induction n with
  | zero =>
    intro i a hi hI kk
    rw [Nat.add_zero] at kk
    refine EV_blk (own := 4) C rfl [(.iload_n 3, 0, 0, 0, 0), (.iload_n 2, 0, 0, 0, 0)] (pc' := 43) (by decide +kernel) (lv' := [some (.ref 115), some (.int t), some (.int (nI e)), some (.int (nI (co + i)))]) (st' := [.int (nI e), .int (nI (co + i))]) (I' := a) (J' := J) rfl ?_
    refine EV_icmp_ge (off := 23) (tgt := 66) C (by decide +kernel) (by decide) (fun h1 => ?_) (fun h1 => ?_)
    · skip
      exact kk
    · skip
      exact absurd h1 (by simp (disch := omega) only [Int32.lt_iff_toInt_lt, Int32.le_iff_toInt_le, Int32.toInt_zero, nI_toInt, tq_m1]; omega)
  | succ n ih =>
    intro i a hi hI kk
    rw [show i + (n + 1) = (i + 1) + n by omega] at kk
    refine EV_blk (own := 4) C rfl [(.iload_n 3, 0, 0, 0, 0), (.iload_n 2, 0, 0, 0, 0)] (pc' := 43) (by decide +kernel) (lv' := [some (.ref 115), some (.int t), some (.int (nI e)), some (.int (nI (co + i)))]) (st' := [.int (nI e), .int (nI (co + i))]) (I' := a) (J' := J) rfl ?_
    refine EV_icmp_ge (off := 23) (tgt := 66) C (by decide +kernel) (by decide) (fun h1 => ?_) (fun h1 => ?_)
    · skip
      exact absurd h1 (by simp (disch := omega) only [Int32.lt_iff_toInt_lt, Int32.le_iff_toInt_le, Int32.toInt_zero, nI_toInt, tq_m1]; omega)
    · skip
      refine EV_blk (own := 4) C rfl [(.aload_n 0, 0, 0, 0, 0), (.getfield 9, 4, 0, 326, 0), (.iload_n 3, 0, 0, 0, 0), (.aload_n 0, 0, 0, 0, 0), (.getfield 15, 4, 1, 328, 0)] (pc' := 55) (by decide +kernel) (lv' := [some (.ref 115), some (.int t), some (.int (nI e)), some (.int (nI (co + i)))]) (st' := [.int (a 115 1), .int (nI (co + i)), .ref 116]) (I' := a) (J' := J) rfl ?_
      refine EV_ste (st' := [.int (nI ro), .int (nI (co + i)), .ref 116]) (by rw [hI]) ?_
      refine EV_cS (own := 4) (idx := 72) (μ' := mX11_cornerIndex) (av := [.int (nI (co + i)), .int (nI ro)]) (rest := [.ref 116]) C hR rfl (Or.inr ⟨836, by decide⟩) kX11_cornerIndex sX11_cornerIndex (c_X11_cornerIndex g rest a J (co + i) ro ) (by decide +kernel) rfl (by decide) (Nat.le_of_ble_eq_true rfl) rfl ⟨Nat.zero_le _, Nat.zero_le _⟩ ?_
      refine EV_blk (own := 4) C rfl [(.iload_n 1, 0, 0, 0, 0)] (pc' := 59) (by decide +kernel) (lv' := [some (.ref 115), some (.int t), some (.int (nI e)), some (.int (nI (co + i)))]) (st' := [.int t, .int (nI (ro * 11 + (co + i))), .ref 116]) (I' := a) (J' := J) rfl ?_
      refine EV_iast (j := (ro * 11 + (co + i))) C (by decide +kernel) rfl (nI_toInt (by omega)) (by omega) ?_
      refine EV_blk (own := 4) C rfl [(.iinc 3 1, 0, 0, 0, (nI 1)), (.goto (-22), 0, 0, 0, 0)] (pc' := 41) (by decide +kernel) (lv' := [some (.ref 115), some (.int t), some (.int (nI e)), some (.int ((nI (co + i)) + (nI 1)))]) (st' := []) (I' := (tq_u a 116 (ro * 11 + (co + i)) t)) (J' := J) rfl ?_
      rw [show ((nI (co + i)) + (nI 1)) = (nI (co + (i + 1))) from by simp (disch := omega) only [nI_add, tq_mul] <;> exact congrArg nI (by omega)]
      rw [tq_its, show (f_al1 t ro co e) i a = (tq_u a 116 (ro * 11 + (co + i)) t) from by simp only [f_al1, if_neg h1]] at kk
      exact ih (i + 1) (tq_u a 116 (ro * 11 + (co + i)) t) (by omega) hI kk
theorem fr_al1 (t : Int32) (ro co e : Nat) {cz : Nat} (hc : cz ≠ 116) (n i : Nat) (a : tq_I) (jz : Nat) : (tq_it (f_al1 t ro co e) n i a) cz jz = a cz jz := by
  have hc0 := hc
  refine tq_itF (fun i a j => ?_) n i a jz
  simp only [f_al1]
  (repeat' split) <;> simp (disch := first | assumption | (simp only [ne_eq] at *; simp [*])) [tq_u, tq_cp, hc0, fr_tb1, fr_tb2, fr_X8_touchBlock, fr_X8_touchAll, fr_X8_changeCorner, fr_X8_changePath, fr_cb1, fr_cb2, fr_X8_changeBlock, fr_wipe1, fr_X1_wipe, fr_sm1, fr_sm2, fr_X8_startMap, fr_X6_place, fr_mt1, fr_mt2, fr_X6_moveTo, fr_ch2, fr_X10_choose, fr_X1_take, fr_fgt1, fr_X5_forget, fr_X5_meet, fr_gat1, fr_X5_gather, fr_dl1, fr_dl2, fr_X7_drawLayers, fr_dp1, fr_X7_drawPieces, fr_dr1, fr_X7_draw, fr_X9_add, fr_ac1, fr_X9_addCell, fr_tk0, fr_tk1, fr_tk2, fr_X9_take, fr_append111, fr_append113, fr_X4_acceptRowEnd, fr_X4_acceptNumber]
def r_X4_acceptLetter (I : tq_I) (t : Int32) : Int32 := (if (I 115 1) = 0 then (if (nI (tq_N (I 115 2) + max (tq_N (I 115 4)) 1)) ≤ (nI 11) then (nI 1) else (nI 0)) else (if (nI (tq_N (I 115 2) + max (tq_N (I 115 4)) 1)) ≤ (I 115 3) then (nI 1) else (nI 0)))
def I_X4_acceptLetter (I : tq_I) (t : Int32) : tq_I := (if (I 115 1) = 0 then (if (nI (tq_N (I 115 2) + max (tq_N (I 115 4)) 1)) ≤ (nI 11) then (tq_u (tq_u (tq_it (f_al1 t (tq_N (I 115 1)) (tq_N (I 115 2)) (tq_N (I 115 2) + max (tq_N (I 115 4)) 1)) (tq_N (I 115 2) + max (tq_N (I 115 4)) 1 - tq_N (I 115 2)) 0 I) 115 2 (nI (tq_N (I 115 2) + max (tq_N (I 115 4)) 1))) 115 4 (nI 0)) else I) else (if (nI (tq_N (I 115 2) + max (tq_N (I 115 4)) 1)) ≤ (I 115 3) then (tq_u (tq_u (tq_it (f_al1 t (tq_N (I 115 1)) (tq_N (I 115 2)) (tq_N (I 115 2) + max (tq_N (I 115 4)) 1)) (tq_N (I 115 2) + max (tq_N (I 115 4)) 1 - tq_N (I 115 2)) 0 I) 115 2 (nI (tq_N (I 115 2) + max (tq_N (I 115 4)) 1))) 115 4 (nI 0)) else I))
set_option maxRecDepth 20000 in
theorem c_X4_acceptLetter (g : tq_G) (rest : List tq_S) (I : tq_I) (J : Int64) (t : Int32) (hI : tq_mr I) : CT g mX4_acceptLetter 1 0 0 [.ref 115, .int t] (tq_SC ++ rest) tq_RR I J (tq_ret (tq_SC ++ rest) tq_RR (some (.int (r_X4_acceptLetter I t))) (I_X4_acceptLetter I t) J) := by
  refine CT.ret kX4_acceptLetter (Nat.le_of_ble_eq_true rfl) (fun x0 C hR hZ => ?_)
  refine EV_en (lv' := [some (.ref 115), some (.int t), none, none]) 2 rfl ?_
  refine EV_blk (own := 4) C rfl [(.aload_n 0, 0, 0, 0, 0), (.getfield 19, 4, 2, 330, 0), (.aload_n 0, 0, 0, 0, 0), (.getfield 25, 4, 4, 333, 0), (.iconst 1, 0, 0, 0, (nI 1))] (pc' := 9) (by decide +kernel) (lv' := [some (.ref 115), some (.int t), none, none]) (st' := [.int (nI 1), .int (I 115 4), .int (I 115 2)]) (I' := I) (J' := J) rfl ?_
  refine EV_max (own := 4) (idx := 66) (pl := 835) C hR rfl (by decide) (by decide +kernel) (by decide) (Nat.le_of_ble_eq_true rfl) (Nat.zero_le _) (Nat.zero_le _) ?_
  refine EV_blk (own := 4) C rfl [(.iadd, 0, 0, 0, 0), (.istore_n 2, 0, 0, 0, 0)] (pc' := 14) (by decide +kernel) (lv' := [some (.ref 115), some (.int t), some (.int ((I 115 2) + (if (I 115 4) < (nI 1) then (nI 1) else (I 115 4)))), none]) (st' := []) (I' := I) (J' := J) rfl ?_
  refine EV_lve (lv' := [some (.ref 115), some (.int t), some (.int (nI (tq_N (I 115 2) + max (tq_N (I 115 4)) 1))), none]) (by rw [tq_mx hI.2.1.1 hI.2.2.2.1]) ?_
  refine EV_blk (own := 4) C rfl [(.iload_n 2, 0, 0, 0, 0), (.aload_n 0, 0, 0, 0, 0), (.getfield 15, 4, 1, 328, 0)] (pc' := 19) (by decide +kernel) (lv' := [some (.ref 115), some (.int t), some (.int (nI (tq_N (I 115 2) + max (tq_N (I 115 4)) 1))), none]) (st' := [.int (I 115 1), .int (nI (tq_N (I 115 2) + max (tq_N (I 115 4)) 1))]) (I' := I) (J' := J) rfl ?_
  refine EV_if_ne (off := 8) (tgt := 27) C (by decide +kernel) (by decide) (fun h1 => ?_) (fun h1 => ?_)
  · skip
    refine EV_blk (own := 4) C rfl [(.aload_n 0, 0, 0, 0, 0), (.getfield 22, 4, 3, 331, 0)] (pc' := 31) (by decide +kernel) (lv' := [some (.ref 115), some (.int t), some (.int (nI (tq_N (I 115 2) + max (tq_N (I 115 4)) 1))), none]) (st' := [.int (I 115 3), .int (nI (tq_N (I 115 2) + max (tq_N (I 115 4)) 1))]) (I' := I) (J' := J) rfl ?_
    refine EV_icmp_le (off := 5) (tgt := 36) C (by decide +kernel) (by decide) (fun h2 => ?_) (fun h2 => ?_)
    · skip
      refine EV_blk (own := 4) C rfl [(.aload_n 0, 0, 0, 0, 0), (.getfield 19, 4, 2, 330, 0), (.istore_n 3, 0, 0, 0, 0)] (pc' := 41) (by decide +kernel) (lv' := [some (.ref 115), some (.int t), some (.int (nI (tq_N (I 115 2) + max (tq_N (I 115 4)) 1))), some (.int (I 115 2))]) (st' := []) (I' := I) (J' := J) rfl ?_
      refine EV_lve (lv' := [some (.ref 115), some (.int t), some (.int (nI (tq_N (I 115 2) + max (tq_N (I 115 4)) 1))), some (.int (nI (tq_N (I 115 2) + 0)))]) (by rw [Nat.add_zero, ← tq_nIN hI.2.1.1]) ?_
      have hee : tq_N (I 115 2) + max (tq_N (I 115 4)) 1 ≤ 11 := by
        have hN : tq_N (I 115 4) ≤ 11 := by have := hI.2.2.2; unfold tq_N; omega
        have hM : tq_N (I 115 2) ≤ 11 := by have := hI.2.1; unfold tq_N; omega
        have hq := h2
        have h3 := hI.2.2.1
        simp (disch := omega) only [Int32.le_iff_toInt_le, nI_toInt] at hq
        omega
      refine lp_al1 C hR J t (tq_N (I 115 1)) (tq_N (I 115 2)) (tq_N (I 115 2) + max (tq_N (I 115 4)) 1) (by have := hI.1; unfold tq_N; omega) (by omega) hee (tq_N (I 115 2) + max (tq_N (I 115 4)) 1 - tq_N (I 115 2)) 0 I (by omega) (tq_nIN hI.1.1) ?_
      refine EV_blk (own := 4) C rfl [(.aload_n 0, 0, 0, 0, 0), (.iload_n 2, 0, 0, 0, 0), (.putfield 19, 4, 2, 330, 0), (.aload_n 0, 0, 0, 0, 0), (.iconst 0, 0, 0, 0, (nI 0)), (.putfield 25, 4, 4, 333, 0), (.iconst 1, 0, 0, 0, (nI 1))] (pc' := 77) (by decide +kernel) (lv' := [some (.ref 115), some (.int t), some (.int (nI (tq_N (I 115 2) + max (tq_N (I 115 4)) 1))), some (.int (nI ((tq_N (I 115 2)) + (0 + (tq_N (I 115 2) + max (tq_N (I 115 4)) 1 - tq_N (I 115 2))))))]) (st' := [.int (nI 1)]) (I' := (tq_u (tq_u (tq_it (f_al1 t (tq_N (I 115 1)) (tq_N (I 115 2)) (tq_N (I 115 2) + max (tq_N (I 115 4)) 1)) (tq_N (I 115 2) + max (tq_N (I 115 4)) 1 - tq_N (I 115 2)) 0 I) 115 2 (nI (tq_N (I 115 2) + max (tq_N (I 115 4)) 1))) 115 4 (nI 0))) (J' := J) rfl ?_
      exact EV_iret C hZ rfl (by decide +kernel) (Nat.le_refl _) (Nat.le_refl _) ⟨tq_some (by simp only [r_X4_acceptLetter, if_neg h1, if_pos h2]), rfl, rfl, by simp only [I_X4_acceptLetter, if_neg h1, if_pos h2], rfl⟩
    · skip
      refine EV_blk (own := 4) C rfl [(.iconst 0, 0, 0, 0, (nI 0))] (pc' := 35) (by decide +kernel) (lv' := [some (.ref 115), some (.int t), some (.int (nI (tq_N (I 115 2) + max (tq_N (I 115 4)) 1))), none]) (st' := [.int (nI 0)]) (I' := I) (J' := J) rfl ?_
      exact EV_iret C hZ rfl (by decide +kernel) (Nat.le_refl _) (Nat.le_refl _) ⟨tq_some (by simp only [r_X4_acceptLetter, if_neg h1, if_neg h2]), rfl, rfl, by simp only [I_X4_acceptLetter, if_neg h1, if_neg h2], rfl⟩
  · skip
    refine EV_blk (own := 4) C rfl [(.bipush 11, 0, 0, 0, (nI 11)), (.goto 7, 0, 0, 0, 0)] (pc' := 31) (by decide +kernel) (lv' := [some (.ref 115), some (.int t), some (.int (nI (tq_N (I 115 2) + max (tq_N (I 115 4)) 1))), none]) (st' := [.int (nI 11), .int (nI (tq_N (I 115 2) + max (tq_N (I 115 4)) 1))]) (I' := I) (J' := J) rfl ?_
    refine EV_icmp_le (off := 5) (tgt := 36) C (by decide +kernel) (by decide) (fun h3 => ?_) (fun h3 => ?_)
    · skip
      refine EV_blk (own := 4) C rfl [(.aload_n 0, 0, 0, 0, 0), (.getfield 19, 4, 2, 330, 0), (.istore_n 3, 0, 0, 0, 0)] (pc' := 41) (by decide +kernel) (lv' := [some (.ref 115), some (.int t), some (.int (nI (tq_N (I 115 2) + max (tq_N (I 115 4)) 1))), some (.int (I 115 2))]) (st' := []) (I' := I) (J' := J) rfl ?_
      refine EV_lve (lv' := [some (.ref 115), some (.int t), some (.int (nI (tq_N (I 115 2) + max (tq_N (I 115 4)) 1))), some (.int (nI (tq_N (I 115 2) + 0)))]) (by rw [Nat.add_zero, ← tq_nIN hI.2.1.1]) ?_
      have hee : tq_N (I 115 2) + max (tq_N (I 115 4)) 1 ≤ 11 := by
        have hN : tq_N (I 115 4) ≤ 11 := by have := hI.2.2.2; unfold tq_N; omega
        have hM : tq_N (I 115 2) ≤ 11 := by have := hI.2.1; unfold tq_N; omega
        have hq := h3
        have h3 := hI.2.2.1
        simp (disch := omega) only [Int32.le_iff_toInt_le, nI_toInt] at hq
        omega
      refine lp_al1 C hR J t (tq_N (I 115 1)) (tq_N (I 115 2)) (tq_N (I 115 2) + max (tq_N (I 115 4)) 1) (by have := hI.1; unfold tq_N; omega) (by omega) hee (tq_N (I 115 2) + max (tq_N (I 115 4)) 1 - tq_N (I 115 2)) 0 I (by omega) (tq_nIN hI.1.1) ?_
      refine EV_blk (own := 4) C rfl [(.aload_n 0, 0, 0, 0, 0), (.iload_n 2, 0, 0, 0, 0), (.putfield 19, 4, 2, 330, 0), (.aload_n 0, 0, 0, 0, 0), (.iconst 0, 0, 0, 0, (nI 0)), (.putfield 25, 4, 4, 333, 0), (.iconst 1, 0, 0, 0, (nI 1))] (pc' := 77) (by decide +kernel) (lv' := [some (.ref 115), some (.int t), some (.int (nI (tq_N (I 115 2) + max (tq_N (I 115 4)) 1))), some (.int (nI ((tq_N (I 115 2)) + (0 + (tq_N (I 115 2) + max (tq_N (I 115 4)) 1 - tq_N (I 115 2))))))]) (st' := [.int (nI 1)]) (I' := (tq_u (tq_u (tq_it (f_al1 t (tq_N (I 115 1)) (tq_N (I 115 2)) (tq_N (I 115 2) + max (tq_N (I 115 4)) 1)) (tq_N (I 115 2) + max (tq_N (I 115 4)) 1 - tq_N (I 115 2)) 0 I) 115 2 (nI (tq_N (I 115 2) + max (tq_N (I 115 4)) 1))) 115 4 (nI 0))) (J' := J) rfl ?_
      exact EV_iret C hZ rfl (by decide +kernel) (Nat.le_refl _) (Nat.le_refl _) ⟨tq_some (by simp only [r_X4_acceptLetter, if_pos h1, if_pos h3]), rfl, rfl, by simp only [I_X4_acceptLetter, if_pos h1, if_pos h3], rfl⟩
    · skip
      refine EV_blk (own := 4) C rfl [(.iconst 0, 0, 0, 0, (nI 0))] (pc' := 35) (by decide +kernel) (lv' := [some (.ref 115), some (.int t), some (.int (nI (tq_N (I 115 2) + max (tq_N (I 115 4)) 1))), none]) (st' := [.int (nI 0)]) (I' := I) (J' := J) rfl ?_
      exact EV_iret C hZ rfl (by decide +kernel) (Nat.le_refl _) (Nat.le_refl _) ⟨tq_some (by simp only [r_X4_acceptLetter, if_pos h1, if_neg h3]), rfl, rfl, by simp only [I_X4_acceptLetter, if_pos h1, if_neg h3], rfl⟩
theorem fr_X4_acceptLetter (I : tq_I) (t : Int32) {cz : Nat} (hc : cz ≠ 115 ∧ cz ≠ 116) (jz : Nat) : I_X4_acceptLetter I t cz jz = I cz jz := by
  obtain ⟨hc0, hc1⟩ := hc
  simp only [I_X4_acceptLetter]
  (repeat' split) <;> simp (disch := first | assumption | (simp only [ne_eq] at *; simp [*])) [tq_u, tq_cp, hc0, hc1, fr_tb1, fr_tb2, fr_X8_touchBlock, fr_X8_touchAll, fr_X8_changeCorner, fr_X8_changePath, fr_cb1, fr_cb2, fr_X8_changeBlock, fr_wipe1, fr_X1_wipe, fr_sm1, fr_sm2, fr_X8_startMap, fr_X6_place, fr_mt1, fr_mt2, fr_X6_moveTo, fr_ch2, fr_X10_choose, fr_X1_take, fr_fgt1, fr_X5_forget, fr_X5_meet, fr_gat1, fr_X5_gather, fr_dl1, fr_dl2, fr_X7_drawLayers, fr_dp1, fr_X7_drawPieces, fr_dr1, fr_X7_draw, fr_X9_add, fr_ac1, fr_X9_addCell, fr_tk0, fr_tk1, fr_tk2, fr_X9_take, fr_append111, fr_append113, fr_X4_acceptRowEnd, fr_X4_acceptNumber, fr_al1]
def r_X4_accept (I : tq_I) (p L : Nat) : Int32 := (if (I 112 p) = (nI 32) then (nI 1) else (if (tq_b ((nI 48).toInt ≤ (I 112 p).toInt ∧ (I 112 p).toInt ≤ (nI 57).toInt)) = 0 then (if (I 112 p) = (nI 47) then (r_X4_acceptRowEnd I) else (if (tq_b ((nI 0).toInt ≤ ((I 112 p) - (nI 97)).toInt ∧ ((I 112 p) - (nI 97)).toInt ≤ (nI 5).toInt)) = 0 then (nI 0) else (r_X4_acceptLetter I ((I 112 p) - (nI 97))))) else (r_X4_acceptNumber I p L)))
def I_X4_accept (I : tq_I) (p L : Nat) : tq_I := (if (I 112 p) = (nI 32) then I else (if (tq_b ((nI 48).toInt ≤ (I 112 p).toInt ∧ (I 112 p).toInt ≤ (nI 57).toInt)) = 0 then (if (I 112 p) = (nI 47) then (I_X4_acceptRowEnd I) else (if (tq_b ((nI 0).toInt ≤ ((I 112 p) - (nI 97)).toInt ∧ ((I 112 p) - (nI 97)).toInt ≤ (nI 5).toInt)) = 0 then I else (I_X4_acceptLetter I ((I 112 p) - (nI 97))))) else (I_X4_acceptNumber I p L)))
set_option maxRecDepth 20000 in
theorem c_X4_accept (g : tq_G) (rest : List tq_S) (I : tq_I) (J : Int64) (p L : Nat) (hp : p < L) (hL : I 111 1 = nI L) (hL150 : L ≤ 150) (hI : tq_mr I) : CT g mX4_accept 3 0 0 [.ref 115, .ref 111, .int (nI p)] (tq_SC ++ rest) tq_RR I J (tq_ret (tq_SC ++ rest) tq_RR (some (.int (r_X4_accept I p L))) (I_X4_accept I p L) J) := by
  refine CT.ret kX4_accept (Nat.le_of_ble_eq_true rfl) (fun x0 C hR hZ => ?_)
  refine EV_en (lv' := [some (.ref 115), some (.ref 111), some (.int (nI p)), none]) 1 rfl ?_
  refine EV_blk (own := 4) C rfl [(.aload_n 1, 0, 0, 0, 0), (.getfield 41, 0, 0, 310, 0), (.iload_n 2, 0, 0, 0, 0)] (pc' := 5) (by decide +kernel) (lv' := [some (.ref 115), some (.ref 111), some (.int (nI p)), none]) (st' := [.int (nI p), .ref 112]) (I' := I) (J' := J) rfl ?_
  refine EV_iald (j := p) C (by decide +kernel) rfl (nI_toInt (by omega)) (by omega) ?_
  refine EV_blk (own := 4) C rfl [(.istore_n 3, 0, 0, 0, 0), (.iload_n 3, 0, 0, 0, 0), (.bipush 32, 0, 0, 0, (nI 32))] (pc' := 10) (by decide +kernel) (lv' := [some (.ref 115), some (.ref 111), some (.int (nI p)), some (.int (I 112 p))]) (st' := [.int (nI 32), .int (I 112 p)]) (I' := I) (J' := J) rfl ?_
  refine EV_icmp_ne (off := 5) (tgt := 15) C (by decide +kernel) (by decide) (fun h1 => ?_) (fun h1 => ?_)
  · skip
    refine EV_blk (own := 4) C rfl [(.iload_n 3, 0, 0, 0, 0)] (pc' := 16) (by decide +kernel) (lv' := [some (.ref 115), some (.ref 111), some (.int (nI p)), some (.int (I 112 p))]) (st' := [.int (I 112 p)]) (I' := I) (J' := J) rfl ?_
    refine EV_cS (own := 4) (idx := 44) (μ' := mX4_isDigit) (av := [.int (I 112 p)]) (rest := []) C hR rfl (Or.inl ⟨814, by decide⟩) kX4_isDigit sX4_isDigit (c_X4_isDigit g rest I J (I 112 p) ) (by decide +kernel) rfl (by decide) (Nat.le_of_ble_eq_true rfl) rfl ⟨Nat.zero_le _, Nat.zero_le _⟩ ?_
    refine EV_if_eq (off := 10) (tgt := 29) C (by decide +kernel) (by decide) (fun h2 => ?_) (fun h2 => ?_)
    · skip
      refine EV_blk (own := 4) C rfl [(.iload_n 3, 0, 0, 0, 0), (.bipush 47, 0, 0, 0, (nI 47))] (pc' := 32) (by decide +kernel) (lv' := [some (.ref 115), some (.ref 111), some (.int (nI p)), some (.int (I 112 p))]) (st' := [.int (nI 47), .int (I 112 p)]) (I' := I) (J' := J) rfl ?_
      refine EV_icmp_ne (off := 8) (tgt := 40) C (by decide +kernel) (by decide) (fun h3 => ?_) (fun h3 => ?_)
      · skip
        refine EV_blk (own := 4) C rfl [(.iload_n 3, 0, 0, 0, 0), (.bipush 97, 0, 0, 0, (nI 97)), (.isub, 0, 0, 0, 0)] (pc' := 44) (by decide +kernel) (lv' := [some (.ref 115), some (.ref 111), some (.int (nI p)), some (.int (I 112 p))]) (st' := [.int ((I 112 p) - (nI 97))]) (I' := I) (J' := J) rfl ?_
        refine EV_cS (own := 4) (idx := 55) (μ' := mX11_isTerrain) (av := [.int ((I 112 p) - (nI 97))]) (rest := []) C hR rfl (Or.inr ⟨830, by decide⟩) kX11_isTerrain sX11_isTerrain (c_X11_isTerrain g rest I J ((I 112 p) - (nI 97)) ) (by decide +kernel) rfl (by decide) (Nat.le_of_ble_eq_true rfl) rfl ⟨Nat.zero_le _, Nat.zero_le _⟩ ?_
        refine EV_if_eq (off := 14) (tgt := 61) C (by decide +kernel) (by decide) (fun h4 => ?_) (fun h4 => ?_)
        · skip
          refine EV_blk (own := 4) C rfl [(.iconst 0, 0, 0, 0, (nI 0))] (pc' := 62) (by decide +kernel) (lv' := [some (.ref 115), some (.ref 111), some (.int (nI p)), some (.int (I 112 p))]) (st' := [.int (nI 0)]) (I' := I) (J' := J) rfl ?_
          exact EV_iret C hZ rfl (by decide +kernel) (Nat.le_refl _) (Nat.le_refl _) ⟨tq_some (by simp only [r_X4_accept, if_neg h1, if_pos h2, if_neg h3, if_pos h4]), rfl, rfl, by simp only [I_X4_accept, if_neg h1, if_pos h2, if_neg h3, if_pos h4], rfl⟩
        · skip
          refine EV_blk (own := 4) C rfl [(.aload_n 0, 0, 0, 0, 0), (.iload_n 3, 0, 0, 0, 0), (.bipush 97, 0, 0, 0, (nI 97)), (.isub, 0, 0, 0, 0)] (pc' := 55) (by decide +kernel) (lv' := [some (.ref 115), some (.ref 111), some (.int (nI p)), some (.int (I 112 p))]) (st' := [.int ((I 112 p) - (nI 97)), .ref 115]) (I' := I) (J' := J) rfl ?_
          refine EV_cV (own := 4) (idx := 58) (μ' := mX4_acceptLetter) (b := 115) (cb := 4) (av := [.int ((I 112 p) - (nI 97))]) (rest := []) C hR rfl (Or.inl ⟨831, by decide⟩) kX4_acceptLetter sX4_acceptLetter (c_X4_acceptLetter g rest I J ((I 112 p) - (nI 97)) hI) rfl rfl (by decide +kernel) rfl (by decide) (Nat.le_of_ble_eq_true rfl) rfl ⟨Nat.zero_le _, Nat.zero_le _⟩ ?_
          refine EV_blk (own := 4) C rfl [(.goto 4, 0, 0, 0, 0)] (pc' := 62) (by decide +kernel) (lv' := [some (.ref 115), some (.ref 111), some (.int (nI p)), some (.int (I 112 p))]) (st' := [.int (r_X4_acceptLetter I ((I 112 p) - (nI 97)))]) (I' := (I_X4_acceptLetter I ((I 112 p) - (nI 97)))) (J' := J) rfl ?_
          exact EV_iret C hZ rfl (by decide +kernel) (Nat.le_refl _) (Nat.le_refl _) ⟨tq_some (by simp only [r_X4_accept, if_neg h1, if_pos h2, if_neg h3, if_neg h4]), rfl, rfl, by simp only [I_X4_accept, if_neg h1, if_pos h2, if_neg h3, if_neg h4], rfl⟩
      · skip
        refine EV_blk (own := 4) C rfl [(.aload_n 0, 0, 0, 0, 0)] (pc' := 36) (by decide +kernel) (lv' := [some (.ref 115), some (.ref 111), some (.int (nI p)), some (.int (I 112 p))]) (st' := [.ref 115]) (I' := I) (J' := J) rfl ?_
        refine EV_cV (own := 4) (idx := 51) (μ' := mX4_acceptRowEnd) (b := 115) (cb := 4) (av := []) (rest := []) C hR rfl (Or.inl ⟨822, by decide⟩) kX4_acceptRowEnd sX4_acceptRowEnd (c_X4_acceptRowEnd g rest I J  ) rfl rfl (by decide +kernel) rfl (by decide) (Nat.le_of_ble_eq_true rfl) rfl ⟨Nat.zero_le _, Nat.zero_le _⟩ ?_
        exact EV_iret C hZ rfl (by decide +kernel) (Nat.le_refl _) (Nat.le_refl _) ⟨tq_some (by simp only [r_X4_accept, if_neg h1, if_pos h2, if_pos h3]), rfl, rfl, by simp only [I_X4_accept, if_neg h1, if_pos h2, if_pos h3], rfl⟩
    · skip
      refine EV_blk (own := 4) C rfl [(.aload_n 0, 0, 0, 0, 0), (.aload_n 1, 0, 0, 0, 0), (.iload_n 2, 0, 0, 0, 0)] (pc' := 25) (by decide +kernel) (lv' := [some (.ref 115), some (.ref 111), some (.int (nI p)), some (.int (I 112 p))]) (st' := [.int (nI p), .ref 111, .ref 115]) (I' := I) (J' := J) rfl ?_
      refine EV_cV (own := 4) (idx := 48) (μ' := mX4_acceptNumber) (b := 115) (cb := 4) (av := [.ref 111, .int (nI p)]) (rest := []) C hR rfl (Or.inl ⟨818, by decide⟩) kX4_acceptNumber sX4_acceptNumber (c_X4_acceptNumber g rest I J p L hp hL hL150) rfl rfl (by decide +kernel) rfl (by decide) (Nat.le_of_ble_eq_true rfl) rfl ⟨Nat.zero_le _, Nat.zero_le _⟩ ?_
      exact EV_iret C hZ rfl (by decide +kernel) (Nat.le_refl _) (Nat.le_refl _) ⟨tq_some (by simp only [r_X4_accept, if_neg h1, if_neg h2]), rfl, rfl, by simp only [I_X4_accept, if_neg h1, if_neg h2], rfl⟩
  · skip
    refine EV_blk (own := 4) C rfl [(.iconst 1, 0, 0, 0, (nI 1))] (pc' := 14) (by decide +kernel) (lv' := [some (.ref 115), some (.ref 111), some (.int (nI p)), some (.int (I 112 p))]) (st' := [.int (nI 1)]) (I' := I) (J' := J) rfl ?_
    exact EV_iret C hZ rfl (by decide +kernel) (Nat.le_refl _) (Nat.le_refl _) ⟨tq_some (by simp only [r_X4_accept, if_pos h1]), rfl, rfl, by simp only [I_X4_accept, if_pos h1], rfl⟩
theorem fr_X4_accept (I : tq_I) (p L : Nat) {cz : Nat} (hc : cz ≠ 115 ∧ cz ≠ 116) (jz : Nat) : I_X4_accept I p L cz jz = I cz jz := by
  obtain ⟨hc0, hc1⟩ := hc
  simp only [I_X4_accept]
  (repeat' split) <;> simp (disch := first | assumption | (simp only [ne_eq] at *; simp [*])) [tq_u, tq_cp, hc0, hc1, fr_tb1, fr_tb2, fr_X8_touchBlock, fr_X8_touchAll, fr_X8_changeCorner, fr_X8_changePath, fr_cb1, fr_cb2, fr_X8_changeBlock, fr_wipe1, fr_X1_wipe, fr_sm1, fr_sm2, fr_X8_startMap, fr_X6_place, fr_mt1, fr_mt2, fr_X6_moveTo, fr_ch2, fr_X10_choose, fr_X1_take, fr_fgt1, fr_X5_forget, fr_X5_meet, fr_gat1, fr_X5_gather, fr_dl1, fr_dl2, fr_X7_drawLayers, fr_dp1, fr_X7_drawPieces, fr_dr1, fr_X7_draw, fr_X9_add, fr_ac1, fr_X9_addCell, fr_tk0, fr_tk1, fr_tk2, fr_X9_take, fr_append111, fr_append113, fr_X4_acceptRowEnd, fr_X4_acceptNumber, fr_al1, fr_X4_acceptLetter]
theorem tq_mr_rowEnd {I : tq_I} (h : tq_mr I) : tq_mr (I_X4_acceptRowEnd I) := by
  obtain ⟨h1, h2, h3, h4⟩ := h
  unfold I_X4_acceptRowEnd
  split
  · split
    · exact ⟨h1, h2, h3, h4⟩
    · split
      · rename_i hr
        have hr2 : (I 115 1).toInt < 10 := by simp (disch := omega) only [Int32.lt_iff_toInt_lt, nI_toInt] at hr; omega
        have e := (tq_incr (m := 10) h1.1 (by omega) (by decide)).1
        split
        · refine ⟨?_, ?_, ?_, ?_⟩
          · show 0 ≤ (I 115 1 + nI 1).toInt ∧ (I 115 1 + nI 1).toInt ≤ 10
            omega
          · show 0 ≤ (nI 0).toInt ∧ (nI 0).toInt ≤ 11
            decide
          · show 0 ≤ (I 115 2).toInt ∧ (I 115 2).toInt ≤ 11
            exact h2
          · exact h4
        · refine ⟨?_, ?_, h3, h4⟩
          · show 0 ≤ (I 115 1 + nI 1).toInt ∧ (I 115 1 + nI 1).toInt ≤ 10
            omega
          · show 0 ≤ (nI 0).toInt ∧ (nI 0).toInt ≤ 11
            decide
      · exact ⟨h1, h2, h3, h4⟩
  · exact ⟨h1, h2, h3, h4⟩
end
section
/-! the reader's loop -/
theorem tq_mr_put4 {I : tq_I} {v : Int32} (h : tq_mr I) (hb : ¬ tq_b ((nI 1).toInt ≤ v.toInt ∧ v.toInt ≤ (nI 11).toInt) = 0) : tq_mr (tq_u I 115 4 v) := by
  have h0 := tq_b1.mp (tq_b01.resolve_left hb)
  obtain ⟨h1, h2, h3, h4⟩ := h
  have e1 : (nI 1).toInt = 1 := by decide
  have e2 : (nI 11).toInt = 11 := by decide
  refine ⟨h1, h2, h3, ?_⟩
  show 0 ≤ v.toInt ∧ v.toInt ≤ 11
  omega
theorem tq_mr_number {I : tq_I} {p L : Nat} (h : tq_mr I) : tq_mr (I_X4_acceptNumber I p L) := by
  unfold I_X4_acceptNumber
  (repeat' split) <;> first | exact h | exact tq_mr_put4 h (by assumption)
theorem tq_mr_put {I K : tq_I} {e : Nat} (h : tq_mr I) (hK : ∀ j, K 115 j = I 115 j) (he : e ≤ 11) : tq_mr (tq_u (tq_u K 115 2 (nI e)) 115 4 (nI 0)) := by
  obtain ⟨h1, h2, h3, h4⟩ := h
  refine ⟨?_, ?_, ?_, ?_⟩
  · show 0 ≤ (K 115 1).toInt ∧ (K 115 1).toInt ≤ 10
    rw [hK]; exact h1
  · show 0 ≤ (nI e).toInt ∧ (nI e).toInt ≤ 11
    rw [nI_toInt (by omega)]; omega
  · show 0 ≤ (K 115 3).toInt ∧ (K 115 3).toInt ≤ 11
    rw [hK]; exact h3
  · show 0 ≤ (nI 0).toInt ∧ (nI 0).toInt ≤ 11
    decide
theorem tq_mr_letter {I : tq_I} {t : Int32} (h : tq_mr I) : tq_mr (I_X4_acceptLetter I t) := by
  have hN : tq_N (I 115 4) ≤ 11 := by have := h.2.2.2; unfold tq_N; omega
  have hM : tq_N (I 115 2) ≤ 11 := by have := h.2.1; unfold tq_N; omega
  have h3 := h.2.2.1
  unfold I_X4_acceptLetter
  split
  · split
    · rename_i hq
      simp (disch := omega) only [Int32.le_iff_toInt_le, nI_toInt] at hq
      exact tq_mr_put h (fun j => fr_al1 _ _ _ _ (by decide) _ _ _ _) (by omega)
    · exact h
  · split
    · rename_i hq
      simp (disch := omega) only [Int32.le_iff_toInt_le, nI_toInt] at hq
      exact tq_mr_put h (fun j => fr_al1 _ _ _ _ (by decide) _ _ _ _) (by omega)
    · exact h
theorem tq_mr_accept {I : tq_I} {p L : Nat} (h : tq_mr I) : tq_mr (I_X4_accept I p L) := by
  unfold I_X4_accept
  split
  · exact h
  · split
    · split
      · exact tq_mr_rowEnd h
      · split
        · exact h
        · exact tq_mr_letter h
    · exact tq_mr_number h
theorem tq_acc_r {I : tq_I} {p L : Nat} (hp : p < L) (hL : I 111 1 = nI L) (hL150 : L ≤ 150) : r_X4_accept I p L = nI 0 ∨ r_X4_accept I p L = nI 1 ∨ (r_X4_accept I p L = nI 2 ∧ p + 2 ≤ L) := by
  have hn : r_X4_acceptNumber I p L = nI 0 ∨ r_X4_acceptNumber I p L = nI 1 ∨ (r_X4_acceptNumber I p L = nI 2 ∧ p + 2 ≤ L) := by
    unfold r_X4_acceptNumber
    split
    · split
      · split
        · exact Or.inl rfl
        · exact Or.inr (Or.inl rfl)
      · rename_i h1
        have h2 : p + 2 ≤ L := by
          rw [hL] at h1
          simp (disch := omega) only [nI_add, Int32.le_iff_toInt_le, nI_toInt] at h1
          omega
        (repeat' split) <;> first | exact Or.inl rfl | exact Or.inr (Or.inl rfl) | exact Or.inr (Or.inr ⟨rfl, h2⟩)
    · exact Or.inl rfl
  unfold r_X4_accept
  split
  · exact Or.inr (Or.inl rfl)
  · split
    · split
      · unfold r_X4_acceptRowEnd
        (repeat' split) <;> first | exact Or.inl rfl | exact Or.inr (Or.inl rfl)
      · split
        · exact Or.inl rfl
        · unfold r_X4_acceptLetter
          (repeat' split) <;> first | exact Or.inl rfl | exact Or.inr (Or.inl rfl)
    · exact hn
/-- the loop's state: the place, the store -/
def tq_foP (L : Nat) (a : Int32 × tq_I) : Prop := 0 ≤ a.1.toInt ∧ a.1.toInt ≤ (L : Int) ∧ tq_mr a.2 ∧ a.2 111 1 = nI L
theorem tq_foP_step {L : Nat} {a : Int32 × tq_I} (hL150 : L ≤ 150) (h : tq_foP L a) (h1 : ¬ a.2 111 1 ≤ a.1) (h2 : 0 < r_X4_accept a.2 (tq_N a.1) L) : tq_foP L (a.1 + r_X4_accept a.2 (tq_N a.1) L, I_X4_accept a.2 (tq_N a.1) L) ∧ a.1.toInt + 1 ≤ (a.1 + r_X4_accept a.2 (tq_N a.1) L).toInt := by
  obtain ⟨g1, g2, g3, g4⟩ := h
  have hlt : tq_N a.1 < L := by
    rw [g4] at h1
    simp (disch := omega) only [Int32.le_iff_toInt_le, nI_toInt] at h1
    exact tq_Nlt g1 (by omega)
  have e := tq_nIN g1
  have hN := tq_NI g1
  have key : ∀ k : Nat, tq_N a.1 + k ≤ L → (a.1 + nI k).toInt = a.1.toInt + k := by
    intro k hk
    rw [e, nI_add, nI_toInt (by omega), nI_toInt (by omega)]
    omega
  have hI' : tq_mr (I_X4_accept a.2 (tq_N a.1) L) := tq_mr_accept g3
  have h111 : I_X4_accept a.2 (tq_N a.1) L 111 1 = nI L := by rw [fr_X4_accept _ _ _ (by decide)]; exact g4
  rcases tq_acc_r (I := a.2) hlt g4 hL150 with q | q | ⟨q, q2⟩
  · rw [q] at h2; exact absurd h2 (by decide)
  · rw [q]
    have := key 1 (by omega)
    exact ⟨⟨by show 0 ≤ (a.1 + nI 1).toInt; omega, by show (a.1 + nI 1).toInt ≤ _; omega, hI', h111⟩, by omega⟩
  · rw [q]
    have := key 2 (by omega)
    exact ⟨⟨by show 0 ≤ (a.1 + nI 2).toInt; omega, by show (a.1 + nI 2).toInt ≤ _; omega, hI', h111⟩, by omega⟩
def f_fo1 (L : Nat) (a : Int32 × tq_I) : (Int32 × tq_I) ⊕ (Int32 × tq_I) ⊕ Unit := (if (a.2 111 1) ≤ a.1 then (.inr (.inr ())) else (if 0 < (r_X4_accept a.2 (tq_N a.1) L) then (.inl ((a.1 + (r_X4_accept a.2 (tq_N a.1) L)), (I_X4_accept a.2 (tq_N a.1) L))) else (.inr (.inl (a.1, (I_X4_accept a.2 (tq_N a.1) L))))))
def d_fo1 (L : Nat) (a : Int32 × tq_I) : Int32 × tq_I := (if (a.2 115 4) = 0 then (if (a.2 115 1) ≤ 0 then ((a.2 111 1), a.2) else (if (r_X4_isRowWhole a.2) = 0 then ((a.2 111 1), a.2) else ((-1), a.2))) else ((a.2 111 1), a.2))
set_option maxRecDepth 20000 in
theorem lp_fo1 {g : tq_G} {rest : List tq_S} {x0 : tq_X} {res : Int32} {I1 : tq_I} (C : tq_C g mX4_faultOf x0) (hR : tq_ht x0 4 0 0) (J : Int64) (hZ : tq_end g x0 (tq_ret (tq_SC ++ rest) tq_RR (some (.int res)) I1 J) 0 0) (L : Nat) (hL150 : L ≤ 150) : ∀ (n : Nat) (a : Int32 × tq_I), (L : Int) ≤ a.1.toInt + n → tq_foP L a → (res, I1) = tq_wr (f_fo1 L) (d_fo1 L) n a → EV g mX4_faultOf x0 0 0 22 [some (.ref 115), some (.ref 111), some (.int a.1), none] [] (tq_SC ++ rest) tq_RR a.2 J := by
  intro n
  induction n with
  | zero =>
    intro a hi hI hr
    refine EV_blk (own := 4) C rfl [(.iload_n 2, 0, 0, 0, 0), (.aload_n 1, 0, 0, 0, 0), (.getfield 28, 0, 1, 313, 0)] (pc' := 27) (by decide +kernel) (lv' := [some (.ref 115), some (.ref 111), some (.int a.1), none]) (st' := [.int (a.2 111 1), .int a.1]) (I' := a.2) (J' := J) rfl ?_
    refine EV_icmp_ge (off := 23) (tgt := 50) C (by decide +kernel) (by decide) (fun h1 => ?_) (fun h1 => ?_)
    · skip
      refine EV_blk (own := 4) C rfl [(.aload_n 0, 0, 0, 0, 0), (.getfield 25, 4, 4, 333, 0)] (pc' := 54) (by decide +kernel) (lv' := [some (.ref 115), some (.ref 111), some (.int a.1), none]) (st' := [.int (a.2 115 4)]) (I' := a.2) (J' := J) rfl ?_
      refine EV_if_ne (off := 21) (tgt := 75) C (by decide +kernel) (by decide) (fun h2 => ?_) (fun h2 => ?_)
      · skip
        refine EV_blk (own := 4) C rfl [(.aload_n 1, 0, 0, 0, 0), (.getfield 28, 0, 1, 313, 0)] (pc' := 79) (by decide +kernel) (lv' := [some (.ref 115), some (.ref 111), some (.int a.1), none]) (st' := [.int (a.2 111 1)]) (I' := a.2) (J' := J) rfl ?_
        exact EV_iret C hZ rfl (by decide +kernel) (Nat.le_refl _) (Nat.le_refl _) ⟨tq_some (congrArg Prod.fst (hr.trans (show (d_fo1 L) a = ((a.2 111 1), a.2) from by simp only [d_fo1, if_neg h2]))).symm, rfl, rfl, (congrArg Prod.snd (hr.trans (show (d_fo1 L) a = ((a.2 111 1), a.2) from by simp only [d_fo1, if_neg h2]))).symm, rfl⟩
      · skip
        refine EV_blk (own := 4) C rfl [(.aload_n 0, 0, 0, 0, 0), (.getfield 15, 4, 1, 328, 0)] (pc' := 61) (by decide +kernel) (lv' := [some (.ref 115), some (.ref 111), some (.int a.1), none]) (st' := [.int (a.2 115 1)]) (I' := a.2) (J' := J) rfl ?_
        refine EV_if_le (off := 14) (tgt := 75) C (by decide +kernel) (by decide) (fun h3 => ?_) (fun h3 => ?_)
        · skip
          refine EV_blk (own := 4) C rfl [(.aload_n 1, 0, 0, 0, 0), (.getfield 28, 0, 1, 313, 0)] (pc' := 79) (by decide +kernel) (lv' := [some (.ref 115), some (.ref 111), some (.int a.1), none]) (st' := [.int (a.2 111 1)]) (I' := a.2) (J' := J) rfl ?_
          exact EV_iret C hZ rfl (by decide +kernel) (Nat.le_refl _) (Nat.le_refl _) ⟨tq_some (congrArg Prod.fst (hr.trans (show (d_fo1 L) a = ((a.2 111 1), a.2) from by simp only [d_fo1, if_pos h2, if_pos h3]))).symm, rfl, rfl, (congrArg Prod.snd (hr.trans (show (d_fo1 L) a = ((a.2 111 1), a.2) from by simp only [d_fo1, if_pos h2, if_pos h3]))).symm, rfl⟩
        · skip
          refine EV_blk (own := 4) C rfl [(.aload_n 0, 0, 0, 0, 0)] (pc' := 65) (by decide +kernel) (lv' := [some (.ref 115), some (.ref 111), some (.int a.1), none]) (st' := [.ref 115]) (I' := a.2) (J' := J) rfl ?_
          refine EV_cV (own := 4) (idx := 37) (μ' := mX4_isRowWhole) (b := 115) (cb := 4) (av := []) (rest := []) C hR rfl (Or.inl ⟨826, by decide⟩) kX4_isRowWhole sX4_isRowWhole (c_X4_isRowWhole g rest a.2 J  ) rfl rfl (by decide +kernel) rfl (by decide) (Nat.le_of_ble_eq_true rfl) rfl ⟨Nat.zero_le _, Nat.zero_le _⟩ ?_
          refine EV_if_eq (off := 7) (tgt := 75) C (by decide +kernel) (by decide) (fun h4 => ?_) (fun h4 => ?_)
          · skip
            refine EV_blk (own := 4) C rfl [(.aload_n 1, 0, 0, 0, 0), (.getfield 28, 0, 1, 313, 0)] (pc' := 79) (by decide +kernel) (lv' := [some (.ref 115), some (.ref 111), some (.int a.1), none]) (st' := [.int (a.2 111 1)]) (I' := a.2) (J' := J) rfl ?_
            exact EV_iret C hZ rfl (by decide +kernel) (Nat.le_refl _) (Nat.le_refl _) ⟨tq_some (congrArg Prod.fst (hr.trans (show (d_fo1 L) a = ((a.2 111 1), a.2) from by simp only [d_fo1, if_pos h2, if_neg h3, if_pos h4]))).symm, rfl, rfl, (congrArg Prod.snd (hr.trans (show (d_fo1 L) a = ((a.2 111 1), a.2) from by simp only [d_fo1, if_pos h2, if_neg h3, if_pos h4]))).symm, rfl⟩
          · skip
            refine EV_blk (own := 4) C rfl [(.iconst (-1), 0, 0, 0, (-1)), (.goto 7, 0, 0, 0, 0)] (pc' := 79) (by decide +kernel) (lv' := [some (.ref 115), some (.ref 111), some (.int a.1), none]) (st' := [.int (-1)]) (I' := a.2) (J' := J) rfl ?_
            exact EV_iret C hZ rfl (by decide +kernel) (Nat.le_refl _) (Nat.le_refl _) ⟨tq_some (congrArg Prod.fst (hr.trans (show (d_fo1 L) a = ((-1), a.2) from by simp only [d_fo1, if_pos h2, if_neg h3, if_neg h4]))).symm, rfl, rfl, (congrArg Prod.snd (hr.trans (show (d_fo1 L) a = ((-1), a.2) from by simp only [d_fo1, if_pos h2, if_neg h3, if_neg h4]))).symm, rfl⟩
    · skip
      exact absurd (by rw [hI.2.2.2]; have := hI.2.1; simp (disch := omega) only [Int32.le_iff_toInt_le, nI_toInt]; omega) h1
  | succ n ih =>
    intro a hi hI hr
    refine EV_blk (own := 4) C rfl [(.iload_n 2, 0, 0, 0, 0), (.aload_n 1, 0, 0, 0, 0), (.getfield 28, 0, 1, 313, 0)] (pc' := 27) (by decide +kernel) (lv' := [some (.ref 115), some (.ref 111), some (.int a.1), none]) (st' := [.int (a.2 111 1), .int a.1]) (I' := a.2) (J' := J) rfl ?_
    refine EV_icmp_ge (off := 23) (tgt := 50) C (by decide +kernel) (by decide) (fun h1 => ?_) (fun h1 => ?_)
    · skip
      refine EV_blk (own := 4) C rfl [(.aload_n 0, 0, 0, 0, 0), (.getfield 25, 4, 4, 333, 0)] (pc' := 54) (by decide +kernel) (lv' := [some (.ref 115), some (.ref 111), some (.int a.1), none]) (st' := [.int (a.2 115 4)]) (I' := a.2) (J' := J) rfl ?_
      refine EV_if_ne (off := 21) (tgt := 75) C (by decide +kernel) (by decide) (fun h2 => ?_) (fun h2 => ?_)
      · skip
        refine EV_blk (own := 4) C rfl [(.aload_n 1, 0, 0, 0, 0), (.getfield 28, 0, 1, 313, 0)] (pc' := 79) (by decide +kernel) (lv' := [some (.ref 115), some (.ref 111), some (.int a.1), none]) (st' := [.int (a.2 111 1)]) (I' := a.2) (J' := J) rfl ?_
        exact EV_iret C hZ rfl (by decide +kernel) (Nat.le_refl _) (Nat.le_refl _) ⟨tq_some (congrArg Prod.fst (hr.trans ((tq_wr_x (show (f_fo1 L) a = .inr (.inr ()) from by simp only [f_fo1, if_pos h1])).trans (show (d_fo1 L) a = ((a.2 111 1), a.2) from by simp only [d_fo1, if_neg h2])))).symm, rfl, rfl, (congrArg Prod.snd (hr.trans ((tq_wr_x (show (f_fo1 L) a = .inr (.inr ()) from by simp only [f_fo1, if_pos h1])).trans (show (d_fo1 L) a = ((a.2 111 1), a.2) from by simp only [d_fo1, if_neg h2])))).symm, rfl⟩
      · skip
        refine EV_blk (own := 4) C rfl [(.aload_n 0, 0, 0, 0, 0), (.getfield 15, 4, 1, 328, 0)] (pc' := 61) (by decide +kernel) (lv' := [some (.ref 115), some (.ref 111), some (.int a.1), none]) (st' := [.int (a.2 115 1)]) (I' := a.2) (J' := J) rfl ?_
        refine EV_if_le (off := 14) (tgt := 75) C (by decide +kernel) (by decide) (fun h3 => ?_) (fun h3 => ?_)
        · skip
          refine EV_blk (own := 4) C rfl [(.aload_n 1, 0, 0, 0, 0), (.getfield 28, 0, 1, 313, 0)] (pc' := 79) (by decide +kernel) (lv' := [some (.ref 115), some (.ref 111), some (.int a.1), none]) (st' := [.int (a.2 111 1)]) (I' := a.2) (J' := J) rfl ?_
          exact EV_iret C hZ rfl (by decide +kernel) (Nat.le_refl _) (Nat.le_refl _) ⟨tq_some (congrArg Prod.fst (hr.trans ((tq_wr_x (show (f_fo1 L) a = .inr (.inr ()) from by simp only [f_fo1, if_pos h1])).trans (show (d_fo1 L) a = ((a.2 111 1), a.2) from by simp only [d_fo1, if_pos h2, if_pos h3])))).symm, rfl, rfl, (congrArg Prod.snd (hr.trans ((tq_wr_x (show (f_fo1 L) a = .inr (.inr ()) from by simp only [f_fo1, if_pos h1])).trans (show (d_fo1 L) a = ((a.2 111 1), a.2) from by simp only [d_fo1, if_pos h2, if_pos h3])))).symm, rfl⟩
        · skip
          refine EV_blk (own := 4) C rfl [(.aload_n 0, 0, 0, 0, 0)] (pc' := 65) (by decide +kernel) (lv' := [some (.ref 115), some (.ref 111), some (.int a.1), none]) (st' := [.ref 115]) (I' := a.2) (J' := J) rfl ?_
          refine EV_cV (own := 4) (idx := 37) (μ' := mX4_isRowWhole) (b := 115) (cb := 4) (av := []) (rest := []) C hR rfl (Or.inl ⟨826, by decide⟩) kX4_isRowWhole sX4_isRowWhole (c_X4_isRowWhole g rest a.2 J  ) rfl rfl (by decide +kernel) rfl (by decide) (Nat.le_of_ble_eq_true rfl) rfl ⟨Nat.zero_le _, Nat.zero_le _⟩ ?_
          refine EV_if_eq (off := 7) (tgt := 75) C (by decide +kernel) (by decide) (fun h4 => ?_) (fun h4 => ?_)
          · skip
            refine EV_blk (own := 4) C rfl [(.aload_n 1, 0, 0, 0, 0), (.getfield 28, 0, 1, 313, 0)] (pc' := 79) (by decide +kernel) (lv' := [some (.ref 115), some (.ref 111), some (.int a.1), none]) (st' := [.int (a.2 111 1)]) (I' := a.2) (J' := J) rfl ?_
            exact EV_iret C hZ rfl (by decide +kernel) (Nat.le_refl _) (Nat.le_refl _) ⟨tq_some (congrArg Prod.fst (hr.trans ((tq_wr_x (show (f_fo1 L) a = .inr (.inr ()) from by simp only [f_fo1, if_pos h1])).trans (show (d_fo1 L) a = ((a.2 111 1), a.2) from by simp only [d_fo1, if_pos h2, if_neg h3, if_pos h4])))).symm, rfl, rfl, (congrArg Prod.snd (hr.trans ((tq_wr_x (show (f_fo1 L) a = .inr (.inr ()) from by simp only [f_fo1, if_pos h1])).trans (show (d_fo1 L) a = ((a.2 111 1), a.2) from by simp only [d_fo1, if_pos h2, if_neg h3, if_pos h4])))).symm, rfl⟩
          · skip
            refine EV_blk (own := 4) C rfl [(.iconst (-1), 0, 0, 0, (-1)), (.goto 7, 0, 0, 0, 0)] (pc' := 79) (by decide +kernel) (lv' := [some (.ref 115), some (.ref 111), some (.int a.1), none]) (st' := [.int (-1)]) (I' := a.2) (J' := J) rfl ?_
            exact EV_iret C hZ rfl (by decide +kernel) (Nat.le_refl _) (Nat.le_refl _) ⟨tq_some (congrArg Prod.fst (hr.trans ((tq_wr_x (show (f_fo1 L) a = .inr (.inr ()) from by simp only [f_fo1, if_pos h1])).trans (show (d_fo1 L) a = ((-1), a.2) from by simp only [d_fo1, if_pos h2, if_neg h3, if_neg h4])))).symm, rfl, rfl, (congrArg Prod.snd (hr.trans ((tq_wr_x (show (f_fo1 L) a = .inr (.inr ()) from by simp only [f_fo1, if_pos h1])).trans (show (d_fo1 L) a = ((-1), a.2) from by simp only [d_fo1, if_pos h2, if_neg h3, if_neg h4])))).symm, rfl⟩
    · skip
      refine EV_blk (own := 4) C rfl [(.aload_n 0, 0, 0, 0, 0), (.aload_n 1, 0, 0, 0, 0), (.iload_n 2, 0, 0, 0, 0)] (pc' := 33) (by decide +kernel) (lv' := [some (.ref 115), some (.ref 111), some (.int a.1), none]) (st' := [.int a.1, .ref 111, .ref 115]) (I' := a.2) (J' := J) rfl ?_
      refine EV_ste (st' := [.int (nI (tq_N a.1)), .ref 111, .ref 115]) (by rw [← tq_nIN hI.1]) ?_
      have hlt : tq_N a.1 < L := by
        have hq := h1
        rw [hI.2.2.2] at hq
        simp (disch := omega) only [Int32.le_iff_toInt_le, nI_toInt] at hq
        exact tq_Nlt hI.1 (by omega)
      refine EV_cV (own := 4) (idx := 33) (μ' := mX4_accept) (b := 115) (cb := 4) (av := [.ref 111, .int (nI (tq_N a.1))]) (rest := []) C hR rfl (Or.inl ⟨810, by decide⟩) kX4_accept sX4_accept (c_X4_accept g rest a.2 J (tq_N a.1) L hlt hI.2.2.2 hL150 hI.2.2.1) rfl rfl (by decide +kernel) rfl (by decide) (Nat.le_of_ble_eq_true rfl) rfl ⟨Nat.zero_le _, Nat.zero_le _⟩ ?_
      refine EV_blk (own := 4) C rfl [(.istore_n 3, 0, 0, 0, 0), (.iload_n 3, 0, 0, 0, 0)] (pc' := 38) (by decide +kernel) (lv' := [some (.ref 115), some (.ref 111), some (.int a.1), some (.int (r_X4_accept a.2 (tq_N a.1) L))]) (st' := [.int (r_X4_accept a.2 (tq_N a.1) L)]) (I' := (I_X4_accept a.2 (tq_N a.1) L)) (J' := J) rfl ?_
      refine EV_if_gt (off := 5) (tgt := 43) C (by decide +kernel) (by decide) (fun hg => ?_) (fun hg => ?_)
      · skip
        refine EV_blk (own := 4) C rfl [(.iload_n 2, 0, 0, 0, 0), (.iload_n 3, 0, 0, 0, 0), (.iadd, 0, 0, 0, 0), (.istore_n 2, 0, 0, 0, 0), (.goto (-25), 0, 0, 0, 0)] (pc' := 22) (by decide +kernel) (lv' := [some (.ref 115), some (.ref 111), some (.int (a.1 + (r_X4_accept a.2 (tq_N a.1) L))), some (.int (r_X4_accept a.2 (tq_N a.1) L))]) (st' := []) (I' := (I_X4_accept a.2 (tq_N a.1) L)) (J' := J) rfl ?_
        refine EV_fg (lv' := [some (.ref 115), some (.ref 111), some (.int (a.1 + (r_X4_accept a.2 (tq_N a.1) L))), none]) ⟨rfl, rfl, rfl, trivial⟩ ?_
        exact ih ((a.1 + (r_X4_accept a.2 (tq_N a.1) L)), (I_X4_accept a.2 (tq_N a.1) L)) (by have := (tq_foP_step hL150 hI h1 hg).2; simp only; omega) (tq_foP_step hL150 hI h1 hg).1 (hr.trans (tq_wr_c (show (f_fo1 L) a = .inl ((a.1 + (r_X4_accept a.2 (tq_N a.1) L)), (I_X4_accept a.2 (tq_N a.1) L)) from by simp only [f_fo1, if_neg h1, if_pos hg])))
      · skip
        refine EV_blk (own := 4) C rfl [(.iload_n 2, 0, 0, 0, 0)] (pc' := 42) (by decide +kernel) (lv' := [some (.ref 115), some (.ref 111), some (.int a.1), some (.int (r_X4_accept a.2 (tq_N a.1) L))]) (st' := [.int a.1]) (I' := (I_X4_accept a.2 (tq_N a.1) L)) (J' := J) rfl ?_
        exact EV_iret C hZ rfl (by decide +kernel) (Nat.le_refl _) (Nat.le_refl _) ⟨tq_some (congrArg Prod.fst (hr.trans (tq_wr_r (show (f_fo1 L) a = .inr (.inl (a.1, (I_X4_accept a.2 (tq_N a.1) L))) from by simp only [f_fo1, if_neg h1, if_neg hg])))).symm, rfl, rfl, (congrArg Prod.snd (hr.trans (tq_wr_r (show (f_fo1 L) a = .inr (.inl (a.1, (I_X4_accept a.2 (tq_N a.1) L))) from by simp only [f_fo1, if_neg h1, if_neg hg])))).symm, rfl⟩
theorem tq_fo0 {I : tq_I} {L : Nat} (hL : I 111 1 = nI L) : tq_foP L (nI 0, tq_u (tq_u (tq_u (tq_u I 115 1 (nI 0)) 115 2 (nI 0)) 115 3 (nI 0)) 115 4 (nI 0)) := by
  refine ⟨by show 0 ≤ (nI 0).toInt; decide, by show (nI 0).toInt ≤ _; rw [nI_toInt (by decide)]; omega, ⟨?_, ?_, ?_, ?_⟩, hL⟩
  · show 0 ≤ (nI 0).toInt ∧ (nI 0).toInt ≤ 10
    decide
  · show 0 ≤ (nI 0).toInt ∧ (nI 0).toInt ≤ 11
    decide
  · show 0 ≤ (nI 0).toInt ∧ (nI 0).toInt ≤ 11
    decide
  · show 0 ≤ (nI 0).toInt ∧ (nI 0).toInt ≤ 11
    decide
def r_X4_faultOf (I : tq_I) (L : Nat) : Int32 := (tq_wr (f_fo1 L) (d_fo1 L) L ((nI 0), (tq_u (tq_u (tq_u (tq_u I 115 1 (nI 0)) 115 2 (nI 0)) 115 3 (nI 0)) 115 4 (nI 0)))).1
def I_X4_faultOf (I : tq_I) (L : Nat) : tq_I := (tq_wr (f_fo1 L) (d_fo1 L) L ((nI 0), (tq_u (tq_u (tq_u (tq_u I 115 1 (nI 0)) 115 2 (nI 0)) 115 3 (nI 0)) 115 4 (nI 0)))).2
set_option maxRecDepth 20000 in
theorem c_X4_faultOf (g : tq_G) (rest : List tq_S) (I : tq_I) (J : Int64) (L : Nat) (hL : I 111 1 = nI L) (hL150 : L ≤ 150) : CT g mX4_faultOf 4 0 0 [.ref 115, .ref 111] (tq_SC ++ rest) tq_RR I J (tq_ret (tq_SC ++ rest) tq_RR (some (.int (r_X4_faultOf I L))) (I_X4_faultOf I L) J) := by
  refine CT.ret kX4_faultOf (Nat.le_of_ble_eq_true rfl) (fun x0 C hR hZ => ?_)
  refine EV_en (lv' := [some (.ref 115), some (.ref 111), none, none]) 2 rfl ?_
  refine EV_blk (own := 4) C rfl [(.aload_n 0, 0, 0, 0, 0), (.iconst 0, 0, 0, 0, (nI 0)), (.putfield 15, 4, 1, 328, 0), (.aload_n 0, 0, 0, 0, 0), (.iconst 0, 0, 0, 0, (nI 0)), (.putfield 19, 4, 2, 330, 0), (.aload_n 0, 0, 0, 0, 0), (.iconst 0, 0, 0, 0, (nI 0)), (.putfield 22, 4, 3, 331, 0), (.aload_n 0, 0, 0, 0, 0), (.iconst 0, 0, 0, 0, (nI 0)), (.putfield 25, 4, 4, 333, 0), (.iconst 0, 0, 0, 0, (nI 0)), (.istore_n 2, 0, 0, 0, 0)] (pc' := 22) (by decide +kernel) (lv' := [some (.ref 115), some (.ref 111), some (.int (nI 0)), none]) (st' := []) (I' := (tq_u (tq_u (tq_u (tq_u I 115 1 (nI 0)) 115 2 (nI 0)) 115 3 (nI 0)) 115 4 (nI 0))) (J' := J) rfl ?_
  exact lp_fo1 C hR J hZ L hL150 L ((nI 0), (tq_u (tq_u (tq_u (tq_u I 115 1 (nI 0)) 115 2 (nI 0)) 115 3 (nI 0)) 115 4 (nI 0))) (by show (L : Int) ≤ (nI 0).toInt + L; rw [nI_toInt (by decide)]; omega) (tq_fo0 hL) (show (r_X4_faultOf I L, I_X4_faultOf I L) = (tq_wr (f_fo1 L) (d_fo1 L) L ((nI 0), (tq_u (tq_u (tq_u (tq_u I 115 1 (nI 0)) 115 2 (nI 0)) 115 3 (nI 0)) 115 4 (nI 0)))) from by simp only [r_X4_faultOf, I_X4_faultOf])
end
section
/-! when the class's cells are sound; what the history's copies leave alone -/
theorem tq_cp_cell {I : tq_I} {a sp b dp n c j : Nat} (h : c ≠ b) : tq_cp I a sp b dp n c j = I c j := by simp [tq_cp, h]
theorem tq_cpSt_cell {I : tq_I} {a b c j : Nat} (h : c < a + 1 ∨ a + 15 < c) : tq_cpSt I a b c j = I c j := by
  simp (disch := omega) only [tq_cpSt, tq_cpCanvas, tq_cpRules, tq_cpRules5, tq_cpRules4, tq_cpRules3, tq_cpTiles, tq_cpLand, tq_cp_cell, tq_u_cell]
theorem fr_rec {I : tq_I} {o c cz : Nat} (h : cz < 17 ∨ 98 < cz) (jz : Nat) : tq_rec I o c cz jz = I cz jz := by
  have hm : (o + c) % 5 < 5 := Nat.mod_lt _ (by decide)
  unfold tq_rec
  split <;> rw [tq_u_cell (by omega), tq_cpSt_cell (by omega)]
/-- the class's cells are sound: a map of w by h, the ring at o with c states, a text of L -/
def tq_ok (I : tq_I) (w h o c L : Nat) : Prop :=
  (I 2 0 = nI w ∧ I 2 1 = nI h ∧ 1 ≤ w ∧ w ≤ 10 ∧ 1 ≤ h ∧ h ≤ 10) ∧ (∀ x y, x ≤ w → y ≤ h → 0 ≤ (I 3 (y * 11 + x)).toInt ∧ (I 3 (y * 11 + x)).toInt ≤ 5) ∧ (tq_le5 (I 6) ∧ tq_le5 (I 7) ∧ (I 5 5 = 0 ∨ I 5 5 = 1)) ∧ tq_cv I ∧
  (I 17 1 = nI o ∧ I 17 2 = nI c ∧ o < 5 ∧ c ≤ 5 ∧ ∀ k, k < 5 → I (23 + 16 * k) 5 = 0 ∨ I (23 + 16 * k) 5 = 1) ∧ ((∀ k, k < 121 → 0 ≤ (I 101 k).toInt ∧ (I 101 k).toInt ≤ 120) ∧ 0 ≤ (I 99 2).toInt ∧ (I 99 2).toInt ≤ 121) ∧ (I 111 1 = nI L ∧ L ≤ 150) ∧ 0 ≤ (I 113 1).toInt ∧ (I 113 1).toInt ≤ 150
section TQO
variable {I : tq_I} {w h o c L : Nat}
theorem tq_ok.hw (k : tq_ok I w h o c L) : I 2 0 = nI w := k.1.1
theorem tq_ok.hh (k : tq_ok I w h o c L) : I 2 1 = nI h := k.1.2.1
theorem tq_ok.w1 (k : tq_ok I w h o c L) : 1 ≤ w := k.1.2.2.1
theorem tq_ok.w10 (k : tq_ok I w h o c L) : w ≤ 10 := k.1.2.2.2.1
theorem tq_ok.h1 (k : tq_ok I w h o c L) : 1 ≤ h := k.1.2.2.2.2.1
theorem tq_ok.h10 (k : tq_ok I w h o c L) : h ≤ 10 := k.1.2.2.2.2.2
theorem tq_ok.ter (k : tq_ok I w h o c L) : ∀ x y, x ≤ w → y ≤ h → 0 ≤ (I 3 (y * 11 + x)).toInt ∧ (I 3 (y * 11 + x)).toInt ≤ 5 := k.2.1
theorem tq_ok.r6 (k : tq_ok I w h o c L) : tq_le5 (I 6) := k.2.2.1.1
theorem tq_ok.r7 (k : tq_ok I w h o c L) : tq_le5 (I 7) := k.2.2.1.2.1
theorem tq_ok.bd (k : tq_ok I w h o c L) : I 5 5 = 0 ∨ I 5 5 = 1 := k.2.2.1.2.2
theorem tq_ok.cv (k : tq_ok I w h o c L) : tq_cv I := k.2.2.2.1
theorem tq_ok.ho (k : tq_ok I w h o c L) : I 17 1 = nI o := k.2.2.2.2.1.1
theorem tq_ok.hc (k : tq_ok I w h o c L) : I 17 2 = nI c := k.2.2.2.2.1.2.1
theorem tq_ok.o5 (k : tq_ok I w h o c L) : o < 5 := k.2.2.2.2.1.2.2.1
theorem tq_ok.c5 (k : tq_ok I w h o c L) : c ≤ 5 := k.2.2.2.2.1.2.2.2.1
theorem tq_ok.hbd (k : tq_ok I w h o c L) : ∀ k, k < 5 → I (23 + 16 * k) 5 = 0 ∨ I (23 + 16 * k) 5 = 1 := k.2.2.2.2.1.2.2.2.2
theorem tq_ok.fnd (k : tq_ok I w h o c L) : ∀ k, k < 121 → 0 ≤ (I 101 k).toInt ∧ (I 101 k).toInt ≤ 120 := k.2.2.2.2.2.1.1
theorem tq_ok.rct (k : tq_ok I w h o c L) : 0 ≤ (I 99 2).toInt ∧ (I 99 2).toInt ≤ 121 := k.2.2.2.2.2.1.2
theorem tq_ok.hL (k : tq_ok I w h o c L) : I 111 1 = nI L := k.2.2.2.2.2.2.1.1
theorem tq_ok.L150 (k : tq_ok I w h o c L) : L ≤ 150 := k.2.2.2.2.2.2.1.2
theorem tq_ok.out (k : tq_ok I w h o c L) : 0 ≤ (I 113 1).toInt ∧ (I 113 1).toInt ≤ 150 := k.2.2.2.2.2.2.2
theorem tq_ok.wi (k : tq_ok I w h o c L) : (I 2 0).toInt ≤ 10 := by rw [k.hw, nI_toInt (by have := k.w10; omega)]; have := k.w10; omega
theorem tq_ok.hi (k : tq_ok I w h o c L) : (I 2 1).toInt ≤ 10 := by rw [k.hh, nI_toInt (by have := k.h10; omega)]; have := k.h10; omega
theorem tq_ok.wh (k : tq_ok I w h o c L) : (I 2 0).toInt ≤ 10 ∧ (I 2 1).toInt ≤ 10 := ⟨k.wi, k.hi⟩
theorem tq_ok.rg (k : tq_ok I w h o c L) : tq_rg I := ⟨k.fnd, k.rct.1, k.rct.2, k.wi, k.hi⟩
theorem tq_ok.cell (k : tq_ok I w h o c L) {x y : Int32} (q : tq_cell I x y) : tq_N x < w ∧ tq_N y < h ∧ tq_N x ≤ 9 ∧ tq_N y ≤ 9 := by
  obtain ⟨q1, q2, q3, q4⟩ := q
  have h1 := k.w10
  have h2 := k.h10
  rw [k.hw, nI_toInt (by omega)] at q2
  rw [k.hh, nI_toInt (by omega)] at q4
  unfold tq_N
  omega
theorem tq_ok.corner (k : tq_ok I w h o c L) {x y : Int32} (q : tq_corner I x y) : tq_N x ≤ w ∧ tq_N y ≤ h ∧ tq_N x ≤ 10 ∧ tq_N y ≤ 10 := by
  obtain ⟨q1, q2, q3, q4⟩ := q
  have h1 := k.w10
  have h2 := k.h10
  rw [k.hw, nI_toInt (by omega)] at q2
  rw [k.hh, nI_toInt (by omega)] at q4
  unfold tq_N
  omega
/-- the four corners of a cell -/
theorem tq_ok.hT (k : tq_ok I w h o c L) {x y : Nat} (hx : x < w) (hy : y < h) : ∀ i, i < 4 → 0 ≤ (I 3 ((y + i / 2) * 11 + (x + i % 2))).toInt ∧ (I 3 ((y + i / 2) * 11 + (x + i % 2))).toInt ≤ 5 := fun i hi => k.ter (x + i % 2) (y + i / 2) (by omega) (by omega)
end TQO
/-- the cells that soundness speaks of, beside the history, are as they were -/
theorem tq_ok.same {I K : tq_I} {w h o c o' c' L : Nat} (k : tq_ok I w h o c L) (hn : ∀ cz jz, (cz < 17 ∨ 98 < cz) → K cz jz = I cz jz) (h1 : K 17 1 = nI o') (h2 : K 17 2 = nI c') (h3 : o' < 5) (h4 : c' ≤ 5) (h5 : ∀ k, k < 5 → K (23 + 16 * k) 5 = 0 ∨ K (23 + 16 * k) 5 = 1) : tq_ok K w h o' c' L := by
  have e : ∀ cz, (cz < 17 ∨ 98 < cz) → K cz = I cz := fun cz hz => funext fun jz => hn cz jz hz
  refine ⟨?_, ?_, ?_, ?_, ⟨h1, h2, h3, h4, h5⟩, ?_, ?_, ?_⟩
  · rw [e 2 (by omega)]; exact k.1
  · rw [e 3 (by omega)]; exact k.2.1
  · rw [e 6 (by omega), e 7 (by omega), e 5 (by omega)]; exact k.2.2.1
  · unfold tq_cv
    rw [e 13 (by omega), e 14 (by omega)]; exact k.cv
  · rw [e 101 (by omega), e 99 (by omega)]; exact k.2.2.2.2.2.1
  · rw [e 111 (by omega)]; exact k.2.2.2.2.2.2.1
  · rw [e 113 (by omega)]; exact k.2.2.2.2.2.2.2
def tq_o1 (o c : Nat) : Nat := if c < 5 then o else (o + 1) % 5
def tq_c1n (c : Nat) : Nat := if c < 5 then c + 1 else c
theorem tq_cpSt_bd {I : tq_I} {m k : Nat} (hk : k < 5) (h1 : I 5 5 = 0 ∨ I 5 5 = 1) (h2 : ∀ k, k < 5 → I (23 + 16 * k) 5 = 0 ∨ I (23 + 16 * k) 5 = 1) : tq_cpSt I (19 + 16 * m) 1 (23 + 16 * k) 5 = 0 ∨ tq_cpSt I (19 + 16 * m) 1 (23 + 16 * k) 5 = 1 := by
  by_cases hm : k = m
  · subst hm
    have e : tq_cpSt I (19 + 16 * k) 1 (23 + 16 * k) 5 = I 5 5 := by
      have e1 : 23 + 16 * k = 19 + 16 * k + 4 := by omega
      rw [e1]
      simp (disch := omega) only [tq_cpSt, tq_cpCanvas, tq_cpRules, tq_cp_cell, tq_u_same]
      simp (disch := omega) only [tq_cpRules5, tq_cpRules4, tq_cpRules3, tq_cpTiles, tq_cpLand, tq_cp_cell, tq_u_cell]
    rw [e]; exact h1
  · rw [tq_cpSt_cell (by omega)]
    exact h2 k hk
theorem tq_ok.rec {I : tq_I} {w h o c L : Nat} (k : tq_ok I w h o c L) : tq_ok (tq_rec I o c) w h (tq_o1 o c) (tq_c1n c) L := by
  have h5 := k.c5
  have h6 := k.o5
  have hm : (o + c) % 5 < 5 := Nat.mod_lt _ (by decide)
  refine k.same (fun cz jz hz => fr_rec hz jz) ?_ ?_ ?_ ?_ (fun m hm => ?_)
  · unfold tq_rec tq_o1
    split
    · rw [tq_u_slot (by decide), tq_cpSt_cell (by omega)]; exact k.ho
    · rw [tq_u_same]
  · unfold tq_rec tq_c1n
    split
    · rw [tq_u_same]
    · rw [tq_u_slot (by decide), tq_cpSt_cell (by omega)]; exact k.hc
  · unfold tq_o1; split <;> omega
  · unfold tq_c1n; split <;> omega
  · unfold tq_rec
    split <;> rw [tq_u_cell (by omega)] <;> exact tq_cpSt_bd hm k.bd k.hbd
end
section
/-! TerrainTiler's own methods, one after the other -/
theorem tq_swo {v : Int32} {n : Nat} (hn : n < 1000) (h : ∀ k, k ≤ n → ¬ v = nI k) : v.toInt < 0 ∨ (n : Int) < v.toInt := by
  by_cases h0 : v.toInt < 0
  · exact Or.inl h0
  · right
    have e := tq_nIN (show 0 ≤ v.toInt by omega)
    have e2 := tq_NI (show 0 ≤ v.toInt by omega)
    by_cases hk : tq_N v ≤ n
    · exact absurd e (h _ hk)
    · omega
theorem tq_b10 {p : Prop} [Decidable p] (h : ¬ tq_b p = 0) : p := tq_b1.mp (tq_b01.resolve_left h)
def r_X11_corner (I : tq_I) (x y : Int32) (w h o c L : Nat) : Int32 := (if (tq_b (tq_corner I x y)) = 0 then (-2) else (I 3 ((tq_N y) * 11 + (tq_N x))))
set_option maxRecDepth 20000 in
theorem c_X11_corner (g : tq_G) (rest : List tq_S) (I : tq_I) (J : Int64) (x y : Int32) (w h o c L : Nat) (k : tq_ok I w h o c L) : CT g mX11_corner 2 0 0 [.ref 0, .int x, .int y] (tq_SC ++ rest) tq_RR I J (tq_ret (tq_SC ++ rest) tq_RR (some (.int (r_X11_corner I x y w h o c L))) I J) := by
  refine CT.ret kX11_corner (Nat.le_of_ble_eq_true rfl) (fun x0 C hR hZ => ?_)
  refine EV_en (lv' := [some (.ref 0), some (.int x), some (.int y)]) 0 rfl ?_
  refine EV_blk (own := 11) C rfl [(.aload_n 0, 0, 0, 0, 0), (.getfield 12, 11, 0, 368, 0), (.getfield 77, 8, 0, 193, 0), (.iload_n 1, 0, 0, 0, 0), (.iload_n 2, 0, 0, 0, 0)] (pc' := 9) (by decide +kernel) (lv' := [some (.ref 0), some (.int x), some (.int y)]) (st' := [.int y, .int x, .ref 2]) (I' := I) (J' := J) rfl ?_
  refine EV_cV (own := 11) (idx := 94) (μ' := mX3_isCorner) (b := 2) (cb := 3) (av := [.int x, .int y]) (rest := []) C hR rfl (Or.inl ⟨450, by decide⟩) kX3_isCorner sX3_isCorner (c_X3_isCorner g rest I J x y ) rfl rfl (by decide +kernel) rfl (by decide) (Nat.le_of_ble_eq_true rfl) rfl ⟨Nat.zero_le _, Nat.zero_le _⟩ ?_
  refine EV_if_eq (off := 18) (tgt := 30) C (by decide +kernel) (by decide) (fun h1 => ?_) (fun h1 => ?_)
  · skip
    refine EV_blk (own := 11) C rfl [(.bipush (-2), 0, 0, 0, (-2))] (pc' := 32) (by decide +kernel) (lv' := [some (.ref 0), some (.int x), some (.int y)]) (st' := [.int (-2)]) (I' := I) (J' := J) rfl ?_
    exact EV_iret C hZ rfl (by decide +kernel) (Nat.le_refl _) (Nat.le_refl _) ⟨tq_some (by simp only [r_X11_corner, if_pos h1]), rfl, rfl, rfl, rfl⟩
  · skip
    have h0 := tq_b10 h1
    have hxy := k.corner h0
    refine EV_lve (lv' := [some (.ref 0), some (.int (nI (tq_N x))), some (.int (nI (tq_N y)))]) (by rw [← tq_nIN h0.1, ← tq_nIN h0.2.2.1]) ?_
    refine EV_blk (own := 11) C rfl [(.aload_n 0, 0, 0, 0, 0), (.getfield 12, 11, 0, 368, 0), (.getfield 77, 8, 0, 193, 0), (.iload_n 1, 0, 0, 0, 0), (.iload_n 2, 0, 0, 0, 0)] (pc' := 24) (by decide +kernel) (lv' := [some (.ref 0), some (.int (nI (tq_N x))), some (.int (nI (tq_N y)))]) (st' := [.int (nI (tq_N y)), .int (nI (tq_N x)), .ref 2]) (I' := I) (J' := J) rfl ?_
    refine EV_cV (own := 11) (idx := 98) (μ' := mX3_terrainAt) (b := 2) (cb := 3) (av := [.int (nI (tq_N x)), .int (nI (tq_N y))]) (rest := []) C hR rfl (Or.inl ⟨454, by decide⟩) kX3_terrainAt sX3_terrainAt (c_X3_terrainAt g rest I J (tq_N x) (tq_N y) (by omega) (by omega)) rfl rfl (by decide +kernel) rfl (by decide) (Nat.le_of_ble_eq_true rfl) rfl ⟨Nat.zero_le _, Nat.zero_le _⟩ ?_
    refine EV_blk (own := 11) C rfl [(.goto 5, 0, 0, 0, 0)] (pc' := 32) (by decide +kernel) (lv' := [some (.ref 0), some (.int (nI (tq_N x))), some (.int (nI (tq_N y)))]) (st' := [.int (I 3 ((tq_N y) * 11 + (tq_N x)))]) (I' := I) (J' := J) rfl ?_
    exact EV_iret C hZ rfl (by decide +kernel) (Nat.le_refl _) (Nat.le_refl _) ⟨tq_some (by simp only [r_X11_corner, if_neg h1]), rfl, rfl, rfl, rfl⟩
def r_X11_hasPath (I : tq_I) (x y : Int32) (w h o c L : Nat) : Int32 := (if (tq_b (tq_cell I x y)) = 0 then (-2) else (I 4 ((tq_N y) * 10 + (tq_N x))))
set_option maxRecDepth 20000 in
theorem c_X11_hasPath (g : tq_G) (rest : List tq_S) (I : tq_I) (J : Int64) (x y : Int32) (w h o c L : Nat) (k : tq_ok I w h o c L) : CT g mX11_hasPath 2 0 0 [.ref 0, .int x, .int y] (tq_SC ++ rest) tq_RR I J (tq_ret (tq_SC ++ rest) tq_RR (some (.int (r_X11_hasPath I x y w h o c L))) I J) := by
  refine CT.ret kX11_hasPath (Nat.le_of_ble_eq_true rfl) (fun x0 C hR hZ => ?_)
  refine EV_en (lv' := [some (.ref 0), some (.int x), some (.int y)]) 0 rfl ?_
  refine EV_blk (own := 11) C rfl [(.aload_n 0, 0, 0, 0, 0), (.getfield 12, 11, 0, 368, 0), (.getfield 77, 8, 0, 193, 0), (.iload_n 1, 0, 0, 0, 0), (.iload_n 2, 0, 0, 0, 0)] (pc' := 9) (by decide +kernel) (lv' := [some (.ref 0), some (.int x), some (.int y)]) (st' := [.int y, .int x, .ref 2]) (I' := I) (J' := J) rfl ?_
  refine EV_cV (own := 11) (idx := 153) (μ' := mX3_isCell) (b := 2) (cb := 3) (av := [.int x, .int y]) (rest := []) C hR rfl (Or.inl ⟨543, by decide⟩) kX3_isCell sX3_isCell (c_X3_isCell g rest I J x y ) rfl rfl (by decide +kernel) rfl (by decide) (Nat.le_of_ble_eq_true rfl) rfl ⟨Nat.zero_le _, Nat.zero_le _⟩ ?_
  refine EV_if_eq (off := 18) (tgt := 30) C (by decide +kernel) (by decide) (fun h1 => ?_) (fun h1 => ?_)
  · skip
    refine EV_blk (own := 11) C rfl [(.bipush (-2), 0, 0, 0, (-2))] (pc' := 32) (by decide +kernel) (lv' := [some (.ref 0), some (.int x), some (.int y)]) (st' := [.int (-2)]) (I' := I) (J' := J) rfl ?_
    exact EV_iret C hZ rfl (by decide +kernel) (Nat.le_refl _) (Nat.le_refl _) ⟨tq_some (by simp only [r_X11_hasPath, if_pos h1]), rfl, rfl, rfl, rfl⟩
  · skip
    have h0 := tq_b10 h1
    have hxy := k.cell h0
    refine EV_lve (lv' := [some (.ref 0), some (.int (nI (tq_N x))), some (.int (nI (tq_N y)))]) (by rw [← tq_nIN h0.1, ← tq_nIN h0.2.2.1]) ?_
    refine EV_blk (own := 11) C rfl [(.aload_n 0, 0, 0, 0, 0), (.getfield 12, 11, 0, 368, 0), (.getfield 77, 8, 0, 193, 0), (.iload_n 1, 0, 0, 0, 0), (.iload_n 2, 0, 0, 0, 0)] (pc' := 24) (by decide +kernel) (lv' := [some (.ref 0), some (.int (nI (tq_N x))), some (.int (nI (tq_N y)))]) (st' := [.int (nI (tq_N y)), .int (nI (tq_N x)), .ref 2]) (I' := I) (J' := J) rfl ?_
    refine EV_cV (own := 11) (idx := 156) (μ' := mX3_pathAt) (b := 2) (cb := 3) (av := [.int (nI (tq_N x)), .int (nI (tq_N y))]) (rest := []) C hR rfl (Or.inl ⟨544, by decide⟩) kX3_pathAt sX3_pathAt (c_X3_pathAt g rest I J (tq_N x) (tq_N y) (by omega) (by omega)) rfl rfl (by decide +kernel) rfl (by decide) (Nat.le_of_ble_eq_true rfl) rfl ⟨Nat.zero_le _, Nat.zero_le _⟩ ?_
    refine EV_blk (own := 11) C rfl [(.goto 5, 0, 0, 0, 0)] (pc' := 32) (by decide +kernel) (lv' := [some (.ref 0), some (.int (nI (tq_N x))), some (.int (nI (tq_N y)))]) (st' := [.int (I 4 ((tq_N y) * 10 + (tq_N x)))]) (I' := I) (J' := J) rfl ?_
    exact EV_iret C hZ rfl (by decide +kernel) (Nat.le_refl _) (Nat.le_refl _) ⟨tq_some (by simp only [r_X11_hasPath, if_neg h1]), rfl, rfl, rfl, rfl⟩
def r_X11_pathMask (I : tq_I) (x y : Int32) (w h o c L : Nat) : Int32 := (if (tq_b (tq_cell I x y)) = 0 then (-2) else (if (I 4 ((tq_N y) * 10 + (tq_N x))) = (nI 1) then (r_X3_pathMaskAt I (tq_N x) (tq_N y) (I 5 5)) else (-1)))
set_option maxRecDepth 20000 in
theorem c_X11_pathMask (g : tq_G) (rest : List tq_S) (I : tq_I) (J : Int64) (x y : Int32) (w h o c L : Nat) (k : tq_ok I w h o c L) : CT g mX11_pathMask 3 0 0 [.ref 0, .int x, .int y] (tq_SC ++ rest) tq_RR I J (tq_ret (tq_SC ++ rest) tq_RR (some (.int (r_X11_pathMask I x y w h o c L))) I J) := by
  refine CT.ret kX11_pathMask (Nat.le_of_ble_eq_true rfl) (fun x0 C hR hZ => ?_)
  refine EV_en (lv' := [some (.ref 0), some (.int x), some (.int y)]) 0 rfl ?_
  refine EV_blk (own := 11) C rfl [(.aload_n 0, 0, 0, 0, 0), (.getfield 12, 11, 0, 368, 0), (.getfield 77, 8, 0, 193, 0), (.iload_n 1, 0, 0, 0, 0), (.iload_n 2, 0, 0, 0, 0)] (pc' := 9) (by decide +kernel) (lv' := [some (.ref 0), some (.int x), some (.int y)]) (st' := [.int y, .int x, .ref 2]) (I' := I) (J' := J) rfl ?_
  refine EV_cV (own := 11) (idx := 153) (μ' := mX3_isCell) (b := 2) (cb := 3) (av := [.int x, .int y]) (rest := []) C hR rfl (Or.inl ⟨543, by decide⟩) kX3_isCell sX3_isCell (c_X3_isCell g rest I J x y ) rfl rfl (by decide +kernel) rfl (by decide) (Nat.le_of_ble_eq_true rfl) rfl ⟨Nat.zero_le _, Nat.zero_le _⟩ ?_
  refine EV_if_ne (off := 6) (tgt := 18) C (by decide +kernel) (by decide) (fun h1 => ?_) (fun h1 => ?_)
  · skip
    have h0 := tq_b10 h1
    have hxy := k.cell h0
    refine EV_lve (lv' := [some (.ref 0), some (.int (nI (tq_N x))), some (.int (nI (tq_N y)))]) (by rw [← tq_nIN h0.1, ← tq_nIN h0.2.2.1]) ?_
    refine EV_blk (own := 11) C rfl [(.aload_n 0, 0, 0, 0, 0), (.getfield 12, 11, 0, 368, 0), (.getfield 77, 8, 0, 193, 0), (.iload_n 1, 0, 0, 0, 0), (.iload_n 2, 0, 0, 0, 0)] (pc' := 27) (by decide +kernel) (lv' := [some (.ref 0), some (.int (nI (tq_N x))), some (.int (nI (tq_N y)))]) (st' := [.int (nI (tq_N y)), .int (nI (tq_N x)), .ref 2]) (I' := I) (J' := J) rfl ?_
    refine EV_cV (own := 11) (idx := 156) (μ' := mX3_pathAt) (b := 2) (cb := 3) (av := [.int (nI (tq_N x)), .int (nI (tq_N y))]) (rest := []) C hR rfl (Or.inl ⟨544, by decide⟩) kX3_pathAt sX3_pathAt (c_X3_pathAt g rest I J (tq_N x) (tq_N y) (by omega) (by omega)) rfl rfl (by decide +kernel) rfl (by decide) (Nat.le_of_ble_eq_true rfl) rfl ⟨Nat.zero_le _, Nat.zero_le _⟩ ?_
    refine EV_blk (own := 11) C rfl [(.iconst 1, 0, 0, 0, (nI 1))] (pc' := 31) (by decide +kernel) (lv' := [some (.ref 0), some (.int (nI (tq_N x))), some (.int (nI (tq_N y)))]) (st' := [.int (nI 1), .int (I 4 ((tq_N y) * 10 + (tq_N x)))]) (I' := I) (J' := J) rfl ?_
    refine EV_icmp_ne (off := 28) (tgt := 59) C (by decide +kernel) (by decide) (fun h2 => ?_) (fun h2 => ?_)
    · skip
      refine EV_blk (own := 11) C rfl [(.iconst (-1), 0, 0, 0, (-1))] (pc' := 60) (by decide +kernel) (lv' := [some (.ref 0), some (.int (nI (tq_N x))), some (.int (nI (tq_N y)))]) (st' := [.int (-1)]) (I' := I) (J' := J) rfl ?_
      exact EV_iret C hZ rfl (by decide +kernel) (Nat.le_refl _) (Nat.le_refl _) ⟨tq_some (by simp only [r_X11_pathMask, if_neg h1, if_neg h2]), rfl, rfl, rfl, rfl⟩
    · skip
      refine EV_blk (own := 11) C rfl [(.aload_n 0, 0, 0, 0, 0), (.getfield 12, 11, 0, 368, 0), (.getfield 77, 8, 0, 193, 0), (.iload_n 1, 0, 0, 0, 0), (.iload_n 2, 0, 0, 0, 0), (.aload_n 0, 0, 0, 0, 0), (.getfield 12, 11, 0, 368, 0), (.getfield 135, 8, 1, 196, 0), (.getfield 162, 6, 5, 153, 0)] (pc' := 53) (by decide +kernel) (lv' := [some (.ref 0), some (.int (nI (tq_N x))), some (.int (nI (tq_N y)))]) (st' := [.int (I 5 5), .int (nI (tq_N y)), .int (nI (tq_N x)), .ref 2]) (I' := I) (J' := J) rfl ?_
      refine EV_cV (own := 11) (idx := 166) (μ' := mX3_pathMaskAt) (b := 2) (cb := 3) (av := [.int (nI (tq_N x)), .int (nI (tq_N y)), .int (I 5 5)]) (rest := []) C hR rfl (Or.inl ⟨558, by decide⟩) kX3_pathMaskAt sX3_pathMaskAt (c_X3_pathMaskAt g rest I J (tq_N x) (tq_N y) (I 5 5) k.wi k.hi k.bd) rfl rfl (by decide +kernel) rfl (by decide) (Nat.le_of_ble_eq_true rfl) rfl ⟨Nat.zero_le _, Nat.zero_le _⟩ ?_
      refine EV_blk (own := 11) C rfl [(.goto 4, 0, 0, 0, 0)] (pc' := 60) (by decide +kernel) (lv' := [some (.ref 0), some (.int (nI (tq_N x))), some (.int (nI (tq_N y)))]) (st' := [.int (r_X3_pathMaskAt I (tq_N x) (tq_N y) (I 5 5))]) (I' := I) (J' := J) rfl ?_
      exact EV_iret C hZ rfl (by decide +kernel) (Nat.le_refl _) (Nat.le_refl _) ⟨tq_some (by simp only [r_X11_pathMask, if_neg h1, if_pos h2]), rfl, rfl, rfl, rfl⟩
  · skip
    refine EV_blk (own := 11) C rfl [(.bipush (-2), 0, 0, 0, (-2))] (pc' := 17) (by decide +kernel) (lv' := [some (.ref 0), some (.int x), some (.int y)]) (st' := [.int (-2)]) (I' := I) (J' := J) rfl ?_
    exact EV_iret C hZ rfl (by decide +kernel) (Nat.le_refl _) (Nat.le_refl _) ⟨tq_some (by simp only [r_X11_pathMask, if_pos h1]), rfl, rfl, rfl, rfl⟩
def r_X11_pathTile (I : tq_I) (x y : Int32) (w h o c L : Nat) : Int32 := (if (tq_b (tq_cell I x y)) = 0 then (-2) else (r_X3_pathTileAt I (tq_N x) (tq_N y) (I 5 5)))
set_option maxRecDepth 20000 in
theorem c_X11_pathTile (g : tq_G) (rest : List tq_S) (I : tq_I) (J : Int64) (x y : Int32) (w h o c L : Nat) (k : tq_ok I w h o c L) : CT g mX11_pathTile 4 0 0 [.ref 0, .int x, .int y] (tq_SC ++ rest) tq_RR I J (tq_ret (tq_SC ++ rest) tq_RR (some (.int (r_X11_pathTile I x y w h o c L))) I J) := by
  refine CT.ret kX11_pathTile (Nat.le_of_ble_eq_true rfl) (fun x0 C hR hZ => ?_)
  refine EV_en (lv' := [some (.ref 0), some (.int x), some (.int y)]) 0 rfl ?_
  refine EV_blk (own := 11) C rfl [(.aload_n 0, 0, 0, 0, 0), (.getfield 12, 11, 0, 368, 0), (.getfield 77, 8, 0, 193, 0), (.iload_n 1, 0, 0, 0, 0), (.iload_n 2, 0, 0, 0, 0)] (pc' := 9) (by decide +kernel) (lv' := [some (.ref 0), some (.int x), some (.int y)]) (st' := [.int y, .int x, .ref 2]) (I' := I) (J' := J) rfl ?_
  refine EV_cV (own := 11) (idx := 153) (μ' := mX3_isCell) (b := 2) (cb := 3) (av := [.int x, .int y]) (rest := []) C hR rfl (Or.inl ⟨543, by decide⟩) kX3_isCell sX3_isCell (c_X3_isCell g rest I J x y ) rfl rfl (by decide +kernel) rfl (by decide) (Nat.le_of_ble_eq_true rfl) rfl ⟨Nat.zero_le _, Nat.zero_le _⟩ ?_
  refine EV_if_eq (off := 28) (tgt := 40) C (by decide +kernel) (by decide) (fun h1 => ?_) (fun h1 => ?_)
  · skip
    refine EV_blk (own := 11) C rfl [(.bipush (-2), 0, 0, 0, (-2))] (pc' := 42) (by decide +kernel) (lv' := [some (.ref 0), some (.int x), some (.int y)]) (st' := [.int (-2)]) (I' := I) (J' := J) rfl ?_
    exact EV_iret C hZ rfl (by decide +kernel) (Nat.le_refl _) (Nat.le_refl _) ⟨tq_some (by simp only [r_X11_pathTile, if_pos h1]), rfl, rfl, rfl, rfl⟩
  · skip
    have h0 := tq_b10 h1
    have hxy := k.cell h0
    refine EV_lve (lv' := [some (.ref 0), some (.int (nI (tq_N x))), some (.int (nI (tq_N y)))]) (by rw [← tq_nIN h0.1, ← tq_nIN h0.2.2.1]) ?_
    refine EV_blk (own := 11) C rfl [(.aload_n 0, 0, 0, 0, 0), (.getfield 12, 11, 0, 368, 0), (.getfield 77, 8, 0, 193, 0), (.iload_n 1, 0, 0, 0, 0), (.iload_n 2, 0, 0, 0, 0), (.aload_n 0, 0, 0, 0, 0), (.getfield 12, 11, 0, 368, 0), (.getfield 135, 8, 1, 196, 0), (.getfield 162, 6, 5, 153, 0)] (pc' := 34) (by decide +kernel) (lv' := [some (.ref 0), some (.int (nI (tq_N x))), some (.int (nI (tq_N y)))]) (st' := [.int (I 5 5), .int (nI (tq_N y)), .int (nI (tq_N x)), .ref 2]) (I' := I) (J' := J) rfl ?_
    refine EV_cV (own := 11) (idx := 170) (μ' := mX3_pathTileAt) (b := 2) (cb := 3) (av := [.int (nI (tq_N x)), .int (nI (tq_N y)), .int (I 5 5)]) (rest := []) C hR rfl (Or.inl ⟨575, by decide⟩) kX3_pathTileAt sX3_pathTileAt (c_X3_pathTileAt g rest I J (tq_N x) (tq_N y) (I 5 5) (by omega) (by omega) k.wi k.hi k.bd) rfl rfl (by decide +kernel) rfl (by decide) (Nat.le_of_ble_eq_true rfl) rfl ⟨Nat.zero_le _, Nat.zero_le _⟩ ?_
    refine EV_blk (own := 11) C rfl [(.goto 5, 0, 0, 0, 0)] (pc' := 42) (by decide +kernel) (lv' := [some (.ref 0), some (.int (nI (tq_N x))), some (.int (nI (tq_N y)))]) (st' := [.int (r_X3_pathTileAt I (tq_N x) (tq_N y) (I 5 5))]) (I' := I) (J' := J) rfl ?_
    exact EV_iret C hZ rfl (by decide +kernel) (Nat.le_refl _) (Nat.le_refl _) ⟨tq_some (by simp only [r_X11_pathTile, if_neg h1]), rfl, rfl, rfl, rfl⟩
theorem tq_t05 {t : Int32} (h : (nI 0).toInt ≤ t.toInt ∧ t.toInt ≤ (nI 5).toInt) : 0 ≤ t.toInt ∧ t.toInt ≤ 5 ∧ tq_N t ≤ 5 := by
  have e1 : (nI 0).toInt = 0 := by decide
  have e2 : (nI 5).toInt = 5 := by decide
  refine ⟨by omega, by omega, ?_⟩
  unfold tq_N
  omega
def r_X11_rank (I : tq_I) (t : Int32) (w h o c L : Nat) : Int32 := (if (tq_b ((nI 0).toInt ≤ t.toInt ∧ t.toInt ≤ (nI 5).toInt)) = 0 then (-2) else (I 6 (tq_N t)))
set_option maxRecDepth 20000 in
theorem c_X11_rank (g : tq_G) (rest : List tq_S) (I : tq_I) (J : Int64) (t : Int32) (w h o c L : Nat) (k : tq_ok I w h o c L) : CT g mX11_rank 2 0 0 [.ref 0, .int t] (tq_SC ++ rest) tq_RR I J (tq_ret (tq_SC ++ rest) tq_RR (some (.int (r_X11_rank I t w h o c L))) I J) := by
  refine CT.ret kX11_rank (Nat.le_of_ble_eq_true rfl) (fun x0 C hR hZ => ?_)
  refine EV_en (lv' := [some (.ref 0), some (.int t)]) 0 rfl ?_
  refine EV_blk (own := 11) C rfl [(.iload_n 1, 0, 0, 0, 0)] (pc' := 1) (by decide +kernel) (lv' := [some (.ref 0), some (.int t)]) (st' := [.int t]) (I' := I) (J' := J) rfl ?_
  refine EV_cS (own := 11) (idx := 65) (μ' := mX11_isTerrain) (av := [.int t]) (rest := []) C hR rfl (Or.inl ⟨397, by decide⟩) kX11_isTerrain sX11_isTerrain (c_X11_isTerrain g rest I J t ) (by decide +kernel) rfl (by decide) (Nat.le_of_ble_eq_true rfl) rfl ⟨Nat.zero_le _, Nat.zero_le _⟩ ?_
  refine EV_if_eq (off := 17) (tgt := 21) C (by decide +kernel) (by decide) (fun h1 => ?_) (fun h1 => ?_)
  · skip
    refine EV_blk (own := 11) C rfl [(.bipush (-2), 0, 0, 0, (-2))] (pc' := 23) (by decide +kernel) (lv' := [some (.ref 0), some (.int t)]) (st' := [.int (-2)]) (I' := I) (J' := J) rfl ?_
    exact EV_iret C hZ rfl (by decide +kernel) (Nat.le_refl _) (Nat.le_refl _) ⟨tq_some (by simp only [r_X11_rank, if_pos h1]), rfl, rfl, rfl, rfl⟩
  · skip
    have ht := tq_t05 (tq_b10 h1)
    refine EV_lve (lv' := [some (.ref 0), some (.int (nI (tq_N t)))]) (by rw [← tq_nIN ht.1]) ?_
    refine EV_blk (own := 11) C rfl [(.aload_n 0, 0, 0, 0, 0), (.getfield 12, 11, 0, 368, 0), (.getfield 135, 8, 1, 196, 0), (.iload_n 1, 0, 0, 0, 0)] (pc' := 15) (by decide +kernel) (lv' := [some (.ref 0), some (.int (nI (tq_N t)))]) (st' := [.int (nI (tq_N t)), .ref 5]) (I' := I) (J' := J) rfl ?_
    refine EV_cV (own := 11) (idx := 139) (μ' := mX6_rankOf) (b := 5) (cb := 6) (av := [.int (nI (tq_N t))]) (rest := []) C hR rfl (Or.inl ⟨523, by decide⟩) kX6_rankOf sX6_rankOf (c_X6_rankOf g rest I J (tq_N t) (by omega)) rfl rfl (by decide +kernel) rfl (by decide) (Nat.le_of_ble_eq_true rfl) rfl ⟨Nat.zero_le _, Nat.zero_le _⟩ ?_
    refine EV_blk (own := 11) C rfl [(.goto 5, 0, 0, 0, 0)] (pc' := 23) (by decide +kernel) (lv' := [some (.ref 0), some (.int (nI (tq_N t)))]) (st' := [.int (I 6 (tq_N t))]) (I' := I) (J' := J) rfl ?_
    exact EV_iret C hZ rfl (by decide +kernel) (Nat.le_refl _) (Nat.le_refl _) ⟨tq_some (by simp only [r_X11_rank, if_neg h1]), rfl, rfl, rfl, rfl⟩
def r_X11_size (I : tq_I) (q : Int32) (w h o c L : Nat) : Int32 := (if q = (nI 0) then (I 2 0) else (if q = (nI 1) then (I 2 1) else (if q = (nI 2) then (r_X3_countPaths I w h) else (-3))))
set_option maxRecDepth 20000 in
theorem c_X11_size (g : tq_G) (rest : List tq_S) (I : tq_I) (J : Int64) (q : Int32) (w h o c L : Nat) (k : tq_ok I w h o c L) : CT g mX11_size 3 0 0 [.ref 0, .int q] (tq_SC ++ rest) tq_RR I J (tq_ret (tq_SC ++ rest) tq_RR (some (.int (r_X11_size I q w h o c L))) I J) := by
  refine CT.ret kX11_size (Nat.le_of_ble_eq_true rfl) (fun x0 C hR hZ => ?_)
  refine EV_en (lv' := [some (.ref 0), some (.int q)]) 0 rfl ?_
  refine EV_blk (own := 11) C rfl [(.iload_n 1, 0, 0, 0, 0)] (pc' := 1) (by decide +kernel) (lv' := [some (.ref 0), some (.int q)]) (st' := [.int q]) (I' := I) (J' := J) rfl ?_
  by_cases e1 : q = (nI 0)
  · skip
    refine EV_tableIn (dflt := 60) (lo := 0) (hi := 2) (offs := #[27, 38, 49]) (len := 27) (off := 27) (tgt := 28) C (by decide +kernel) (by rw [e1]; decide) (by rw [e1]; decide) (by rw [e1]; rfl) (by decide) ?_
    refine EV_blk (own := 11) C rfl [(.aload_n 0, 0, 0, 0, 0), (.getfield 12, 11, 0, 368, 0), (.getfield 77, 8, 0, 193, 0), (.getfield 81, 3, 0, 98, 0)] (pc' := 38) (by decide +kernel) (lv' := [some (.ref 0), some (.int q)]) (st' := [.int (I 2 0)]) (I' := I) (J' := J) rfl ?_
    exact EV_iret C hZ rfl (by decide +kernel) (Nat.le_refl _) (Nat.le_refl _) ⟨tq_some (by simp only [r_X11_size, if_pos e1]), rfl, rfl, rfl, rfl⟩
  · skip
    by_cases e2 : q = (nI 1)
    · skip
      refine EV_tableIn (dflt := 60) (lo := 0) (hi := 2) (offs := #[27, 38, 49]) (len := 27) (off := 38) (tgt := 39) C (by decide +kernel) (by rw [e2]; decide) (by rw [e2]; decide) (by rw [e2]; rfl) (by decide) ?_
      refine EV_blk (own := 11) C rfl [(.aload_n 0, 0, 0, 0, 0), (.getfield 12, 11, 0, 368, 0), (.getfield 77, 8, 0, 193, 0), (.getfield 87, 3, 1, 102, 0)] (pc' := 49) (by decide +kernel) (lv' := [some (.ref 0), some (.int q)]) (st' := [.int (I 2 1)]) (I' := I) (J' := J) rfl ?_
      exact EV_iret C hZ rfl (by decide +kernel) (Nat.le_refl _) (Nat.le_refl _) ⟨tq_some (by simp only [r_X11_size, if_neg e1, if_pos e2]), rfl, rfl, rfl, rfl⟩
    · skip
      by_cases e3 : q = (nI 2)
      · skip
        refine EV_tableIn (dflt := 60) (lo := 0) (hi := 2) (offs := #[27, 38, 49]) (len := 27) (off := 49) (tgt := 50) C (by decide +kernel) (by rw [e3]; decide) (by rw [e3]; decide) (by rw [e3]; rfl) (by decide) ?_
        refine EV_blk (own := 11) C rfl [(.aload_n 0, 0, 0, 0, 0), (.getfield 12, 11, 0, 368, 0), (.getfield 77, 8, 0, 193, 0)] (pc' := 57) (by decide +kernel) (lv' := [some (.ref 0), some (.int q)]) (st' := [.ref 2]) (I' := I) (J' := J) rfl ?_
        refine EV_cV (own := 11) (idx := 90) (μ' := mX3_countPaths) (b := 2) (cb := 3) (av := []) (rest := []) C hR rfl (Or.inl ⟨437, by decide⟩) kX3_countPaths sX3_countPaths (c_X3_countPaths g rest I J w h k.hw k.hh k.w10 k.h10) rfl rfl (by decide +kernel) rfl (by decide) (Nat.le_of_ble_eq_true rfl) rfl ⟨Nat.zero_le _, Nat.zero_le _⟩ ?_
        exact EV_iret C hZ rfl (by decide +kernel) (Nat.le_refl _) (Nat.le_refl _) ⟨tq_some (by simp only [r_X11_size, if_neg e1, if_neg e2, if_pos e3]), rfl, rfl, rfl, rfl⟩
      · skip
        refine EV_tableOut (dflt := 60) (lo := 0) (hi := 2) (offs := #[27, 38, 49]) (len := 27) (tgt := 61) C (by decide +kernel) (tq_swo (n := 2) (by decide) (fun q hq => by rcases (show q = 0 ∨ q = 1 ∨ q = 2 by omega) with rfl | rfl | rfl <;> assumption)) (by decide) ?_
        refine EV_blk (own := 11) C rfl [(.bipush (-3), 0, 0, 0, (-3))] (pc' := 63) (by decide +kernel) (lv' := [some (.ref 0), some (.int q)]) (st' := [.int (-3)]) (I' := I) (J' := J) rfl ?_
        exact EV_iret C hZ rfl (by decide +kernel) (Nat.le_refl _) (Nat.le_refl _) ⟨tq_some (by simp only [r_X11_size, if_neg e1, if_neg e2, if_neg e3]), rfl, rfl, rfl, rfl⟩
def r_X11_setCorner (I : tq_I) (x y t : Int32) (w h o c L : Nat) : Int32 := (if (tq_b (tq_corner I x y)) = 0 then (-2) else (if (tq_b ((nI 0).toInt ≤ t.toInt ∧ t.toInt ≤ (nI 5).toInt)) = 0 then (-2) else ((tq_rec I o c) 3 ((tq_N y) * 11 + (tq_N x)))))
def I_X11_setCorner (I : tq_I) (x y t : Int32) (w h o c L : Nat) : tq_I := (if (tq_b (tq_corner I x y)) = 0 then I else (if (tq_b ((nI 0).toInt ≤ t.toInt ∧ t.toInt ≤ (nI 5).toInt)) = 0 then I else (I_X8_changeCorner (tq_rec I o c) (tq_N x) (tq_N y) t)))
set_option maxRecDepth 20000 in
theorem c_X11_setCorner (g : tq_G) (rest : List tq_S) (I : tq_I) (J : Int64) (x y t : Int32) (w h o c L : Nat) (k : tq_ok I w h o c L) : CT g mX11_setCorner 6 0 0 [.ref 0, .int x, .int y, .int t] (tq_SC ++ rest) tq_RR I J (tq_ret (tq_SC ++ rest) tq_RR (some (.int (r_X11_setCorner I x y t w h o c L))) (I_X11_setCorner I x y t w h o c L) J) := by
  refine CT.ret kX11_setCorner (Nat.le_of_ble_eq_true rfl) (fun x0 C hR hZ => ?_)
  refine EV_en (lv' := [some (.ref 0), some (.int x), some (.int y), some (.int t), none]) 1 rfl ?_
  refine EV_blk (own := 11) C rfl [(.aload_n 0, 0, 0, 0, 0), (.getfield 12, 11, 0, 368, 0), (.getfield 77, 8, 0, 193, 0), (.iload_n 1, 0, 0, 0, 0), (.iload_n 2, 0, 0, 0, 0)] (pc' := 9) (by decide +kernel) (lv' := [some (.ref 0), some (.int x), some (.int y), some (.int t), none]) (st' := [.int y, .int x, .ref 2]) (I' := I) (J' := J) rfl ?_
  refine EV_cV (own := 11) (idx := 94) (μ' := mX3_isCorner) (b := 2) (cb := 3) (av := [.int x, .int y]) (rest := []) C hR rfl (Or.inl ⟨450, by decide⟩) kX3_isCorner sX3_isCorner (c_X3_isCorner g rest I J x y ) rfl rfl (by decide +kernel) rfl (by decide) (Nat.le_of_ble_eq_true rfl) rfl ⟨Nat.zero_le _, Nat.zero_le _⟩ ?_
  refine EV_if_eq (off := 10) (tgt := 22) C (by decide +kernel) (by decide) (fun h1 => ?_) (fun h1 => ?_)
  · skip
    refine EV_blk (own := 11) C rfl [(.bipush (-2), 0, 0, 0, (-2))] (pc' := 24) (by decide +kernel) (lv' := [some (.ref 0), some (.int x), some (.int y), some (.int t), none]) (st' := [.int (-2)]) (I' := I) (J' := J) rfl ?_
    exact EV_iret C hZ rfl (by decide +kernel) (Nat.le_refl _) (Nat.le_refl _) ⟨tq_some (by simp only [r_X11_setCorner, if_pos h1]), rfl, rfl, by simp only [I_X11_setCorner, if_pos h1], rfl⟩
  · skip
    have h0 := tq_b10 h1
    have hxy := k.corner h0
    refine EV_blk (own := 11) C rfl [(.iload_n 3, 0, 0, 0, 0)] (pc' := 16) (by decide +kernel) (lv' := [some (.ref 0), some (.int x), some (.int y), some (.int t), none]) (st' := [.int t]) (I' := I) (J' := J) rfl ?_
    refine EV_cS (own := 11) (idx := 65) (μ' := mX11_isTerrain) (av := [.int t]) (rest := []) C hR rfl (Or.inl ⟨397, by decide⟩) kX11_isTerrain sX11_isTerrain (c_X11_isTerrain g rest I J t ) (by decide +kernel) rfl (by decide) (Nat.le_of_ble_eq_true rfl) rfl ⟨Nat.zero_le _, Nat.zero_le _⟩ ?_
    refine EV_if_ne (off := 6) (tgt := 25) C (by decide +kernel) (by decide) (fun h2 => ?_) (fun h2 => ?_)
    · skip
      have ht := tq_t05 (tq_b10 h2)
      refine EV_lve (lv' := [some (.ref 0), some (.int (nI (tq_N x))), some (.int (nI (tq_N y))), some (.int t), none]) (by rw [← tq_nIN h0.1, ← tq_nIN h0.2.2.1]) ?_
      refine EV_blk (own := 11) C rfl [(.aload_n 0, 0, 0, 0, 0), (.getfield 19, 11, 1, 369, 0), (.aload_n 0, 0, 0, 0, 0), (.getfield 12, 11, 0, 368, 0)] (pc' := 33) (by decide +kernel) (lv' := [some (.ref 0), some (.int (nI (tq_N x))), some (.int (nI (tq_N y))), some (.int t), none]) (st' := [.ref 1, .ref 17]) (I' := I) (J' := J) rfl ?_
      refine EV_cV (own := 11) (idx := 73) (μ' := mX2_record) (b := 17) (cb := 2) (av := [.ref 1]) (rest := []) C hR rfl (Or.inl ⟨403, by decide⟩) kX2_record sX2_record (c_X2_record g rest I J o c k.ho k.hc k.o5 k.c5 k.bd) rfl rfl (by decide +kernel) rfl (by decide) (Nat.le_of_ble_eq_true rfl) rfl ⟨Nat.zero_le _, Nat.zero_le _⟩ ?_
      refine EV_blk (own := 11) C rfl [(.aload_n 0, 0, 0, 0, 0), (.getfield 12, 11, 0, 368, 0), (.getfield 77, 8, 0, 193, 0), (.iload_n 1, 0, 0, 0, 0), (.iload_n 2, 0, 0, 0, 0)] (pc' := 45) (by decide +kernel) (lv' := [some (.ref 0), some (.int (nI (tq_N x))), some (.int (nI (tq_N y))), some (.int t), none]) (st' := [.int (nI (tq_N y)), .int (nI (tq_N x)), .ref 2]) (I' := (tq_rec I o c)) (J' := J) rfl ?_
      refine EV_cV (own := 11) (idx := 98) (μ' := mX3_terrainAt) (b := 2) (cb := 3) (av := [.int (nI (tq_N x)), .int (nI (tq_N y))]) (rest := []) C hR rfl (Or.inl ⟨454, by decide⟩) kX3_terrainAt sX3_terrainAt (c_X3_terrainAt g rest (tq_rec I o c) J (tq_N x) (tq_N y) (by omega) (by omega)) rfl rfl (by decide +kernel) rfl (by decide) (Nat.le_of_ble_eq_true rfl) rfl ⟨Nat.zero_le _, Nat.zero_le _⟩ ?_
      refine EV_blk (own := 11) C rfl [(.istore 4, 0, 0, 0, 0), (.aload_n 0, 0, 0, 0, 0), (.getfield 12, 11, 0, 368, 0), (.iload_n 1, 0, 0, 0, 0), (.iload_n 2, 0, 0, 0, 0), (.iload_n 3, 0, 0, 0, 0)] (pc' := 57) (by decide +kernel) (lv' := [some (.ref 0), some (.int (nI (tq_N x))), some (.int (nI (tq_N y))), some (.int t), some (.int ((tq_rec I o c) 3 ((tq_N y) * 11 + (tq_N x))))]) (st' := [.int t, .int (nI (tq_N y)), .int (nI (tq_N x)), .ref 1]) (I' := (tq_rec I o c)) (J' := J) rfl ?_
      refine EV_cV (own := 11) (idx := 102) (μ' := mX8_changeCorner) (b := 1) (cb := 8) (av := [.int (nI (tq_N x)), .int (nI (tq_N y)), .int t]) (rest := []) C hR rfl (Or.inl ⟨461, by decide⟩) kX8_changeCorner sX8_changeCorner (c_X8_changeCorner g rest (tq_rec I o c) J (tq_N x) (tq_N y) t (by omega) (by omega) k.rec.wh) rfl rfl (by decide +kernel) rfl (by decide) (Nat.le_of_ble_eq_true rfl) rfl ⟨Nat.zero_le _, Nat.zero_le _⟩ ?_
      refine EV_blk (own := 11) C rfl [(.pop, 0, 0, 0, 0), (.iload 4, 0, 0, 0, 0)] (pc' := 63) (by decide +kernel) (lv' := [some (.ref 0), some (.int (nI (tq_N x))), some (.int (nI (tq_N y))), some (.int t), some (.int ((tq_rec I o c) 3 ((tq_N y) * 11 + (tq_N x))))]) (st' := [.int ((tq_rec I o c) 3 ((tq_N y) * 11 + (tq_N x)))]) (I' := (I_X8_changeCorner (tq_rec I o c) (tq_N x) (tq_N y) t)) (J' := J) rfl ?_
      exact EV_iret C hZ rfl (by decide +kernel) (Nat.le_refl _) (Nat.le_refl _) ⟨tq_some (by simp only [r_X11_setCorner, if_neg h1, if_neg h2]), rfl, rfl, by simp only [I_X11_setCorner, if_neg h1, if_neg h2], rfl⟩
    · skip
      refine EV_blk (own := 11) C rfl [(.bipush (-2), 0, 0, 0, (-2))] (pc' := 24) (by decide +kernel) (lv' := [some (.ref 0), some (.int x), some (.int y), some (.int t), none]) (st' := [.int (-2)]) (I' := I) (J' := J) rfl ?_
      exact EV_iret C hZ rfl (by decide +kernel) (Nat.le_refl _) (Nat.le_refl _) ⟨tq_some (by simp only [r_X11_setCorner, if_neg h1, if_pos h2]), rfl, rfl, by simp only [I_X11_setCorner, if_neg h1, if_pos h2], rfl⟩
def r_X11_setPath (I : tq_I) (x y b : Int32) (w h o c L : Nat) : Int32 := (if (tq_b (tq_cell I x y)) = 0 then (-2) else (if b = 0 then ((tq_rec I o c) 4 ((tq_N y) * 10 + (tq_N x))) else ((tq_rec I o c) 4 ((tq_N y) * 10 + (tq_N x)))))
def I_X11_setPath (I : tq_I) (x y b : Int32) (w h o c L : Nat) : tq_I := (if (tq_b (tq_cell I x y)) = 0 then I else (if b = 0 then (I_X8_changePath (tq_rec I o c) (tq_N x) (tq_N y) (nI 0)) else (I_X8_changePath (tq_rec I o c) (tq_N x) (tq_N y) (nI 1))))
set_option maxRecDepth 20000 in
theorem c_X11_setPath (g : tq_G) (rest : List tq_S) (I : tq_I) (J : Int64) (x y b : Int32) (w h o c L : Nat) (k : tq_ok I w h o c L) : CT g mX11_setPath 6 0 0 [.ref 0, .int x, .int y, .int b] (tq_SC ++ rest) tq_RR I J (tq_ret (tq_SC ++ rest) tq_RR (some (.int (r_X11_setPath I x y b w h o c L))) (I_X11_setPath I x y b w h o c L) J) := by
  refine CT.ret kX11_setPath (Nat.le_of_ble_eq_true rfl) (fun x0 C hR hZ => ?_)
  refine EV_en (lv' := [some (.ref 0), some (.int x), some (.int y), some (.int b), none]) 1 rfl ?_
  refine EV_blk (own := 11) C rfl [(.aload_n 0, 0, 0, 0, 0), (.getfield 12, 11, 0, 368, 0), (.getfield 77, 8, 0, 193, 0), (.iload_n 1, 0, 0, 0, 0), (.iload_n 2, 0, 0, 0, 0)] (pc' := 9) (by decide +kernel) (lv' := [some (.ref 0), some (.int x), some (.int y), some (.int b), none]) (st' := [.int y, .int x, .ref 2]) (I' := I) (J' := J) rfl ?_
  refine EV_cV (own := 11) (idx := 153) (μ' := mX3_isCell) (b := 2) (cb := 3) (av := [.int x, .int y]) (rest := []) C hR rfl (Or.inl ⟨543, by decide⟩) kX3_isCell sX3_isCell (c_X3_isCell g rest I J x y ) rfl rfl (by decide +kernel) rfl (by decide) (Nat.le_of_ble_eq_true rfl) rfl ⟨Nat.zero_le _, Nat.zero_le _⟩ ?_
  refine EV_if_ne (off := 6) (tgt := 18) C (by decide +kernel) (by decide) (fun h1 => ?_) (fun h1 => ?_)
  · skip
    have h0 := tq_b10 h1
    have hxy := k.cell h0
    refine EV_lve (lv' := [some (.ref 0), some (.int (nI (tq_N x))), some (.int (nI (tq_N y))), some (.int b), none]) (by rw [← tq_nIN h0.1, ← tq_nIN h0.2.2.1]) ?_
    refine EV_blk (own := 11) C rfl [(.aload_n 0, 0, 0, 0, 0), (.getfield 19, 11, 1, 369, 0), (.aload_n 0, 0, 0, 0, 0), (.getfield 12, 11, 0, 368, 0)] (pc' := 26) (by decide +kernel) (lv' := [some (.ref 0), some (.int (nI (tq_N x))), some (.int (nI (tq_N y))), some (.int b), none]) (st' := [.ref 1, .ref 17]) (I' := I) (J' := J) rfl ?_
    refine EV_cV (own := 11) (idx := 73) (μ' := mX2_record) (b := 17) (cb := 2) (av := [.ref 1]) (rest := []) C hR rfl (Or.inl ⟨403, by decide⟩) kX2_record sX2_record (c_X2_record g rest I J o c k.ho k.hc k.o5 k.c5 k.bd) rfl rfl (by decide +kernel) rfl (by decide) (Nat.le_of_ble_eq_true rfl) rfl ⟨Nat.zero_le _, Nat.zero_le _⟩ ?_
    refine EV_blk (own := 11) C rfl [(.aload_n 0, 0, 0, 0, 0), (.getfield 12, 11, 0, 368, 0), (.getfield 77, 8, 0, 193, 0), (.iload_n 1, 0, 0, 0, 0), (.iload_n 2, 0, 0, 0, 0)] (pc' := 38) (by decide +kernel) (lv' := [some (.ref 0), some (.int (nI (tq_N x))), some (.int (nI (tq_N y))), some (.int b), none]) (st' := [.int (nI (tq_N y)), .int (nI (tq_N x)), .ref 2]) (I' := (tq_rec I o c)) (J' := J) rfl ?_
    refine EV_cV (own := 11) (idx := 156) (μ' := mX3_pathAt) (b := 2) (cb := 3) (av := [.int (nI (tq_N x)), .int (nI (tq_N y))]) (rest := []) C hR rfl (Or.inl ⟨544, by decide⟩) kX3_pathAt sX3_pathAt (c_X3_pathAt g rest (tq_rec I o c) J (tq_N x) (tq_N y) (by omega) (by omega)) rfl rfl (by decide +kernel) rfl (by decide) (Nat.le_of_ble_eq_true rfl) rfl ⟨Nat.zero_le _, Nat.zero_le _⟩ ?_
    refine EV_blk (own := 11) C rfl [(.istore 4, 0, 0, 0, 0), (.aload_n 0, 0, 0, 0, 0), (.getfield 12, 11, 0, 368, 0), (.iload_n 1, 0, 0, 0, 0), (.iload_n 2, 0, 0, 0, 0), (.iload_n 3, 0, 0, 0, 0)] (pc' := 50) (by decide +kernel) (lv' := [some (.ref 0), some (.int (nI (tq_N x))), some (.int (nI (tq_N y))), some (.int b), some (.int ((tq_rec I o c) 4 ((tq_N y) * 10 + (tq_N x))))]) (st' := [.int b, .int (nI (tq_N y)), .int (nI (tq_N x)), .ref 1]) (I' := (tq_rec I o c)) (J' := J) rfl ?_
    refine EV_if_eq (off := 7) (tgt := 57) C (by decide +kernel) (by decide) (fun h2 => ?_) (fun h2 => ?_)
    · skip
      refine EV_blk (own := 11) C rfl [(.iconst 0, 0, 0, 0, (nI 0))] (pc' := 58) (by decide +kernel) (lv' := [some (.ref 0), some (.int (nI (tq_N x))), some (.int (nI (tq_N y))), some (.int b), some (.int ((tq_rec I o c) 4 ((tq_N y) * 10 + (tq_N x))))]) (st' := [.int (nI 0), .int (nI (tq_N y)), .int (nI (tq_N x)), .ref 1]) (I' := (tq_rec I o c)) (J' := J) rfl ?_
      refine EV_cV (own := 11) (idx := 159) (μ' := mX8_changePath) (b := 1) (cb := 8) (av := [.int (nI (tq_N x)), .int (nI (tq_N y)), .int (nI 0)]) (rest := []) C hR rfl (Or.inl ⟨545, by decide⟩) kX8_changePath sX8_changePath (c_X8_changePath g rest (tq_rec I o c) J (tq_N x) (tq_N y) (nI 0) (by omega) (by omega) k.rec.wh) rfl rfl (by decide +kernel) rfl (by decide) (Nat.le_of_ble_eq_true rfl) rfl ⟨Nat.zero_le _, Nat.zero_le _⟩ ?_
      refine EV_blk (own := 11) C rfl [(.iload 4, 0, 0, 0, 0)] (pc' := 63) (by decide +kernel) (lv' := [some (.ref 0), some (.int (nI (tq_N x))), some (.int (nI (tq_N y))), some (.int b), some (.int ((tq_rec I o c) 4 ((tq_N y) * 10 + (tq_N x))))]) (st' := [.int ((tq_rec I o c) 4 ((tq_N y) * 10 + (tq_N x)))]) (I' := (I_X8_changePath (tq_rec I o c) (tq_N x) (tq_N y) (nI 0))) (J' := J) rfl ?_
      exact EV_iret C hZ rfl (by decide +kernel) (Nat.le_refl _) (Nat.le_refl _) ⟨tq_some (by simp only [r_X11_setPath, if_neg h1, if_pos h2]), rfl, rfl, by simp only [I_X11_setPath, if_neg h1, if_pos h2], rfl⟩
    · skip
      refine EV_blk (own := 11) C rfl [(.iconst 1, 0, 0, 0, (nI 1)), (.goto 4, 0, 0, 0, 0)] (pc' := 58) (by decide +kernel) (lv' := [some (.ref 0), some (.int (nI (tq_N x))), some (.int (nI (tq_N y))), some (.int b), some (.int ((tq_rec I o c) 4 ((tq_N y) * 10 + (tq_N x))))]) (st' := [.int (nI 1), .int (nI (tq_N y)), .int (nI (tq_N x)), .ref 1]) (I' := (tq_rec I o c)) (J' := J) rfl ?_
      refine EV_cV (own := 11) (idx := 159) (μ' := mX8_changePath) (b := 1) (cb := 8) (av := [.int (nI (tq_N x)), .int (nI (tq_N y)), .int (nI 1)]) (rest := []) C hR rfl (Or.inl ⟨545, by decide⟩) kX8_changePath sX8_changePath (c_X8_changePath g rest (tq_rec I o c) J (tq_N x) (tq_N y) (nI 1) (by omega) (by omega) k.rec.wh) rfl rfl (by decide +kernel) rfl (by decide) (Nat.le_of_ble_eq_true rfl) rfl ⟨Nat.zero_le _, Nat.zero_le _⟩ ?_
      refine EV_blk (own := 11) C rfl [(.iload 4, 0, 0, 0, 0)] (pc' := 63) (by decide +kernel) (lv' := [some (.ref 0), some (.int (nI (tq_N x))), some (.int (nI (tq_N y))), some (.int b), some (.int ((tq_rec I o c) 4 ((tq_N y) * 10 + (tq_N x))))]) (st' := [.int ((tq_rec I o c) 4 ((tq_N y) * 10 + (tq_N x)))]) (I' := (I_X8_changePath (tq_rec I o c) (tq_N x) (tq_N y) (nI 1))) (J' := J) rfl ?_
      exact EV_iret C hZ rfl (by decide +kernel) (Nat.le_refl _) (Nat.le_refl _) ⟨tq_some (by simp only [r_X11_setPath, if_neg h1, if_neg h2]), rfl, rfl, by simp only [I_X11_setPath, if_neg h1, if_neg h2], rfl⟩
  · skip
    refine EV_blk (own := 11) C rfl [(.bipush (-2), 0, 0, 0, (-2))] (pc' := 17) (by decide +kernel) (lv' := [some (.ref 0), some (.int x), some (.int y), some (.int b), none]) (st' := [.int (-2)]) (I' := I) (J' := J) rfl ?_
    exact EV_iret C hZ rfl (by decide +kernel) (Nat.le_refl _) (Nat.le_refl _) ⟨tq_some (by simp only [r_X11_setPath, if_pos h1]), rfl, rfl, by simp only [I_X11_setPath, if_pos h1], rfl⟩
theorem tq_w10 {v : Int32} (h : (nI 1).toInt ≤ v.toInt ∧ v.toInt ≤ (nI 10).toInt) : 0 ≤ v.toInt ∧ 1 ≤ tq_N v ∧ tq_N v ≤ 10 := by
  have e1 : (nI 1).toInt = 1 := by decide
  have e2 : (nI 10).toInt = 10 := by decide
  unfold tq_N
  omega
def r_X11_begin (I : tq_I) (W H t : Int32) (w h o c L : Nat) : Int32 := (if (tq_b ((nI 0).toInt ≤ t.toInt ∧ t.toInt ≤ (nI 5).toInt)) = 0 then (-2) else (if (tq_b ((nI 1).toInt ≤ W.toInt ∧ W.toInt ≤ (nI 10).toInt)) = 0 then (-3) else (if (tq_b ((nI 1).toInt ≤ H.toInt ∧ H.toInt ≤ (nI 10).toInt)) = 0 then (-3) else ((nI (tq_N W)) * (nI (tq_N H))))))
def I_X11_begin (I : tq_I) (W H t : Int32) (w h o c L : Nat) : tq_I := (if (tq_b ((nI 0).toInt ≤ t.toInt ∧ t.toInt ≤ (nI 5).toInt)) = 0 then I else (if (tq_b ((nI 1).toInt ≤ W.toInt ∧ W.toInt ≤ (nI 10).toInt)) = 0 then I else (if (tq_b ((nI 1).toInt ≤ H.toInt ∧ H.toInt ≤ (nI 10).toInt)) = 0 then I else (I_X8_startMap (tq_rec I o c) (tq_N W) (tq_N H) t))))
set_option maxRecDepth 20000 in
theorem c_X11_begin (g : tq_G) (rest : List tq_S) (I : tq_I) (J : Int64) (W H t : Int32) (w h o c L : Nat) (k : tq_ok I w h o c L) : CT g mX11_begin 6 0 0 [.ref 0, .int W, .int H, .int t] (tq_SC ++ rest) tq_RR I J (tq_ret (tq_SC ++ rest) tq_RR (some (.int (r_X11_begin I W H t w h o c L))) (I_X11_begin I W H t w h o c L) J) := by
  refine CT.ret kX11_begin (Nat.le_of_ble_eq_true rfl) (fun x0 C hR hZ => ?_)
  refine EV_en (lv' := [some (.ref 0), some (.int W), some (.int H), some (.int t)]) 0 rfl ?_
  refine EV_blk (own := 11) C rfl [(.iload_n 3, 0, 0, 0, 0)] (pc' := 1) (by decide +kernel) (lv' := [some (.ref 0), some (.int W), some (.int H), some (.int t)]) (st' := [.int t]) (I' := I) (J' := J) rfl ?_
  refine EV_cS (own := 11) (idx := 65) (μ' := mX11_isTerrain) (av := [.int t]) (rest := []) C hR rfl (Or.inl ⟨397, by decide⟩) kX11_isTerrain sX11_isTerrain (c_X11_isTerrain g rest I J t ) (by decide +kernel) rfl (by decide) (Nat.le_of_ble_eq_true rfl) rfl ⟨Nat.zero_le _, Nat.zero_le _⟩ ?_
  refine EV_if_ne (off := 6) (tgt := 10) C (by decide +kernel) (by decide) (fun h1 => ?_) (fun h1 => ?_)
  · skip
    have ht := tq_t05 (tq_b10 h1)
    refine EV_blk (own := 11) C rfl [(.iload_n 1, 0, 0, 0, 0), (.iconst 1, 0, 0, 0, (nI 1)), (.bipush 10, 0, 0, 0, (nI 10))] (pc' := 14) (by decide +kernel) (lv' := [some (.ref 0), some (.int W), some (.int H), some (.int t)]) (st' := [.int (nI 10), .int (nI 1), .int W]) (I' := I) (J' := J) rfl ?_
    refine EV_cS (own := 11) (idx := 69) (μ' := mX11_isWithin) (av := [.int W, .int (nI 1), .int (nI 10)]) (rest := []) C hR rfl (Or.inl ⟨400, by decide⟩) kX11_isWithin sX11_isWithin (c_X11_isWithin g rest I J W (nI 1) (nI 10) ) (by decide +kernel) rfl (by decide) (Nat.le_of_ble_eq_true rfl) rfl ⟨Nat.zero_le _, Nat.zero_le _⟩ ?_
    refine EV_if_eq (off := 13) (tgt := 30) C (by decide +kernel) (by decide) (fun h2 => ?_) (fun h2 => ?_)
    · skip
      refine EV_blk (own := 11) C rfl [(.bipush (-3), 0, 0, 0, (-3))] (pc' := 32) (by decide +kernel) (lv' := [some (.ref 0), some (.int W), some (.int H), some (.int t)]) (st' := [.int (-3)]) (I' := I) (J' := J) rfl ?_
      exact EV_iret C hZ rfl (by decide +kernel) (Nat.le_refl _) (Nat.le_refl _) ⟨tq_some (by simp only [r_X11_begin, if_neg h1, if_pos h2]), rfl, rfl, by simp only [I_X11_begin, if_neg h1, if_pos h2], rfl⟩
    · skip
      have hW := tq_w10 (tq_b10 h2)
      refine EV_blk (own := 11) C rfl [(.iload_n 2, 0, 0, 0, 0), (.iconst 1, 0, 0, 0, (nI 1)), (.bipush 10, 0, 0, 0, (nI 10))] (pc' := 24) (by decide +kernel) (lv' := [some (.ref 0), some (.int W), some (.int H), some (.int t)]) (st' := [.int (nI 10), .int (nI 1), .int H]) (I' := I) (J' := J) rfl ?_
      refine EV_cS (own := 11) (idx := 69) (μ' := mX11_isWithin) (av := [.int H, .int (nI 1), .int (nI 10)]) (rest := []) C hR rfl (Or.inl ⟨400, by decide⟩) kX11_isWithin sX11_isWithin (c_X11_isWithin g rest I J H (nI 1) (nI 10) ) (by decide +kernel) rfl (by decide) (Nat.le_of_ble_eq_true rfl) rfl ⟨Nat.zero_le _, Nat.zero_le _⟩ ?_
      refine EV_if_ne (off := 6) (tgt := 33) C (by decide +kernel) (by decide) (fun h3 => ?_) (fun h3 => ?_)
      · skip
        have hH := tq_w10 (tq_b10 h3)
        refine EV_lve (lv' := [some (.ref 0), some (.int (nI (tq_N W))), some (.int (nI (tq_N H))), some (.int t)]) (by rw [← tq_nIN hW.1, ← tq_nIN hH.1]) ?_
        refine EV_blk (own := 11) C rfl [(.aload_n 0, 0, 0, 0, 0), (.getfield 19, 11, 1, 369, 0), (.aload_n 0, 0, 0, 0, 0), (.getfield 12, 11, 0, 368, 0)] (pc' := 41) (by decide +kernel) (lv' := [some (.ref 0), some (.int (nI (tq_N W))), some (.int (nI (tq_N H))), some (.int t)]) (st' := [.ref 1, .ref 17]) (I' := I) (J' := J) rfl ?_
        refine EV_cV (own := 11) (idx := 73) (μ' := mX2_record) (b := 17) (cb := 2) (av := [.ref 1]) (rest := []) C hR rfl (Or.inl ⟨403, by decide⟩) kX2_record sX2_record (c_X2_record g rest I J o c k.ho k.hc k.o5 k.c5 k.bd) rfl rfl (by decide +kernel) rfl (by decide) (Nat.le_of_ble_eq_true rfl) rfl ⟨Nat.zero_le _, Nat.zero_le _⟩ ?_
        refine EV_blk (own := 11) C rfl [(.aload_n 0, 0, 0, 0, 0), (.getfield 12, 11, 0, 368, 0), (.iload_n 1, 0, 0, 0, 0), (.iload_n 2, 0, 0, 0, 0), (.iload_n 3, 0, 0, 0, 0)] (pc' := 51) (by decide +kernel) (lv' := [some (.ref 0), some (.int (nI (tq_N W))), some (.int (nI (tq_N H))), some (.int t)]) (st' := [.int t, .int (nI (tq_N H)), .int (nI (tq_N W)), .ref 1]) (I' := (tq_rec I o c)) (J' := J) rfl ?_
        refine EV_cV (own := 11) (idx := 61) (μ' := mX8_startMap) (b := 1) (cb := 8) (av := [.int (nI (tq_N W)), .int (nI (tq_N H)), .int t]) (rest := []) C hR rfl (Or.inl ⟨345, by decide⟩) kX8_startMap sX8_startMap (c_X8_startMap g rest (tq_rec I o c) J (tq_N W) (tq_N H) t (by omega) (by omega)) rfl rfl (by decide +kernel) rfl (by decide) (Nat.le_of_ble_eq_true rfl) rfl ⟨Nat.zero_le _, Nat.zero_le _⟩ ?_
        refine EV_blk (own := 11) C rfl [(.iload_n 1, 0, 0, 0, 0), (.iload_n 2, 0, 0, 0, 0), (.imul, 0, 0, 0, 0)] (pc' := 57) (by decide +kernel) (lv' := [some (.ref 0), some (.int (nI (tq_N W))), some (.int (nI (tq_N H))), some (.int t)]) (st' := [.int ((nI (tq_N W)) * (nI (tq_N H)))]) (I' := (I_X8_startMap (tq_rec I o c) (tq_N W) (tq_N H) t)) (J' := J) rfl ?_
        exact EV_iret C hZ rfl (by decide +kernel) (Nat.le_refl _) (Nat.le_refl _) ⟨tq_some (by simp only [r_X11_begin, if_neg h1, if_neg h2, if_neg h3]), rfl, rfl, by simp only [I_X11_begin, if_neg h1, if_neg h2, if_neg h3], rfl⟩
      · skip
        refine EV_blk (own := 11) C rfl [(.bipush (-3), 0, 0, 0, (-3))] (pc' := 32) (by decide +kernel) (lv' := [some (.ref 0), some (.int W), some (.int H), some (.int t)]) (st' := [.int (-3)]) (I' := I) (J' := J) rfl ?_
        exact EV_iret C hZ rfl (by decide +kernel) (Nat.le_refl _) (Nat.le_refl _) ⟨tq_some (by simp only [r_X11_begin, if_neg h1, if_neg h2, if_pos h3]), rfl, rfl, by simp only [I_X11_begin, if_neg h1, if_neg h2, if_pos h3], rfl⟩
  · skip
    refine EV_blk (own := 11) C rfl [(.bipush (-2), 0, 0, 0, (-2))] (pc' := 9) (by decide +kernel) (lv' := [some (.ref 0), some (.int W), some (.int H), some (.int t)]) (st' := [.int (-2)]) (I' := I) (J' := J) rfl ?_
    exact EV_iret C hZ rfl (by decide +kernel) (Nat.le_refl _) (Nat.le_refl _) ⟨tq_some (by simp only [r_X11_begin, if_pos h1]), rfl, rfl, by simp only [I_X11_begin, if_pos h1], rfl⟩
end
