section
-- ===== PART A: goes FIRST, ahead of the names: the tables' words, and 'selects' of the private methods out of them =====
/-- a private method of a class that the tables say can be made, by its rows of tables_1 -/
def lw_okq (q : MethodName × Nat) : Prop := (q.1.cls ≠ "java/lang/invoke/MethodHandle" ∧ q.1.cls ≠ "java/lang/invoke/VarHandle") ∧ Cond.instantiable q.1.cls q.2 ∈ tables_1 ∧ Cond.privateMethod q.1 ∈ tables_1 ∧ Cond.instanceMethod q.1 ∈ tables_1
theorem lw_p0 : lw_okq (⟨"ScrollPieces", "saveState", "()V"⟩, 12) := ⟨⟨by decide +kernel, by decide +kernel⟩, List.mem_of_getElem? (i := 16) (by decide +kernel), List.mem_of_getElem? (i := 193) (by decide +kernel), List.mem_of_getElem? (i := 194) (by decide +kernel)⟩
theorem lw_p1 : lw_okq (⟨"ScrollPieces$Cheapest", "fillJoins", "(LScrollPieces$Scroll;)V"⟩, 3) := ⟨⟨by decide +kernel, by decide +kernel⟩, List.mem_of_getElem? (i := 112) (by decide +kernel), List.mem_of_getElem? (i := 208) (by decide +kernel), List.mem_of_getElem? (i := 209) (by decide +kernel)⟩
theorem lw_p2 : lw_okq (⟨"ScrollPieces$Cheapest", "fillLeast", "(II)V"⟩, 3) := ⟨⟨by decide +kernel, by decide +kernel⟩, List.mem_of_getElem? (i := 112) (by decide +kernel), List.mem_of_getElem? (i := 219) (by decide +kernel), List.mem_of_getElem? (i := 220) (by decide +kernel)⟩
theorem lw_p3 : lw_okq (⟨"ScrollPieces$Cheapest", "cheapestNext", "(III)I"⟩, 3) := ⟨⟨by decide +kernel, by decide +kernel⟩, List.mem_of_getElem? (i := 112) (by decide +kernel), List.mem_of_getElem? (i := 223) (by decide +kernel), List.mem_of_getElem? (i := 224) (by decide +kernel)⟩
theorem lw_p4 : lw_okq (⟨"ScrollPieces$Cheapest", "costBehind", "(III)I"⟩, 3) := ⟨⟨by decide +kernel, by decide +kernel⟩, List.mem_of_getElem? (i := 112) (by decide +kernel), List.mem_of_getElem? (i := 227) (by decide +kernel), List.mem_of_getElem? (i := 228) (by decide +kernel)⟩
theorem lw_p5 : lw_okq (⟨"ScrollPieces", "readBuffer", "()I"⟩, 12) := ⟨⟨by decide +kernel, by decide +kernel⟩, List.mem_of_getElem? (i := 16) (by decide +kernel), List.mem_of_getElem? (i := 245) (by decide +kernel), List.mem_of_getElem? (i := 246) (by decide +kernel)⟩
theorem lw_p6 : lw_okq (⟨"ScrollPieces$Reader", "beginPiece", "()V"⟩, 9) := ⟨⟨by decide +kernel, by decide +kernel⟩, List.mem_of_getElem? (i := 71) (by decide +kernel), List.mem_of_getElem? (i := 253) (by decide +kernel), List.mem_of_getElem? (i := 254) (by decide +kernel)⟩
theorem lw_p7 : lw_okq (⟨"ScrollPieces$Reader", "takesWidth", "(C)Z"⟩, 9) := ⟨⟨by decide +kernel, by decide +kernel⟩, List.mem_of_getElem? (i := 71) (by decide +kernel), List.mem_of_getElem? (i := 261) (by decide +kernel), List.mem_of_getElem? (i := 262) (by decide +kernel)⟩
theorem lw_p8 : lw_okq (⟨"ScrollPieces$Reader", "takesEdges", "(C)Z"⟩, 9) := ⟨⟨by decide +kernel, by decide +kernel⟩, List.mem_of_getElem? (i := 71) (by decide +kernel), List.mem_of_getElem? (i := 268) (by decide +kernel), List.mem_of_getElem? (i := 269) (by decide +kernel)⟩
theorem lw_p9 : lw_okq (⟨"ScrollPieces$Reader", "takesNext", "(C)Z"⟩, 9) := ⟨⟨by decide +kernel, by decide +kernel⟩, List.mem_of_getElem? (i := 71) (by decide +kernel), List.mem_of_getElem? (i := 272) (by decide +kernel), List.mem_of_getElem? (i := 273) (by decide +kernel)⟩
theorem lw_p10 : lw_okq (⟨"ScrollPieces$Reader", "lastHole", "()I"⟩, 9) := ⟨⟨by decide +kernel, by decide +kernel⟩, List.mem_of_getElem? (i := 71) (by decide +kernel), List.mem_of_getElem? (i := 276) (by decide +kernel), List.mem_of_getElem? (i := 277) (by decide +kernel)⟩
theorem lw_p11 : lw_okq (⟨"ScrollPieces$Reader", "takesPlace", "(C)Z"⟩, 9) := ⟨⟨by decide +kernel, by decide +kernel⟩, List.mem_of_getElem? (i := 71) (by decide +kernel), List.mem_of_getElem? (i := 280) (by decide +kernel), List.mem_of_getElem? (i := 281) (by decide +kernel)⟩
theorem lw_p12 : lw_okq (⟨"ScrollPieces$Reader", "isPlace", "(I)Z"⟩, 9) := ⟨⟨by decide +kernel, by decide +kernel⟩, List.mem_of_getElem? (i := 71) (by decide +kernel), List.mem_of_getElem? (i := 284) (by decide +kernel), List.mem_of_getElem? (i := 285) (by decide +kernel)⟩
theorem lw_p13 : lw_okq (⟨"ScrollPieces$Reader", "beginsPlace", "(I)Z"⟩, 9) := ⟨⟨by decide +kernel, by decide +kernel⟩, List.mem_of_getElem? (i := 71) (by decide +kernel), List.mem_of_getElem? (i := 288) (by decide +kernel), List.mem_of_getElem? (i := 289) (by decide +kernel)⟩
theorem lw_p14 : lw_okq (⟨"ScrollPieces", "wrongIfOrdered", "()I"⟩, 12) := ⟨⟨by decide +kernel, by decide +kernel⟩, List.mem_of_getElem? (i := 16) (by decide +kernel), List.mem_of_getElem? (i := 300) (by decide +kernel), List.mem_of_getElem? (i := 301) (by decide +kernel)⟩
theorem lw_p15 : lw_okq (⟨"ScrollPieces$HoleLine", "isWrong", "(I)Z"⟩, 5) := ⟨⟨by decide +kernel, by decide +kernel⟩, List.mem_of_getElem? (i := 129) (by decide +kernel), List.mem_of_getElem? (i := 312) (by decide +kernel), List.mem_of_getElem? (i := 313) (by decide +kernel)⟩
def lw_privs_1 : List (MethodName × Nat) := [(⟨"ScrollPieces", "saveState", "()V"⟩, 12), (⟨"ScrollPieces$Cheapest", "fillJoins", "(LScrollPieces$Scroll;)V"⟩, 3), (⟨"ScrollPieces$Cheapest", "fillLeast", "(II)V"⟩, 3), (⟨"ScrollPieces$Cheapest", "cheapestNext", "(III)I"⟩, 3), (⟨"ScrollPieces$Cheapest", "costBehind", "(III)I"⟩, 3), (⟨"ScrollPieces", "readBuffer", "()I"⟩, 12), (⟨"ScrollPieces$Reader", "beginPiece", "()V"⟩, 9), (⟨"ScrollPieces$Reader", "takesWidth", "(C)Z"⟩, 9), (⟨"ScrollPieces$Reader", "takesEdges", "(C)Z"⟩, 9), (⟨"ScrollPieces$Reader", "takesNext", "(C)Z"⟩, 9), (⟨"ScrollPieces$Reader", "lastHole", "()I"⟩, 9), (⟨"ScrollPieces$Reader", "takesPlace", "(C)Z"⟩, 9), (⟨"ScrollPieces$Reader", "isPlace", "(I)Z"⟩, 9), (⟨"ScrollPieces$Reader", "beginsPlace", "(I)Z"⟩, 9), (⟨"ScrollPieces", "wrongIfOrdered", "()I"⟩, 12), (⟨"ScrollPieces$HoleLine", "isWrong", "(I)Z"⟩, 5)]
theorem lw_r1 : ∀ q ∈ lw_privs_1, lw_okq q := List.forall_mem_cons.mpr ⟨lw_p0, List.forall_mem_cons.mpr ⟨lw_p1, List.forall_mem_cons.mpr ⟨lw_p2, List.forall_mem_cons.mpr ⟨lw_p3, List.forall_mem_cons.mpr ⟨lw_p4, List.forall_mem_cons.mpr ⟨lw_p5, List.forall_mem_cons.mpr ⟨lw_p6, List.forall_mem_cons.mpr ⟨lw_p7, List.forall_mem_cons.mpr ⟨lw_p8, List.forall_mem_cons.mpr ⟨lw_p9, List.forall_mem_cons.mpr ⟨lw_p10, List.forall_mem_cons.mpr ⟨lw_p11, List.forall_mem_cons.mpr ⟨lw_p12, List.forall_mem_cons.mpr ⟨lw_p13, List.forall_mem_cons.mpr ⟨lw_p14, List.forall_mem_cons.mpr ⟨lw_p15, fun _ h => absurd h List.not_mem_nil⟩⟩⟩⟩⟩⟩⟩⟩⟩⟩⟩⟩⟩⟩⟩⟩
theorem lw_p16 : lw_okq (⟨"ScrollPieces$HoleLine", "distance", "(I)I"⟩, 5) := ⟨⟨by decide +kernel, by decide +kernel⟩, List.mem_of_getElem? (i := 129) (by decide +kernel), List.mem_of_getElem? (i := 316) (by decide +kernel), List.mem_of_getElem? (i := 317) (by decide +kernel)⟩
theorem lw_p17 : lw_okq (⟨"ScrollPieces$HoleLine", "shouldBe", "(I)I"⟩, 5) := ⟨⟨by decide +kernel, by decide +kernel⟩, List.mem_of_getElem? (i := 129) (by decide +kernel), List.mem_of_getElem? (i := 320) (by decide +kernel), List.mem_of_getElem? (i := 321) (by decide +kernel)⟩
theorem lw_p18 : lw_okq (⟨"ScrollPieces", "holesNow", "()LScrollPieces$HoleLine;"⟩, 12) := ⟨⟨by decide +kernel, by decide +kernel⟩, List.mem_of_getElem? (i := 16) (by decide +kernel), List.mem_of_getElem? (i := 329) (by decide +kernel), List.mem_of_getElem? (i := 330) (by decide +kernel)⟩
theorem lw_p19 : lw_okq (⟨"ScrollPieces", "costByMean", "()D"⟩, 12) := ⟨⟨by decide +kernel, by decide +kernel⟩, List.mem_of_getElem? (i := 16) (by decide +kernel), List.mem_of_getElem? (i := 341) (by decide +kernel), List.mem_of_getElem? (i := 342) (by decide +kernel)⟩
theorem lw_p20 : lw_okq (⟨"ScrollPieces", "number", "(I)I"⟩, 12) := ⟨⟨by decide +kernel, by decide +kernel⟩, List.mem_of_getElem? (i := 16) (by decide +kernel), List.mem_of_getElem? (i := 350) (by decide +kernel), List.mem_of_getElem? (i := 351) (by decide +kernel)⟩
theorem lw_p21 : lw_okq (⟨"ScrollPieces$Scroll", "beginAt", "(I)I"⟩, 8) := ⟨⟨by decide +kernel, by decide +kernel⟩, List.mem_of_getElem? (i := 24) (by decide +kernel), List.mem_of_getElem? (i := 358) (by decide +kernel), List.mem_of_getElem? (i := 359) (by decide +kernel)⟩
theorem lw_p22 : lw_okq (⟨"ScrollPieces$HoleLine", "lacking", "(I)I"⟩, 5) := ⟨⟨by decide +kernel, by decide +kernel⟩, List.mem_of_getElem? (i := 129) (by decide +kernel), List.mem_of_getElem? (i := 382) (by decide +kernel), List.mem_of_getElem? (i := 383) (by decide +kernel)⟩
theorem lw_p23 : lw_okq (⟨"ScrollPieces", "withPieces", "(J)J"⟩, 12) := ⟨⟨by decide +kernel, by decide +kernel⟩, List.mem_of_getElem? (i := 16) (by decide +kernel), List.mem_of_getElem? (i := 390) (by decide +kernel), List.mem_of_getElem? (i := 391) (by decide +kernel)⟩
theorem lw_p24 : lw_okq (⟨"ScrollPieces$Scroll", "placeOf", "(I)I"⟩, 8) := ⟨⟨by decide +kernel, by decide +kernel⟩, List.mem_of_getElem? (i := 24) (by decide +kernel), List.mem_of_getElem? (i := 398) (by decide +kernel), List.mem_of_getElem? (i := 399) (by decide +kernel)⟩
theorem lw_p25 : lw_okq (⟨"ScrollPieces", "cheapestPlace", "(I)I"⟩, 12) := ⟨⟨by decide +kernel, by decide +kernel⟩, List.mem_of_getElem? (i := 16) (by decide +kernel), List.mem_of_getElem? (i := 412) (by decide +kernel), List.mem_of_getElem? (i := 413) (by decide +kernel)⟩
theorem lw_p26 : lw_okq (⟨"ScrollPieces", "withHoles", "(J)J"⟩, 12) := ⟨⟨by decide +kernel, by decide +kernel⟩, List.mem_of_getElem? (i := 16) (by decide +kernel), List.mem_of_getElem? (i := 420) (by decide +kernel), List.mem_of_getElem? (i := 421) (by decide +kernel)⟩
theorem lw_p27 : lw_okq (⟨"ScrollPieces", "withSlotsAndBuffer", "(J)J"⟩, 12) := ⟨⟨by decide +kernel, by decide +kernel⟩, List.mem_of_getElem? (i := 16) (by decide +kernel), List.mem_of_getElem? (i := 439) (by decide +kernel), List.mem_of_getElem? (i := 440) (by decide +kernel)⟩
theorem lw_p28 : lw_okq (⟨"java/lang/Throwable", "fillInStackTrace", "(I)Ljava/lang/Throwable;"⟩, 6) := ⟨⟨by decide +kernel, by decide +kernel⟩, List.mem_of_getElem? (i := 490) (by decide +kernel), List.mem_of_getElem? (i := 488) (by decide +kernel), List.mem_of_getElem? (i := 489) (by decide +kernel)⟩
theorem lw_p29 : lw_okq (⟨"ScrollPieces", "needPiece", "(I)V"⟩, 12) := ⟨⟨by decide +kernel, by decide +kernel⟩, List.mem_of_getElem? (i := 16) (by decide +kernel), List.mem_of_getElem? (i := 548) (by decide +kernel), List.mem_of_getElem? (i := 549) (by decide +kernel)⟩
theorem lw_p30 : lw_okq (⟨"ScrollPieces", "changeEdge", "(IIIII)I"⟩, 12) := ⟨⟨by decide +kernel, by decide +kernel⟩, List.mem_of_getElem? (i := 16) (by decide +kernel), List.mem_of_getElem? (i := 569) (by decide +kernel), List.mem_of_getElem? (i := 570) (by decide +kernel)⟩
theorem lw_p31 : lw_okq (⟨"ScrollPieces", "needPlaceIn", "(II)V"⟩, 12) := ⟨⟨by decide +kernel, by decide +kernel⟩, List.mem_of_getElem? (i := 16) (by decide +kernel), List.mem_of_getElem? (i := 589) (by decide +kernel), List.mem_of_getElem? (i := 590) (by decide +kernel)⟩
def lw_privs_2 : List (MethodName × Nat) := [(⟨"ScrollPieces$HoleLine", "distance", "(I)I"⟩, 5), (⟨"ScrollPieces$HoleLine", "shouldBe", "(I)I"⟩, 5), (⟨"ScrollPieces", "holesNow", "()LScrollPieces$HoleLine;"⟩, 12), (⟨"ScrollPieces", "costByMean", "()D"⟩, 12), (⟨"ScrollPieces", "number", "(I)I"⟩, 12), (⟨"ScrollPieces$Scroll", "beginAt", "(I)I"⟩, 8), (⟨"ScrollPieces$HoleLine", "lacking", "(I)I"⟩, 5), (⟨"ScrollPieces", "withPieces", "(J)J"⟩, 12), (⟨"ScrollPieces$Scroll", "placeOf", "(I)I"⟩, 8), (⟨"ScrollPieces", "cheapestPlace", "(I)I"⟩, 12), (⟨"ScrollPieces", "withHoles", "(J)J"⟩, 12), (⟨"ScrollPieces", "withSlotsAndBuffer", "(J)J"⟩, 12), (⟨"java/lang/Throwable", "fillInStackTrace", "(I)Ljava/lang/Throwable;"⟩, 6), (⟨"ScrollPieces", "needPiece", "(I)V"⟩, 12), (⟨"ScrollPieces", "changeEdge", "(IIIII)I"⟩, 12), (⟨"ScrollPieces", "needPlaceIn", "(II)V"⟩, 12)]
theorem lw_r2 : ∀ q ∈ lw_privs_2, lw_okq q := List.forall_mem_cons.mpr ⟨lw_p16, List.forall_mem_cons.mpr ⟨lw_p17, List.forall_mem_cons.mpr ⟨lw_p18, List.forall_mem_cons.mpr ⟨lw_p19, List.forall_mem_cons.mpr ⟨lw_p20, List.forall_mem_cons.mpr ⟨lw_p21, List.forall_mem_cons.mpr ⟨lw_p22, List.forall_mem_cons.mpr ⟨lw_p23, List.forall_mem_cons.mpr ⟨lw_p24, List.forall_mem_cons.mpr ⟨lw_p25, List.forall_mem_cons.mpr ⟨lw_p26, List.forall_mem_cons.mpr ⟨lw_p27, List.forall_mem_cons.mpr ⟨lw_p28, List.forall_mem_cons.mpr ⟨lw_p29, List.forall_mem_cons.mpr ⟨lw_p30, List.forall_mem_cons.mpr ⟨lw_p31, fun _ h => absurd h List.not_mem_nil⟩⟩⟩⟩⟩⟩⟩⟩⟩⟩⟩⟩⟩⟩⟩⟩
theorem lw_p32 : lw_okq (⟨"ScrollPieces", "addFromBuffer", "()V"⟩, 12) := ⟨⟨by decide +kernel, by decide +kernel⟩, List.mem_of_getElem? (i := 16) (by decide +kernel), List.mem_of_getElem? (i := 663) (by decide +kernel), List.mem_of_getElem? (i := 664) (by decide +kernel)⟩
theorem lw_p33 : lw_okq (⟨"ScrollPieces", "addRead", "()V"⟩, 12) := ⟨⟨by decide +kernel, by decide +kernel⟩, List.mem_of_getElem? (i := 16) (by decide +kernel), List.mem_of_getElem? (i := 668) (by decide +kernel), List.mem_of_getElem? (i := 669) (by decide +kernel)⟩
theorem lw_p34 : lw_okq (⟨"ScrollPiecesModel", "holds", "(I)Z"⟩, 17) := ⟨⟨by decide +kernel, by decide +kernel⟩, List.mem_of_getElem? (i := 776) (by decide +kernel), List.mem_of_getElem? (i := 845) (by decide +kernel), List.mem_of_getElem? (i := 846) (by decide +kernel)⟩
theorem lw_p35 : lw_okq (⟨"ScrollPiecesModel", "save", "()V"⟩, 17) := ⟨⟨by decide +kernel, by decide +kernel⟩, List.mem_of_getElem? (i := 776) (by decide +kernel), List.mem_of_getElem? (i := 849) (by decide +kernel), List.mem_of_getElem? (i := 850) (by decide +kernel)⟩
theorem lw_p36 : lw_okq (⟨"ScrollPiecesModel", "adds", "(I)I"⟩, 17) := ⟨⟨by decide +kernel, by decide +kernel⟩, List.mem_of_getElem? (i := 776) (by decide +kernel), List.mem_of_getElem? (i := 853) (by decide +kernel), List.mem_of_getElem? (i := 854) (by decide +kernel)⟩
theorem lw_p37 : lw_okq (⟨"ScrollPiecesModel", "isPiece", "(I)Z"⟩, 17) := ⟨⟨by decide +kernel, by decide +kernel⟩, List.mem_of_getElem? (i := 776) (by decide +kernel), List.mem_of_getElem? (i := 864) (by decide +kernel), List.mem_of_getElem? (i := 865) (by decide +kernel)⟩
theorem lw_p38 : lw_okq (⟨"ScrollPiecesModel", "becomes", "(II)I"⟩, 17) := ⟨⟨by decide +kernel, by decide +kernel⟩, List.mem_of_getElem? (i := 776) (by decide +kernel), List.mem_of_getElem? (i := 868) (by decide +kernel), List.mem_of_getElem? (i := 869) (by decide +kernel)⟩
theorem lw_p39 : lw_okq (⟨"ScrollPiecesModel", "isPlaceIn", "(II)Z"⟩, 17) := ⟨⟨by decide +kernel, by decide +kernel⟩, List.mem_of_getElem? (i := 776) (by decide +kernel), List.mem_of_getElem? (i := 880) (by decide +kernel), List.mem_of_getElem? (i := 881) (by decide +kernel)⟩
theorem lw_p40 : lw_okq (⟨"ScrollPiecesModel", "isRoom", "(II)Z"⟩, 17) := ⟨⟨by decide +kernel, by decide +kernel⟩, List.mem_of_getElem? (i := 776) (by decide +kernel), List.mem_of_getElem? (i := 884) (by decide +kernel), List.mem_of_getElem? (i := 885) (by decide +kernel)⟩
theorem lw_p41 : lw_okq (⟨"ScrollPiecesModel", "hasHole", "(II)Z"⟩, 17) := ⟨⟨by decide +kernel, by decide +kernel⟩, List.mem_of_getElem? (i := 776) (by decide +kernel), List.mem_of_getElem? (i := 888) (by decide +kernel), List.mem_of_getElem? (i := 889) (by decide +kernel)⟩
theorem lw_p42 : lw_okq (⟨"ScrollPiecesModel", "holesOf", "(I)I"⟩, 17) := ⟨⟨by decide +kernel, by decide +kernel⟩, List.mem_of_getElem? (i := 776) (by decide +kernel), List.mem_of_getElem? (i := 892) (by decide +kernel), List.mem_of_getElem? (i := 893) (by decide +kernel)⟩
theorem lw_p43 : lw_okq (⟨"ScrollPiecesModel", "moves", "(II)V"⟩, 17) := ⟨⟨by decide +kernel, by decide +kernel⟩, List.mem_of_getElem? (i := 776) (by decide +kernel), List.mem_of_getElem? (i := 900) (by decide +kernel), List.mem_of_getElem? (i := 901) (by decide +kernel)⟩
theorem lw_p44 : lw_okq (⟨"ScrollPiecesModel", "placeOf", "(I)I"⟩, 17) := ⟨⟨by decide +kernel, by decide +kernel⟩, List.mem_of_getElem? (i := 776) (by decide +kernel), List.mem_of_getElem? (i := 904) (by decide +kernel), List.mem_of_getElem? (i := 905) (by decide +kernel)⟩
theorem lw_p45 : lw_okq (⟨"ScrollPiecesModel", "rowCost", "()I"⟩, 17) := ⟨⟨by decide +kernel, by decide +kernel⟩, List.mem_of_getElem? (i := 776) (by decide +kernel), List.mem_of_getElem? (i := 912) (by decide +kernel), List.mem_of_getElem? (i := 913) (by decide +kernel)⟩
theorem lw_p46 : lw_okq (⟨"ScrollPiecesModel", "joinOf", "(II)I"⟩, 17) := ⟨⟨by decide +kernel, by decide +kernel⟩, List.mem_of_getElem? (i := 776) (by decide +kernel), List.mem_of_getElem? (i := 916) (by decide +kernel), List.mem_of_getElem? (i := 917) (by decide +kernel)⟩
theorem lw_p47 : lw_okq (⟨"ScrollPiecesModel", "sorts", "()V"⟩, 17) := ⟨⟨by decide +kernel, by decide +kernel⟩, List.mem_of_getElem? (i := 776) (by decide +kernel), List.mem_of_getElem? (i := 927) (by decide +kernel), List.mem_of_getElem? (i := 928) (by decide +kernel)⟩
def lw_privs_3 : List (MethodName × Nat) := [(⟨"ScrollPieces", "addFromBuffer", "()V"⟩, 12), (⟨"ScrollPieces", "addRead", "()V"⟩, 12), (⟨"ScrollPiecesModel", "holds", "(I)Z"⟩, 17), (⟨"ScrollPiecesModel", "save", "()V"⟩, 17), (⟨"ScrollPiecesModel", "adds", "(I)I"⟩, 17), (⟨"ScrollPiecesModel", "isPiece", "(I)Z"⟩, 17), (⟨"ScrollPiecesModel", "becomes", "(II)I"⟩, 17), (⟨"ScrollPiecesModel", "isPlaceIn", "(II)Z"⟩, 17), (⟨"ScrollPiecesModel", "isRoom", "(II)Z"⟩, 17), (⟨"ScrollPiecesModel", "hasHole", "(II)Z"⟩, 17), (⟨"ScrollPiecesModel", "holesOf", "(I)I"⟩, 17), (⟨"ScrollPiecesModel", "moves", "(II)V"⟩, 17), (⟨"ScrollPiecesModel", "placeOf", "(I)I"⟩, 17), (⟨"ScrollPiecesModel", "rowCost", "()I"⟩, 17), (⟨"ScrollPiecesModel", "joinOf", "(II)I"⟩, 17), (⟨"ScrollPiecesModel", "sorts", "()V"⟩, 17)]
theorem lw_r3 : ∀ q ∈ lw_privs_3, lw_okq q := List.forall_mem_cons.mpr ⟨lw_p32, List.forall_mem_cons.mpr ⟨lw_p33, List.forall_mem_cons.mpr ⟨lw_p34, List.forall_mem_cons.mpr ⟨lw_p35, List.forall_mem_cons.mpr ⟨lw_p36, List.forall_mem_cons.mpr ⟨lw_p37, List.forall_mem_cons.mpr ⟨lw_p38, List.forall_mem_cons.mpr ⟨lw_p39, List.forall_mem_cons.mpr ⟨lw_p40, List.forall_mem_cons.mpr ⟨lw_p41, List.forall_mem_cons.mpr ⟨lw_p42, List.forall_mem_cons.mpr ⟨lw_p43, List.forall_mem_cons.mpr ⟨lw_p44, List.forall_mem_cons.mpr ⟨lw_p45, List.forall_mem_cons.mpr ⟨lw_p46, List.forall_mem_cons.mpr ⟨lw_p47, fun _ h => absurd h List.not_mem_nil⟩⟩⟩⟩⟩⟩⟩⟩⟩⟩⟩⟩⟩⟩⟩⟩
theorem lw_p48 : lw_okq (⟨"ScrollPiecesModel", "worksOut", "()I"⟩, 17) := ⟨⟨by decide +kernel, by decide +kernel⟩, List.mem_of_getElem? (i := 776) (by decide +kernel), List.mem_of_getElem? (i := 931) (by decide +kernel), List.mem_of_getElem? (i := 932) (by decide +kernel)⟩
theorem lw_p49 : lw_okq (⟨"ScrollPiecesModel", "restOf", "(II)I"⟩, 17) := ⟨⟨by decide +kernel, by decide +kernel⟩, List.mem_of_getElem? (i := 776) (by decide +kernel), List.mem_of_getElem? (i := 935) (by decide +kernel), List.mem_of_getElem? (i := 936) (by decide +kernel)⟩
theorem lw_p50 : lw_okq (⟨"ScrollPiecesModel", "goesThrough", "(Z)I"⟩, 17) := ⟨⟨by decide +kernel, by decide +kernel⟩, List.mem_of_getElem? (i := 776) (by decide +kernel), List.mem_of_getElem? (i := 956) (by decide +kernel), List.mem_of_getElem? (i := 957) (by decide +kernel)⟩
theorem lw_p51 : lw_okq (⟨"ScrollPiecesModel", "readPiece", "()V"⟩, 17) := ⟨⟨by decide +kernel, by decide +kernel⟩, List.mem_of_getElem? (i := 776) (by decide +kernel), List.mem_of_getElem? (i := 960) (by decide +kernel), List.mem_of_getElem? (i := 961) (by decide +kernel)⟩
theorem lw_p52 : lw_okq (⟨"ScrollPiecesModel", "number", "(II)I"⟩, 17) := ⟨⟨by decide +kernel, by decide +kernel⟩, List.mem_of_getElem? (i := 776) (by decide +kernel), List.mem_of_getElem? (i := 964) (by decide +kernel), List.mem_of_getElem? (i := 965) (by decide +kernel)⟩
theorem lw_p53 : lw_okq (⟨"ScrollPiecesModel", "isNext", "(II)Z"⟩, 17) := ⟨⟨by decide +kernel, by decide +kernel⟩, List.mem_of_getElem? (i := 776) (by decide +kernel), List.mem_of_getElem? (i := 968) (by decide +kernel), List.mem_of_getElem? (i := 969) (by decide +kernel)⟩
theorem lw_p54 : lw_okq (⟨"ScrollPiecesModel", "takes", "(II)I"⟩, 17) := ⟨⟨by decide +kernel, by decide +kernel⟩, List.mem_of_getElem? (i := 776) (by decide +kernel), List.mem_of_getElem? (i := 975) (by decide +kernel), List.mem_of_getElem? (i := 976) (by decide +kernel)⟩
theorem lw_p55 : lw_okq (⟨"ScrollPiecesModel", "readEdge", "(I)V"⟩, 17) := ⟨⟨by decide +kernel, by decide +kernel⟩, List.mem_of_getElem? (i := 776) (by decide +kernel), List.mem_of_getElem? (i := 979) (by decide +kernel), List.mem_of_getElem? (i := 980) (by decide +kernel)⟩
theorem lw_p56 : lw_okq (⟨"ScrollPiecesModel", "readHoles", "()V"⟩, 17) := ⟨⟨by decide +kernel, by decide +kernel⟩, List.mem_of_getElem? (i := 776) (by decide +kernel), List.mem_of_getElem? (i := 983) (by decide +kernel), List.mem_of_getElem? (i := 984) (by decide +kernel)⟩
theorem lw_p57 : lw_okq (⟨"ScrollPiecesModel", "ofPiece", "(II)I"⟩, 17) := ⟨⟨by decide +kernel, by decide +kernel⟩, List.mem_of_getElem? (i := 776) (by decide +kernel), List.mem_of_getElem? (i := 1007) (by decide +kernel), List.mem_of_getElem? (i := 1008) (by decide +kernel)⟩
theorem lw_p58 : lw_okq (⟨"ScrollPiecesModel", "beginOf", "(I)I"⟩, 17) := ⟨⟨by decide +kernel, by decide +kernel⟩, List.mem_of_getElem? (i := 776) (by decide +kernel), List.mem_of_getElem? (i := 1011) (by decide +kernel), List.mem_of_getElem? (i := 1012) (by decide +kernel)⟩
theorem lw_p59 : lw_okq (⟨"ScrollPiecesModel", "ofHole", "(II)I"⟩, 17) := ⟨⟨by decide +kernel, by decide +kernel⟩, List.mem_of_getElem? (i := 776) (by decide +kernel), List.mem_of_getElem? (i := 1031) (by decide +kernel), List.mem_of_getElem? (i := 1032) (by decide +kernel)⟩
theorem lw_p60 : lw_okq (⟨"ScrollPiecesModel", "findsHoles", "()V"⟩, 17) := ⟨⟨by decide +kernel, by decide +kernel⟩, List.mem_of_getElem? (i := 776) (by decide +kernel), List.mem_of_getElem? (i := 1035) (by decide +kernel), List.mem_of_getElem? (i := 1036) (by decide +kernel)⟩
theorem lw_p61 : lw_okq (⟨"ScrollPiecesModel", "distance", "(I)I"⟩, 17) := ⟨⟨by decide +kernel, by decide +kernel⟩, List.mem_of_getElem? (i := 776) (by decide +kernel), List.mem_of_getElem? (i := 1039) (by decide +kernel), List.mem_of_getElem? (i := 1040) (by decide +kernel)⟩
theorem lw_p62 : lw_okq (⟨"ScrollPiecesModel", "isWrongAt", "(I)Z"⟩, 17) := ⟨⟨by decide +kernel, by decide +kernel⟩, List.mem_of_getElem? (i := 776) (by decide +kernel), List.mem_of_getElem? (i := 1043) (by decide +kernel), List.mem_of_getElem? (i := 1044) (by decide +kernel)⟩
theorem lw_p63 : lw_okq (⟨"ScrollPiecesModel", "lacking", "(I)I"⟩, 17) := ⟨⟨by decide +kernel, by decide +kernel⟩, List.mem_of_getElem? (i := 776) (by decide +kernel), List.mem_of_getElem? (i := 1047) (by decide +kernel), List.mem_of_getElem? (i := 1048) (by decide +kernel)⟩
def lw_privs_4 : List (MethodName × Nat) := [(⟨"ScrollPiecesModel", "worksOut", "()I"⟩, 17), (⟨"ScrollPiecesModel", "restOf", "(II)I"⟩, 17), (⟨"ScrollPiecesModel", "goesThrough", "(Z)I"⟩, 17), (⟨"ScrollPiecesModel", "readPiece", "()V"⟩, 17), (⟨"ScrollPiecesModel", "number", "(II)I"⟩, 17), (⟨"ScrollPiecesModel", "isNext", "(II)Z"⟩, 17), (⟨"ScrollPiecesModel", "takes", "(II)I"⟩, 17), (⟨"ScrollPiecesModel", "readEdge", "(I)V"⟩, 17), (⟨"ScrollPiecesModel", "readHoles", "()V"⟩, 17), (⟨"ScrollPiecesModel", "ofPiece", "(II)I"⟩, 17), (⟨"ScrollPiecesModel", "beginOf", "(I)I"⟩, 17), (⟨"ScrollPiecesModel", "ofHole", "(II)I"⟩, 17), (⟨"ScrollPiecesModel", "findsHoles", "()V"⟩, 17), (⟨"ScrollPiecesModel", "distance", "(I)I"⟩, 17), (⟨"ScrollPiecesModel", "isWrongAt", "(I)Z"⟩, 17), (⟨"ScrollPiecesModel", "lacking", "(I)I"⟩, 17)]
theorem lw_r4 : ∀ q ∈ lw_privs_4, lw_okq q := List.forall_mem_cons.mpr ⟨lw_p48, List.forall_mem_cons.mpr ⟨lw_p49, List.forall_mem_cons.mpr ⟨lw_p50, List.forall_mem_cons.mpr ⟨lw_p51, List.forall_mem_cons.mpr ⟨lw_p52, List.forall_mem_cons.mpr ⟨lw_p53, List.forall_mem_cons.mpr ⟨lw_p54, List.forall_mem_cons.mpr ⟨lw_p55, List.forall_mem_cons.mpr ⟨lw_p56, List.forall_mem_cons.mpr ⟨lw_p57, List.forall_mem_cons.mpr ⟨lw_p58, List.forall_mem_cons.mpr ⟨lw_p59, List.forall_mem_cons.mpr ⟨lw_p60, List.forall_mem_cons.mpr ⟨lw_p61, List.forall_mem_cons.mpr ⟨lw_p62, List.forall_mem_cons.mpr ⟨lw_p63, fun _ h => absurd h List.not_mem_nil⟩⟩⟩⟩⟩⟩⟩⟩⟩⟩⟩⟩⟩⟩⟩⟩
theorem lw_p64 : lw_okq (⟨"ScrollPiecesModel", "counted", "(I)I"⟩, 17) := ⟨⟨by decide +kernel, by decide +kernel⟩, List.mem_of_getElem? (i := 776) (by decide +kernel), List.mem_of_getElem? (i := 1055) (by decide +kernel), List.mem_of_getElem? (i := 1056) (by decide +kernel)⟩
theorem lw_p65 : lw_okq (⟨"ScrollPiecesModel", "sumOf", "(I)I"⟩, 17) := ⟨⟨by decide +kernel, by decide +kernel⟩, List.mem_of_getElem? (i := 776) (by decide +kernel), List.mem_of_getElem? (i := 1059) (by decide +kernel), List.mem_of_getElem? (i := 1060) (by decide +kernel)⟩
theorem lw_p66 : lw_okq (⟨"ScrollPiecesModel", "wrongs", "(I)I"⟩, 17) := ⟨⟨by decide +kernel, by decide +kernel⟩, List.mem_of_getElem? (i := 776) (by decide +kernel), List.mem_of_getElem? (i := 1063) (by decide +kernel), List.mem_of_getElem? (i := 1064) (by decide +kernel)⟩
theorem lw_p67 : lw_okq (⟨"ScrollPiecesModel", "bestBut", "(II)I"⟩, 17) := ⟨⟨by decide +kernel, by decide +kernel⟩, List.mem_of_getElem? (i := 776) (by decide +kernel), List.mem_of_getElem? (i := 1075) (by decide +kernel), List.mem_of_getElem? (i := 1076) (by decide +kernel)⟩
theorem lw_p68 : lw_okq (⟨"ScrollPiecesModel", "sureOf", "(I)I"⟩, 17) := ⟨⟨by decide +kernel, by decide +kernel⟩, List.mem_of_getElem? (i := 776) (by decide +kernel), List.mem_of_getElem? (i := 1083) (by decide +kernel), List.mem_of_getElem? (i := 1084) (by decide +kernel)⟩
theorem lw_p69 : lw_okq (⟨"ScrollPiecesModel", "placeFor", "(I)I"⟩, 17) := ⟨⟨by decide +kernel, by decide +kernel⟩, List.mem_of_getElem? (i := 776) (by decide +kernel), List.mem_of_getElem? (i := 1091) (by decide +kernel), List.mem_of_getElem? (i := 1092) (by decide +kernel)⟩
theorem lw_p70 : lw_okq (⟨"ScrollPiecesModel", "putAside", "()V"⟩, 17) := ⟨⟨by decide +kernel, by decide +kernel⟩, List.mem_of_getElem? (i := 776) (by decide +kernel), List.mem_of_getElem? (i := 1095) (by decide +kernel), List.mem_of_getElem? (i := 1096) (by decide +kernel)⟩
theorem lw_p71 : lw_okq (⟨"ScrollPiecesModel", "putBack", "()V"⟩, 17) := ⟨⟨by decide +kernel, by decide +kernel⟩, List.mem_of_getElem? (i := 776) (by decide +kernel), List.mem_of_getElem? (i := 1099) (by decide +kernel), List.mem_of_getElem? (i := 1100) (by decide +kernel)⟩
theorem lw_p72 : lw_okq (⟨"ScrollPiecesModel", "wrongIfSorted", "()I"⟩, 17) := ⟨⟨by decide +kernel, by decide +kernel⟩, List.mem_of_getElem? (i := 776) (by decide +kernel), List.mem_of_getElem? (i := 1107) (by decide +kernel), List.mem_of_getElem? (i := 1108) (by decide +kernel)⟩
theorem lw_p73 : lw_okq (⟨"ScrollPiecesModel", "shrink", "()F"⟩, 17) := ⟨⟨by decide +kernel, by decide +kernel⟩, List.mem_of_getElem? (i := 776) (by decide +kernel), List.mem_of_getElem? (i := 1115) (by decide +kernel), List.mem_of_getElem? (i := 1116) (by decide +kernel)⟩
theorem lw_p74 : lw_okq (⟨"ScrollPiecesModel", "dear", "()D"⟩, 17) := ⟨⟨by decide +kernel, by decide +kernel⟩, List.mem_of_getElem? (i := 776) (by decide +kernel), List.mem_of_getElem? (i := 1123) (by decide +kernel), List.mem_of_getElem? (i := 1124) (by decide +kernel)⟩
theorem lw_p75 : lw_okq (⟨"ScrollPiecesModel", "digestOne", "(J)V"⟩, 17) := ⟨⟨by decide +kernel, by decide +kernel⟩, List.mem_of_getElem? (i := 776) (by decide +kernel), List.mem_of_getElem? (i := 1132) (by decide +kernel), List.mem_of_getElem? (i := 1133) (by decide +kernel)⟩
theorem lw_p76 : lw_okq (⟨"ScrollPiecesModel", "digestPieces", "()V"⟩, 17) := ⟨⟨by decide +kernel, by decide +kernel⟩, List.mem_of_getElem? (i := 776) (by decide +kernel), List.mem_of_getElem? (i := 1137) (by decide +kernel), List.mem_of_getElem? (i := 1138) (by decide +kernel)⟩
def lw_privs_5 : List (MethodName × Nat) := [(⟨"ScrollPiecesModel", "counted", "(I)I"⟩, 17), (⟨"ScrollPiecesModel", "sumOf", "(I)I"⟩, 17), (⟨"ScrollPiecesModel", "wrongs", "(I)I"⟩, 17), (⟨"ScrollPiecesModel", "bestBut", "(II)I"⟩, 17), (⟨"ScrollPiecesModel", "sureOf", "(I)I"⟩, 17), (⟨"ScrollPiecesModel", "placeFor", "(I)I"⟩, 17), (⟨"ScrollPiecesModel", "putAside", "()V"⟩, 17), (⟨"ScrollPiecesModel", "putBack", "()V"⟩, 17), (⟨"ScrollPiecesModel", "wrongIfSorted", "()I"⟩, 17), (⟨"ScrollPiecesModel", "shrink", "()F"⟩, 17), (⟨"ScrollPiecesModel", "dear", "()D"⟩, 17), (⟨"ScrollPiecesModel", "digestOne", "(J)V"⟩, 17), (⟨"ScrollPiecesModel", "digestPieces", "()V"⟩, 17)]
theorem lw_r5 : ∀ q ∈ lw_privs_5, lw_okq q := List.forall_mem_cons.mpr ⟨lw_p64, List.forall_mem_cons.mpr ⟨lw_p65, List.forall_mem_cons.mpr ⟨lw_p66, List.forall_mem_cons.mpr ⟨lw_p67, List.forall_mem_cons.mpr ⟨lw_p68, List.forall_mem_cons.mpr ⟨lw_p69, List.forall_mem_cons.mpr ⟨lw_p70, List.forall_mem_cons.mpr ⟨lw_p71, List.forall_mem_cons.mpr ⟨lw_p72, List.forall_mem_cons.mpr ⟨lw_p73, List.forall_mem_cons.mpr ⟨lw_p74, List.forall_mem_cons.mpr ⟨lw_p75, List.forall_mem_cons.mpr ⟨lw_p76, fun _ h => absurd h List.not_mem_nil⟩⟩⟩⟩⟩⟩⟩⟩⟩⟩⟩⟩⟩
def lw_privs : List (MethodName × Nat) := lw_privs_1 ++ (lw_privs_2 ++ (lw_privs_3 ++ (lw_privs_4 ++ (lw_privs_5))))
def lw_tbl : List Cond := k2_sels lw_privs ++ tables_1
theorem lw_privs_ok : ∀ q ∈ lw_privs, lw_okq q := by
  show ∀ q ∈ lw_privs_1 ++ (lw_privs_2 ++ (lw_privs_3 ++ (lw_privs_4 ++ (lw_privs_5)))), lw_okq q
  exact List.forall_mem_append.mpr ⟨lw_r1, List.forall_mem_append.mpr ⟨lw_r2, List.forall_mem_append.mpr ⟨lw_r3, List.forall_mem_append.mpr ⟨lw_r4, lw_r5⟩⟩⟩⟩
/-- the streams that the claim lets the run draw from -/
abbrev lw_cs : List Choice := [Jvm.Choice.named "NaN.bits"]
theorem lw_bits : nanBits ∈ lw_cs := by first | decide | exact List.mem_cons_self | simp [lw_cs, nanBits]
-- ===== end of PART A; then your names; then what follows =====
/-! ===== BEGIN words of one list among another's, by their places ===== -/
theorem goodIn_r {big : List Cond} (ws : List Cond) (ps : List Nat) (hp : ws = ps.filterMap (fun i => big[i]?)) (h : ws.all goodWord = true) : GoodIn big ws := by
  intro w hw
  have h1 := List.all_eq_true.mp h w hw
  rw [hp] at hw
  obtain ⟨i, -, hi⟩ := List.mem_filterMap.mp hw
  have hm : w ∈ big := by first | exact List.mem_of_getElem? hi | exact List.getElem?_mem hi
  exact ⟨hm, good_of_word h1⟩
theorem goodIn_app {big a b : List Cond} (ha : GoodIn big a) (hb : GoodIn big b) : GoodIn big (a ++ b) := fun w h => (List.mem_append.mp h).elim (ha w) (hb w)
theorem goodIn_ca {big a b : List Cond} {c : Cond} (ha : GoodIn big (c :: a)) (hb : GoodIn big b) : GoodIn big (c :: (a ++ b)) := fun w h => (List.mem_cons.mp h).elim (fun e => ha w (List.mem_cons.mpr (Or.inl e))) (fun h => (List.mem_append.mp h).elim (fun h => ha w (List.mem_cons.mpr (Or.inr h))) (hb w))
theorem goodIn_sub {big ws : List Cond} (hm : ∀ w ∈ ws, w ∈ big) (h : ws.all goodWord = true) : GoodIn big ws := fun w hw => ⟨hm w hw, good_of_word (List.all_eq_true.mp h w hw)⟩
/-! ===== END ===== -/

/-! ===== BEGIN exceptions that leave a method, and their catching by the caller (launches without stack traces) ===== -/
section VXA
/-! The laws vx_back, vx_callV, vx_callS, vx_callSW, vx_throw0, vx_throwS follow proofs of the library, with one case more: JvmDerived/Free/Laws.lean (Back.of_free), Shelf42/LK1.lean (callV, callS), Shelf/KitTraced.lean (throwNew0V, throwNewS). -/
/-- where a method has thrown q: the class by its name, the cell, what was written, the world -/
def vx_T (XC : String → State → State → Prop) (st : State) (q : Addr) (t : State) (mc ms : Nat) (free : Addr → Prop) : Prop :=
  ∃ (E : String) (ce : Cell) (L : List Loc), XC E st t ∧ t.heap[q]? = some ce ∧ ce.vm = .none ∧ st.vm.findClass E = some ce.cls ∧ st.WarmedH t.vm ∧ st.sameButNew ({ t with vm := st.vm } : State) L mc ms ∧ ∀ z ∈ L, free z.base
def vx_Q (Qc : Array Value → State → Outcome → State → Prop) (XC : String → State → State → Prop) (mc ms : Nat) (free : Addr → Prop) : Array Value → State → Outcome → State → Prop := fun a st o t =>
  (Qc a st o t ∧ ∃ L, FrameEnd st o t L mc ms ∧ ∀ q ∈ L, free q.base) ∨ ∃ q, o = .threw q ∧ vx_T XC st q t mc ms free
/-- a callee that returns or throws -/
def vx_Met (l : Launch) (y : MethodName) (ws : List Cond) (rm : Room) (Pc : Array Value → State → Prop) (Qc : Array Value → State → Outcome → State → Prop) (XC : String → State → State → Prop) (mc ms : Nat) (free : Addr → Prop) : Prop :=
  MetFree l y (headSpec ws rm) Pc (fun _ _ _ _ _ => True) (vx_Q Qc XC mc ms free)
def vx_Post (XC : String → State → State → Prop) (mc ms : Nat) (free : Addr → Prop) : Pt → Array Value → Addr → Pt → Prop := fun A a q B =>
  ∃ (g : JFrame) (mk : MethodId) (t : State) (L : List Loc) (E : String) (ce : Cell), B.U.heap = t.heap ∧ B.U.vm = t.vm ∧ XC E (A.U.calling g mk a) t ∧ t.heap[q]? = some ce ∧ ce.vm = .none ∧ A.U.vm.findClass E = some ce.cls ∧ B.locs = A.locs ++ L ∧ (∀ z ∈ L, free z.base) ∧ B.cells = A.cells + mc ∧ B.slots = A.slots + ms
def vx_Back (l : Launch) (R : Room) (p : Program) (e : Env) (below : List Frame) (s : State) (sargs : Array Value) (y : MethodName) (len W9 : Nat)
    (Pre : Pt → Array Value → Prop) (Post : Pt → Array Value → Option Value → Pt → Prop) (PostX : Pt → Array Value → Addr → Pt → Prop) : Prop :=
  ∀ (m : MethodId) (meth : Method) (c : Code) (A : Pt) (g : JFrame) (ig : Instr) (mk : MethodId) (a : Array Value),
    Stand p l e R s m sargs below meth c A.U A.locs A.cells A.slots → g.method = m → g.locals.size = c.maxLocals → decode c.code g.pc = .ok (ig, len) →
    2 * g.monitorRoom + (g.stack.map fun v => v.category).sum ≤ W9 → A.U.methodNamed? y = some mk → Pre A a →
    (∃ (v : Option Value) (B : Pt), Stand p l e R s m sargs below meth c B.U B.locs B.cells B.slots ∧ Post A a v B ∧
      Steps p.tables e below (doInvoke e (A.U.setTop g) [] mk a).1 (B.U.setTop { g with pc := g.pc + len, stack := v.toList ++ g.stack })) ∨
    (∃ (q : Addr) (B : Pt), Stand p l e R s m sargs below meth c B.U B.locs B.cells B.slots ∧ PostX A a q B ∧
      Steps p.tables e below (doInvoke e (A.U.setTop g) [] mk a).1 ((B.U.setTop g).pushFrame (.throwing q)))
section Payer
variable {l : Launch} {R : Room} {p : Program} {e : Env} {below : List Frame} {s : State} {sargs : Array Value} {y : MethodName} {len W9 : Nat}
theorem vx_back {ws : List Cond} {rm : Room} {Pc : Array Value → State → Prop} {Qc : Array Value → State → Outcome → State → Prop} {XC : String → State → State → Prop} {mc ms : Nat} {free : Addr → Prop} {bytes : ByteArray} {maxL : Nat} {ret : Option FieldType}
    (hM : vx_Met l y ws rm Pc Qc XC mc ms free) (hblind : FrameBlind Pc) (hrc : rm.cells = mc) (hrs : rm.slots = ms)
    (hframes : rm.frames + 1 ≤ R.frames) (hlocals : W9 + (maxL + 11) + rm.locals ≤ R.locals)
    (hws : ∀ w ∈ ws, ∀ a' U, s.WarmedH U.vm → w.before a' U = true) (hcode : Cond.code y bytes maxL ret ∈ ws) (hinit : ∀ a' U, s.WarmedH U.vm → (Cond.initialized y.cls).before a' U = true) :
    vx_Back l R p e below s sargs y len W9 (PreOf R mc ms Pc) (PostOf Qc mc ms free) (vx_Post XC mc ms free) := by
  intro m meth c A g ig mk a X hg hsize hdg hW hn hp
  have h1 : (headSpec ws rm).pre.before a A.U = true := atoms_intro fun w hw => hws w hw _ _ X.warmed
  have h2 : (Cond.code y bytes maxL ret).before a A.U = true := hws _ hcode _ _ X.warmed
  have h3 : (Cond.initialized y.cls).before a A.U = true := hinit _ _ X.warmed
  have h4 : A.cells + (headSpec ws rm).room.cells ≤ R.cells := by rw [show (headSpec ws rm).room.cells = mc from hrc]; exact hp.1
  have h5 : A.slots + (headSpec ws rm).room.slots ≤ R.slots := by rw [show (headSpec ws rm).room.slots = ms from hrs]; exact hp.2.1
  have hPc : Pc a (A.U.calling g mk a) := hblind _ _ _ _ hp.2.2
  obtain ⟨U, Ls, c0, s0⟩ := A
  dsimp only [Pt.U, Pt.locs, Pt.cells, Pt.slots] at h1 h2 h3 h4 h5 X hn hPc ⊢
  obtain ⟨methY, cY, hmY, hcY, -, hlY, -, -, -, -⟩ := Cond.code_spec hn h2
  obtain ⟨kY, hkY, -⟩ := className_of_methodNamed hn
  have hinitY : kY.init = .initialized := Cond.initialized_spec (findClass_of_methodNamed hn) hkY h3
  have h : At U g.method c below := by rw [hg]; exact X.here
  have hlocals9 : W9 + (maxL + 11) + (headSpec ws rm).room.locals ≤ R.locals := hlocals
  have happ : (headSpec ws rm).appliesLoose y e.platform (U.calling g mk a) = true :=
    Spec.appliesLoose_calling (g := g) h hdg hn hkY hinitY
      (X.room_calling (g := g) (R' := (headSpec ws rm).room) hsize hmY hcY hframes (by rw [hlY]; omega) h4 h5) h1
  obtain ⟨mid, hmid⟩ := h.above
  have hfr : (U.setTop g).frames = (.java g :: mid) ++ below := by rw [State.frames_setTop' g h.top, hmid]; rfl
  obtain ⟨o, s₂, hsteps, -, hend, hq⟩ := Steps.callFree hM p X.admits X.cas X.clock (acts := []) hfr happ hPc trivial
  have hq' : vx_Q Qc XC mc ms free a (U.calling g mk a) o s₂ := hq
  rw [State.frames_setTop' g h.top] at hend
  obtain ⟨g₀, hg0⟩ := Option.isSome_iff_exists.mp h.top
  obtain ⟨r, hr⟩ := State.topJava?_eq_some.mp hg0
  have hr' : (({ U with heap := s₂.heap, slotsUsed := s₂.slotsUsed } : State).setVm s₂.vm).frames = .java g₀ :: r := hr
  rcases hq' with ⟨hqc, L, hfe, hL⟩ | ⟨q, rfl, E, ce, L, hx, hce, hcv, hcl, hW₂, hsm, hL⟩
  · obtain ⟨⟨v, rfl⟩, hW₂, e2, q2, q3, q4, q5, q6⟩ := id hfe
    have e3 : s₂ = ({ (U.calling g mk a).setFrames s₂.frames with heap := s₂.heap, slotsUsed := s₂.slotsUsed } : State).setVm s₂.vm := by
      have : s₂ = ({ s₂ with vm := (U.calling g mk a).vm } : State).setVm s₂.vm := rfl
      rw [e2] at this
      exact this
    obtain ⟨c₂, i₂, len₂, hc₂, hd₂, hf₂⟩ := hend
    have hW' : U.WarmedH s₂.vm := hW₂
    have hcc : c₂ = c := by
      have h1 : s₂.code? g.method = U.code? g.method := by
        rw [State.code?_eq, State.code?_eq, hW'.alike.method?]
      exact Option.some.inj (hc₂.symm.trans (h1.trans h.code))
    subst hcc
    have hlen : len₂ = len := by rw [hdg] at hd₂; cases hd₂; rfl
    subst hlen
    have hs₂ : s₂ = (({ U with heap := s₂.heap, slotsUsed := s₂.slotsUsed } : State).setVm s₂.vm).setTop { g with pc := g.pc + len₂, stack := v.toList ++ g.stack } := by
      refine e3.trans ?_
      rw [hf₂, State.calling_eq h.top, State.setFrames_setFrames, State.setTop_of_frames _ hr', hr]
      rfl
    have hsame : U.sameButNew ({ U with heap := s₂.heap, slotsUsed := s₂.slotsUsed } : State) L mc ms := by
      refine ⟨?_, q2, q3, q4, q5, q6⟩
      obtain ⟨t, ht, -⟩ := State.frames_cons hr
      show ({ U with heap := s₂.heap, slotsUsed := s₂.slotsUsed } : State) = { U.setFrames U.frames with heap := s₂.heap, slotsUsed := s₂.slotsUsed }
      rw [State.setFrames_self ht]
    subst hg
    refine Or.inl ⟨v, ⟨(({ U with heap := s₂.heap, slotsUsed := s₂.slotsUsed } : State).setVm s₂.vm), Ls ++ L, c0 + mc, s0 + ms⟩,
      ⟨X.admits, X.cas, X.clock, X.frames, X.room, X.hears, X.method, X.code, (X.here.setHeapUsed s₂.heap s₂.slotsUsed).setVm hW'.alike, X.tail, State.WarmedH.trans X.warmed hW', X.limits, X.bytes, X.same.trans (hsame.setVm s.vm)⟩,
      ⟨g, mk, s₂, L, rfl, rfl, hqc, rfl, hL, rfl, rfl⟩, ?_⟩
    show Steps p.tables e below _ ((({ U with heap := s₂.heap, slotsUsed := s₂.slotsUsed } : State).setVm s₂.vm).setTop { g with pc := g.pc + len₂, stack := v.toList ++ g.stack })
    rw [← hs₂]
    exact hsteps
  · obtain ⟨e2, q2, q3, q4, q5, q6⟩ := id hsm
    have e3 : s₂ = ({ (U.calling g mk a).setFrames s₂.frames with heap := s₂.heap, slotsUsed := s₂.slotsUsed } : State).setVm s₂.vm := by
      have : s₂ = ({ s₂ with vm := (U.calling g mk a).vm } : State).setVm s₂.vm := rfl
      rw [e2] at this
      exact this
    have hf₂ : s₂.frames = .throwing q :: .java g :: U.frames.tail := hend
    have hW' : U.WarmedH s₂.vm := hW₂
    have hs₂ : s₂ = ((({ U with heap := s₂.heap, slotsUsed := s₂.slotsUsed } : State).setVm s₂.vm).setTop g).pushFrame (.throwing q) := by
      refine e3.trans ?_
      rw [hf₂, State.calling_eq h.top, State.setFrames_setFrames, State.pushFrame, State.frames_setTop _ hr', State.setTop_of_frames _ hr', State.setFrames_setFrames, hr]
      rfl
    have hsame : U.sameButNew ({ U with heap := s₂.heap, slotsUsed := s₂.slotsUsed } : State) L mc ms := by
      refine ⟨?_, q2, q3, q4, q5, q6⟩
      obtain ⟨t, ht, -⟩ := State.frames_cons hr
      show ({ U with heap := s₂.heap, slotsUsed := s₂.slotsUsed } : State) = { U.setFrames U.frames with heap := s₂.heap, slotsUsed := s₂.slotsUsed }
      rw [State.setFrames_self ht]
    subst hg
    refine Or.inr ⟨q, ⟨(({ U with heap := s₂.heap, slotsUsed := s₂.slotsUsed } : State).setVm s₂.vm), Ls ++ L, c0 + mc, s0 + ms⟩,
      ⟨X.admits, X.cas, X.clock, X.frames, X.room, X.hears, X.method, X.code, (X.here.setHeapUsed s₂.heap s₂.slotsUsed).setVm hW'.alike, X.tail, State.WarmedH.trans X.warmed hW', X.limits, X.bytes, X.same.trans (hsame.setVm s.vm)⟩,
      ⟨g, mk, s₂, L, E, ce, rfl, rfl, hx, hce, hcv, hcl, rfl, hL, rfl, rfl⟩, ?_⟩
    show Steps p.tables e below _ (((({ U with heap := s₂.heap, slotsUsed := s₂.slotsUsed } : State).setVm s₂.vm).setTop g).pushFrame (.throwing q))
    rw [← hs₂]
    exact hsteps
end Payer
section Calls
variable {p : Program} {l : Launch} {e : Env} {R : Room} {s : State} {m : MethodId} {args : Array Value} {below : List Frame} {meth : Method} {c : Code} {T : State} {locs : List Loc} {cells slots : Nat}
theorem vx_callV (X : Stand p l e R s m args below meth c T locs cells slots) (hexec : p.tables.exec = Jvm.exec) {own C : String} {index : Nat} {y : MethodName} {bytes : ByteArray} {maxL : Nat} {ret : Option FieldType}
    (hown : s.vm.findClass own = some m.cls) (hlink : (Cond.methodLink own index y).before args s = true) (hinst : (Cond.instanceMethod y).before args s = true) (hsel : (Cond.selects C y y).before args s = true)
    (hcode : (Cond.code y bytes maxL ret).before args s = true) (hy : y.cls ≠ "java/lang/invoke/MethodHandle" ∧ y.cls ≠ "java/lang/invoke/VarHandle")
    {W9 : Nat} {Pre : Pt → Array Value → Prop} {Post : Pt → Array Value → Option Value → Pt → Prop} {PostX : Pt → Array Value → Addr → Pt → Prop} (hK : vx_Back l R p e below s args y 3 W9 Pre Post PostX)
    {b : Addr} {cellB : Cell} (hcell : T.heap[b]? = some cellB) (hobj : cellB.vm.isStatics = false) (hcls : s.vm.findClass C = some cellB.cls)
    {g : JFrame} (hg : g.method = m) (hsize : g.locals.size = c.maxLocals) {argsL rest : List Value} (hlen : ∀ sig, parseMethodDescriptor y.desc = some sig → argsL.length = sig.parameters.length)
    (hstack : g.stack = argsL.reverse ++ .ref b :: rest) (hW : 2 * g.monitorRoom + (rest.map fun v => v.category).sum ≤ W9) (hdg : decode c.code g.pc = .ok (.invokevirtual index, 3))
    (hpre : ∀ vm₁, s.WarmedH vm₁ → Pre ⟨T.setVm vm₁, locs, cells, slots⟩ (Value.ref b :: argsL).toArray) :
    (∃ (v : Option Value) (vm₁ : Vm) (B : Pt), s.WarmedH vm₁ ∧ Stand p l e R s m args below meth c B.U B.locs B.cells B.slots ∧ Post ⟨T.setVm vm₁, locs, cells, slots⟩ (Value.ref b :: argsL).toArray v B ∧
      ∀ target, Steps p.tables e below (B.U.setTop { g with pc := g.pc + 3, stack := v.toList ++ rest }) target → Steps p.tables e below (T.setTop g) target) ∨
    (∃ (q : Addr) (vm₁ : Vm) (B : Pt), s.WarmedH vm₁ ∧ Stand p l e R s m args below meth c B.U B.locs B.cells B.slots ∧ PostX ⟨T.setVm vm₁, locs, cells, slots⟩ (Value.ref b :: argsL).toArray q B ∧
      Steps p.tables e below (T.setTop g) ((B.U.setTop { g with stack := rest }).pushFrame (.throwing q))) := by
  obtain ⟨mk, methM, hnamed, hmethM, hstM, habM⟩ := Cond.instanceMethod_spec hinst
  obtain ⟨methM', cM, hmethM', -, -, -, -, -, -, hsigM⟩ := Cond.code_spec hnamed hcode
  cases hmethM.symm.trans hmethM'
  obtain ⟨c2, r2, m2, q1, q2, q3, q4, kP, hkP, hkPi⟩ := Cond.selects_spec hsel
  cases hcls.symm.trans q1
  cases (State.methodFound?_of_named hnamed hy).symm.trans q2
  cases hnamed.symm.trans q3
  have hselP : selectMethod e.platform s.vm cellB.cls mk = .method mk := by rw [Launch.admits_selectMethod X.admits]; exact q4
  obtain ⟨vm₁, X₁, hstep₁⟩ := X.invokevirtual hexec hown hlink hnamed hmethM hstM hkP hkPi hy (a := b) (cell := cellB) hcell
    (fun z h => by rw [h] at hobj; cases hobj) hselP hmethM habM hkP hkPi (g := g) hg (argsL := argsL) (rest := rest) (hlen _ hsigM) hstack hdg
  rcases hK m meth c ⟨T.setVm vm₁, locs, cells, slots⟩ { g with stack := rest } (.invokevirtual index) mk (Value.ref b :: argsL).toArray X₁ hg hsize hdg hW (X₁.named hnamed) (hpre vm₁ X₁.warmed) with ⟨v, B, X', hpost, hsteps⟩ | ⟨q, B, X', hpost, hsteps⟩
  · exact Or.inl ⟨v, vm₁, B, X₁.warmed, X', hpost, fun target h => hstep₁ _ fun acts => by rw [doInvoke_state]; exact hsteps.trans h⟩
  · exact Or.inr ⟨q, vm₁, B, X₁.warmed, X', hpost, hstep₁ _ fun acts => by rw [doInvoke_state]; exact hsteps⟩
theorem vx_callS (X : Stand p l e R s m args below meth c T locs cells slots) (hexec : p.tables.exec = Jvm.exec) {own : String} {index : Nat} {y : MethodName} {bytes : ByteArray} {maxL : Nat} {ret : Option FieldType}
    (hown : s.vm.findClass own = some m.cls) (hlink : (Cond.methodLink own index y).before args s = true) (hstat : (Cond.static y).before args s = true) (hinit : (Cond.initialized y.cls).before args s = true)
    (hcode : (Cond.code y bytes maxL ret).before args s = true) (hy : y.cls ≠ "java/lang/invoke/MethodHandle" ∧ y.cls ≠ "java/lang/invoke/VarHandle")
    {W9 : Nat} {Pre : Pt → Array Value → Prop} {Post : Pt → Array Value → Option Value → Pt → Prop} {PostX : Pt → Array Value → Addr → Pt → Prop} (hK : vx_Back l R p e below s args y 3 W9 Pre Post PostX)
    {g : JFrame} (hg : g.method = m) (hsize : g.locals.size = c.maxLocals) {argsL rest : List Value} (hlen : ∀ sig, parseMethodDescriptor y.desc = some sig → argsL.length = sig.parameters.length)
    (hstack : g.stack = argsL.reverse ++ rest) (hW : 2 * g.monitorRoom + (rest.map fun v => v.category).sum ≤ W9) (hdg : decode c.code g.pc = .ok (.invokestatic index, 3))
    (hpre : ∀ vm₁, s.WarmedH vm₁ → Pre ⟨T.setVm vm₁, locs, cells, slots⟩ argsL.toArray) :
    (∃ (v : Option Value) (vm₁ : Vm) (B : Pt), s.WarmedH vm₁ ∧ Stand p l e R s m args below meth c B.U B.locs B.cells B.slots ∧ Post ⟨T.setVm vm₁, locs, cells, slots⟩ argsL.toArray v B ∧
      ∀ target, Steps p.tables e below (B.U.setTop { g with pc := g.pc + 3, stack := v.toList ++ rest }) target → Steps p.tables e below (T.setTop g) target) ∨
    (∃ (q : Addr) (vm₁ : Vm) (B : Pt), s.WarmedH vm₁ ∧ Stand p l e R s m args below meth c B.U B.locs B.cells B.slots ∧ PostX ⟨T.setVm vm₁, locs, cells, slots⟩ argsL.toArray q B ∧
      Steps p.tables e below (T.setTop g) ((B.U.setTop { g with stack := rest }).pushFrame (.throwing q))) := by
  obtain ⟨mk, hnamed⟩ := Cond.code_named hcode
  obtain ⟨methM, cM, hmethM, -, -, -, -, -, -, hsigM⟩ := Cond.code_spec hnamed hcode
  have hstatic : methM.isStatic = true := Cond.static_spec hnamed hmethM hstat
  obtain ⟨kP, hkP, -⟩ := className_of_methodNamed hnamed
  have hinitP : kP.init = .initialized := Cond.initialized_spec (findClass_of_methodNamed hnamed) hkP hinit
  obtain ⟨vm₁, X₁, hstep₁⟩ := X.invokestatic hexec hown hlink hnamed hmethM hstatic hkP hinitP hy (g := g) hg (argsL := argsL) (rest := rest) (hlen _ hsigM) hstack hdg
  rcases hK m meth c ⟨T.setVm vm₁, locs, cells, slots⟩ { g with stack := rest } (.invokestatic index) mk argsL.toArray X₁ hg hsize hdg hW (X₁.named hnamed) (hpre vm₁ X₁.warmed) with ⟨v, B, X', hpost, hsteps⟩ | ⟨q, B, X', hpost, hsteps⟩
  · exact Or.inl ⟨v, vm₁, B, X₁.warmed, X', hpost, fun target h => hstep₁ _ fun acts => by rw [doInvoke_state]; exact hsteps.trans h⟩
  · exact Or.inr ⟨q, vm₁, B, X₁.warmed, X', hpost, hstep₁ _ fun acts => by rw [doInvoke_state]; exact hsteps⟩
end Calls
theorem vx_cls {s : State} {T : State} {vm₁ : Vm} {E : String} {k : ClassId} (hW : s.WarmedH vm₁) (h : (T.setVm vm₁).vm.findClass E = some k) : s.vm.findClass E = some k := by
  have h1 : vm₁.findClass E = some k := h
  rw [hW.alike.findClass] at h1
  exact h1
/-- the method's frame g, with q thrown over it -/
def vx_W (p : Program) (l : Launch) (e : Env) (R : Room) (s : State) (m : MethodId) (args : Array Value) (below : List Frame) (meth : Method) (c : Code) (H : Heap) (locs : List Loc) (cells slots : Nat) (Q : State → Prop) (g : JFrame) (q : Addr) : Prop :=
  ∀ T : State, T.heap = H → Stand p l e R s m args below meth c T locs cells slots → ∃ t, Steps p.tables e below ((T.setTop g).pushFrame (.throwing q)) t ∧ Q t
def vx_Run (p : Program) (l : Launch) (e : Env) (R : Room) (s : State) (m : MethodId) (args : Array Value) (below : List Frame) (meth : Method) (c : Code) (H : Heap) (locs : List Loc) (cells slots mc ms : Nat) (g : JFrame) (rest : List Value) (Qa : State → Outcome → State → Prop) (XC : String → State → State → Prop) (free : Addr → Prop) : Prop :=
  ∀ T : State, T.heap = H → Stand p l e R s m args below meth c T locs cells slots →
    (∃ (v : Option Value) (st₀ t T' : State) (L : List Loc), st₀.heap = H ∧ Stand p l e R s m args below meth c T' (locs ++ L) (cells + mc) (slots + ms) ∧ (∀ q ∈ L, free q.base) ∧ T'.heap = t.heap ∧ T'.vm = t.vm ∧ Qa st₀ (.returned v) t ∧
      Goes p e below T g T' { g with pc := g.pc + 3, stack := v.toList ++ rest }) ∨
    (∃ (q : Addr) (st₀ t T' : State) (L : List Loc) (E : String) (ce : Cell), st₀.heap = H ∧ Stand p l e R s m args below meth c T' (locs ++ L) (cells + mc) (slots + ms) ∧ (∀ z ∈ L, free z.base) ∧ T'.heap = t.heap ∧ T'.vm = t.vm ∧ XC E st₀ t ∧ t.heap[q]? = some ce ∧ ce.vm = .none ∧ s.vm.findClass E = some ce.cls ∧
      Steps p.tables e below (T.setTop g) ((T'.setTop { g with stack := rest }).pushFrame (.throwing q)))
def vx_X {S : Type} (px : S → Prop) (B : String → S → State → Prop) (A : Nat → Prop) : String → State → State → Prop := fun E st t => ∃ u : S, px u ∧ B E u t ∧ va_F A st t
section Runs
variable {p : Program} {l : Launch} {e : Env} {R : Room} {s : State} {m : MethodId} {args : Array Value} {below : List Frame} {meth : Method} {c : Code} {H : Heap} {locs : List Loc} {cells slots : Nat}
variable {y : MethodName} {bytes cc : ByteArray} {maxL nL mc ms n index : Nat} {ret : Option FieldType} {ws : List Cond} {rm : Room} {Pc : Array Value → State → Prop} {Qc : Array Value → State → Outcome → State → Prop} {XC : String → State → State → Prop} {free : Addr → Prop} {Ts : List Cond} {own C : String} {b : Addr} {As rest : List Value} {g : JFrame}
theorem vx_callBack (cb : CallB R s args own index y bytes maxL ret ws rm mc ms n) (hM : vx_Met l y ws rm Pc Qc XC mc ms free) (hbl : FrameBlind Pc) : vx_Back l R p e below s args y 3 8 (PreOf R mc ms Pc) (PostOf Qc mc ms free) (vx_Post XC mc ms free) := by
  obtain ⟨hrc, hrs, hfr, hlo, hws, hcw, -, hini, -⟩ := cb
  exact vx_back (bytes := bytes) (maxL := maxL) (ret := ret) hM hbl hrc hrs hfr hlo hws hcw (fun a' U hW => word_at hW (Or.inl (by first | rfl | simp [Cond.onTables, Cond.keeps, Cond.steady])) hini)
theorem vx_runV (S : CallFix p m c cc nL s args Ts own) (hM : vx_Met l y ws rm Pc Qc XC mc ms free) (cw : CallW R s args own C index y bytes maxL ret ws rm mc ms n) (hp : PreV s H C b Pc As)
    (hg : g.method = m) (hn : As.length = n) (hsize : g.locals.size = nL) (hstack : g.stack = As.reverse ++ .ref b :: rest) (hW : 2 * g.monitorRoom + (rest.map fun v => v.category).sum ≤ 8) (hdg : decode cc g.pc = .ok (.invokevirtual index, 3)) (hf : cells + mc ≤ R.cells ∧ slots + ms ≤ R.slots) :
    vx_Run p l e R s m args below meth c H locs cells slots mc ms g rest (Qc (Value.ref b :: As).toArray) XC free := by
  have hK : vx_Back l R p e below s args y 3 8 (PreOf R mc ms Pc) (PostOf Qc mc ms free) (vx_Post XC mc ms free) := vx_callBack cw.1 hM hp.1
  obtain ⟨⟨-, -, -, -, -, -, hcode, -, hy, hlen, hl⟩, hin, hse⟩ := cw
  obtain ⟨hx, hb, hml, ho, -⟩ := S
  obtain ⟨-, ⟨cellB, hcB, hoB, hclB⟩, hPc⟩ := hp
  intro T hT X
  rcases vx_callV X hx (C := C) (bytes := bytes) (maxL := maxL) (ret := ret) ho hl hin hse hcode hy hK (by rw [hT]; exact hcB) hoB hclB hg (hsize.trans hml.symm) (argsL := As) (rest := rest) (fun sig h => hn.trans (hlen sig h)) hstack hW (by rw [hb]; exact hdg)
    (fun vm₁ hW₁ => ⟨hf.1, hf.2, hPc (T.setVm vm₁) hT hW₁⟩) with ⟨v, vm₁, ⟨U', l2, c2, s2⟩, hW₁, X', ⟨g', mk, t, L, e1, e2, hq, h1, hL, h2, h3⟩, st⟩ | ⟨q, vm₁, ⟨U', l2, c2, s2⟩, hW₁, X', ⟨g', mk, t, L, E, ce, e1, e2, hq, hce, hcv, hcl, h1, hL, h2, h3⟩, st⟩
  · dsimp only [Pt.U, Pt.locs, Pt.cells, Pt.slots] at X' e1 e2 h1 h2 h3 st
    subst h1; subst h2; subst h3
    exact Or.inl ⟨v, (T.setVm vm₁).calling g' mk (Value.ref b :: As).toArray, t, U', L, hT, X', hL, e1, e2, hq, st⟩
  · dsimp only [Pt.U, Pt.locs, Pt.cells, Pt.slots] at X' e1 e2 h1 h2 h3 st hcl
    subst h1; subst h2; subst h3
    exact Or.inr ⟨q, (T.setVm vm₁).calling g' mk (Value.ref b :: As).toArray, t, U', L, E, ce, hT, X', hL, e1, e2, hq, hce, hcv, vx_cls hW₁ hcl, st⟩
theorem vx_runS (S : CallFix p m c cc nL s args Ts own) (hM : vx_Met l y ws rm Pc Qc XC mc ms free) (cw : CallB R s args own index y bytes maxL ret ws rm mc ms n ∧ (Cond.static y).before args s = true) (hp : PreS s H Pc As)
    (hg : g.method = m) (hn : As.length = n) (hsize : g.locals.size = nL) (hstack : g.stack = As.reverse ++ rest) (hW : 2 * g.monitorRoom + (rest.map fun v => v.category).sum ≤ 8) (hdg : decode cc g.pc = .ok (.invokestatic index, 3)) (hf : cells + mc ≤ R.cells ∧ slots + ms ≤ R.slots) :
    vx_Run p l e R s m args below meth c H locs cells slots mc ms g rest (Qc As.toArray) XC free := by
  have hK : vx_Back l R p e below s args y 3 8 (PreOf R mc ms Pc) (PostOf Qc mc ms free) (vx_Post XC mc ms free) := vx_callBack cw.1 hM hp.1
  obtain ⟨⟨-, -, -, -, -, -, hcode, hini, hy, hlen, hl⟩, hstt⟩ := cw
  obtain ⟨hx, hb, hml, ho, -⟩ := S
  intro T hT X
  rcases vx_callS X hx (bytes := bytes) (maxL := maxL) (ret := ret) ho hl hstt hini hcode hy hK hg (hsize.trans hml.symm) (argsL := As) (rest := rest) (fun sig h => hn.trans (hlen sig h)) hstack hW (by rw [hb]; exact hdg)
    (fun vm₁ hW₁ => ⟨hf.1, hf.2, hp.2 (T.setVm vm₁) hT hW₁⟩) with ⟨v, vm₁, ⟨U', l2, c2, s2⟩, hW₁, X', ⟨g', mk, t, L, e1, e2, hq, h1, hL, h2, h3⟩, st⟩ | ⟨q, vm₁, ⟨U', l2, c2, s2⟩, hW₁, X', ⟨g', mk, t, L, E, ce, e1, e2, hq, hce, hcv, hcl, h1, hL, h2, h3⟩, st⟩
  · dsimp only [Pt.U, Pt.locs, Pt.cells, Pt.slots] at X' e1 e2 h1 h2 h3 st
    subst h1; subst h2; subst h3
    exact Or.inl ⟨v, (T.setVm vm₁).calling g' mk As.toArray, t, U', L, hT, X', hL, e1, e2, hq, st⟩
  · dsimp only [Pt.U, Pt.locs, Pt.cells, Pt.slots] at X' e1 e2 h1 h2 h3 st hcl
    subst h1; subst h2; subst h3
    exact Or.inr ⟨q, (T.setVm vm₁).calling g' mk As.toArray, t, U', L, E, ce, hT, X', hL, e1, e2, hq, hce, hcv, vx_cls hW₁ hcl, st⟩
end Runs
section Rows
variable {p : Program} {l : Launch} {e : Env} {R : Room} {s : State} {m : MethodId} {args : Array Value} {below : List Frame} {meth : Method} {c : Code} {H : Heap} {locs : List Loc} {cells slots : Nat} {Q : State → Prop}
variable {mc ms : Nat} {free : Addr → Prop} {A0 A1 : Nat → Prop} {H0 : Heap} {a : Array Value} {pc : Nat} {ls : Array Slot} {st0 rest : List Value}
theorem vx_keep {st₀ t T' : State} {L : List Loc} (h0 : st₀.heap = H) (e1 : T'.heap = t.heap) (hS : va_S A0 H0 H locs) (hA : ∀ q, q < H.size → A1 q → A0 q) (hf : ∀ q, free q → A0 q) (hL : ∀ q ∈ L, free q.base) (hF : va_F A1 st₀ t) :
    H.size ≤ T'.heap.size ∧ (∀ q : Nat, q < H.size → ¬ A1 q → T'.heap[q]? = H[q]?) ∧ va_S A0 H0 T'.heap (locs ++ L) := by
  obtain ⟨hz, hk⟩ := hF
  rw [h0] at hz hk
  exact ⟨by rw [e1]; exact hz, fun q h1 h2 => by rw [e1]; exact hk q h1 h2,
    ⟨Nat.le_trans hS.1 (by rw [e1]; exact hz), fun q h1 h2 => by rw [e1, hk q (Nat.lt_of_lt_of_le h1 hS.1) (fun z => h2 (hA q (Nat.lt_of_lt_of_le h1 hS.1) z))]; exact hS.2.1 q h1 h2, fun q hq => by
      rcases List.mem_append.mp hq with h | h
      · exact hS.2.2 q h
      · exact hf _ (hL q h)⟩⟩
theorem vx_calli {S SX : Type} {post : Int32 → S → Prop} {px : SX → Prop} {B : S → State → Prop} {BX : String → SX → State → Prop} {AX : Nat → Prop} (hr : vx_Run p l e R s m args below meth c H locs cells slots mc ms (F0 m pc ls st0) rest (va_Qi post B A1 a) (vx_X px BX AX) free) (hS : va_S A0 H0 H locs) (hA : ∀ q, q < H.size → A1 q → A0 q) (hf : ∀ q, free q → A0 q) (hAX : ∀ q, q < H.size → AX q → A0 q)
    (kx : ∀ (E : String) (ce : Cell) (q9 : Addr) (u : SX) (t : State) (H1 : Heap) (locs1 : List Loc), t.heap = H1 → s.vm.Alike t.vm → px u → BX E u t → H.size ≤ H1.size → (∀ q : Nat, q < H.size → ¬ AX q → H1[q]? = H[q]?) → va_S A0 H0 H1 locs1 → H1[q9]? = some ce → ce.vm = .none → s.vm.findClass E = some ce.cls → vx_W p l e R s m args below meth c H1 locs1 (cells + mc) (slots + ms) Q (F0 m pc ls rest) q9)
    (kk : ∀ (r : Int32) (u : S) (t : State) (H1 : Heap) (locs1 : List Loc), t.heap = H1 → s.vm.Alike t.vm → post r u → B u t → H.size ≤ H1.size → (∀ q : Nat, q < H.size → ¬ A1 q → H1[q]? = H[q]?) → va_S A0 H0 H1 locs1 → W p l e R s m args below meth c H1 locs1 (cells + mc) (slots + ms) Q (F0 m (pc + 3) ls (.int r :: rest))) : W p l e R s m args below meth c H locs cells slots Q (F0 m pc ls st0) := by
  intro T hT X
  rcases hr T hT X with ⟨v, st₀, t, T', L, h0, X', hL, e1, e2, ⟨⟨r, u, hv, hp, hb⟩, hF⟩, st⟩ | ⟨q, st₀, t, T', L, E, ce, h0, X', hL, e1, e2, ⟨u, hp, hb, hF⟩, hce, hcv, hcl, st⟩
  · cases hv
    obtain ⟨k1, k2, k3⟩ := vx_keep h0 e1 hS hA hf hL hF
    obtain ⟨t2, a1, b1⟩ := kk r u t T'.heap (locs ++ L) e1.symm (by rw [← e2]; exact X'.warmed.alike) hp hb k1 k2 k3 T' rfl X'
    exact ⟨t2, st t2 a1, b1⟩
  · obtain ⟨k1, k2, k3⟩ := vx_keep h0 e1 hS hAX hf hL hF
    obtain ⟨t2, a1, b1⟩ := kx E ce q u t T'.heap (locs ++ L) e1.symm (by rw [← e2]; exact X'.warmed.alike) hp hb k1 k2 k3 (by rw [e1]; exact hce) hcv hcl T' rfl X'
    exact ⟨t2, st.trans a1, b1⟩
theorem vx_calll {S SX : Type} {post : Int64 → S → Prop} {px : SX → Prop} {B : S → State → Prop} {BX : String → SX → State → Prop} {AX : Nat → Prop} (hr : vx_Run p l e R s m args below meth c H locs cells slots mc ms (F0 m pc ls st0) rest (va_Ql post B A1 a) (vx_X px BX AX) free) (hS : va_S A0 H0 H locs) (hA : ∀ q, q < H.size → A1 q → A0 q) (hf : ∀ q, free q → A0 q) (hAX : ∀ q, q < H.size → AX q → A0 q)
    (kx : ∀ (E : String) (ce : Cell) (q9 : Addr) (u : SX) (t : State) (H1 : Heap) (locs1 : List Loc), t.heap = H1 → s.vm.Alike t.vm → px u → BX E u t → H.size ≤ H1.size → (∀ q : Nat, q < H.size → ¬ AX q → H1[q]? = H[q]?) → va_S A0 H0 H1 locs1 → H1[q9]? = some ce → ce.vm = .none → s.vm.findClass E = some ce.cls → vx_W p l e R s m args below meth c H1 locs1 (cells + mc) (slots + ms) Q (F0 m pc ls rest) q9)
    (kk : ∀ (r : Int64) (u : S) (t : State) (H1 : Heap) (locs1 : List Loc), t.heap = H1 → s.vm.Alike t.vm → post r u → B u t → H.size ≤ H1.size → (∀ q : Nat, q < H.size → ¬ A1 q → H1[q]? = H[q]?) → va_S A0 H0 H1 locs1 → W p l e R s m args below meth c H1 locs1 (cells + mc) (slots + ms) Q (F0 m (pc + 3) ls (.long r :: rest))) : W p l e R s m args below meth c H locs cells slots Q (F0 m pc ls st0) := by
  intro T hT X
  rcases hr T hT X with ⟨v, st₀, t, T', L, h0, X', hL, e1, e2, ⟨⟨r, u, hv, hp, hb⟩, hF⟩, st⟩ | ⟨q, st₀, t, T', L, E, ce, h0, X', hL, e1, e2, ⟨u, hp, hb, hF⟩, hce, hcv, hcl, st⟩
  · cases hv
    obtain ⟨k1, k2, k3⟩ := vx_keep h0 e1 hS hA hf hL hF
    obtain ⟨t2, a1, b1⟩ := kk r u t T'.heap (locs ++ L) e1.symm (by rw [← e2]; exact X'.warmed.alike) hp hb k1 k2 k3 T' rfl X'
    exact ⟨t2, st t2 a1, b1⟩
  · obtain ⟨k1, k2, k3⟩ := vx_keep h0 e1 hS hAX hf hL hF
    obtain ⟨t2, a1, b1⟩ := kx E ce q u t T'.heap (locs ++ L) e1.symm (by rw [← e2]; exact X'.warmed.alike) hp hb k1 k2 k3 (by rw [e1]; exact hce) hcv hcl T' rfl X'
    exact ⟨t2, st.trans a1, b1⟩
theorem vx_callf {S SX : Type} {post : UInt32 → S → Prop} {px : SX → Prop} {B : S → State → Prop} {BX : String → SX → State → Prop} {AX : Nat → Prop} (hr : vx_Run p l e R s m args below meth c H locs cells slots mc ms (F0 m pc ls st0) rest (va_Qf post B A1 a) (vx_X px BX AX) free) (hS : va_S A0 H0 H locs) (hA : ∀ q, q < H.size → A1 q → A0 q) (hf : ∀ q, free q → A0 q) (hAX : ∀ q, q < H.size → AX q → A0 q)
    (kx : ∀ (E : String) (ce : Cell) (q9 : Addr) (u : SX) (t : State) (H1 : Heap) (locs1 : List Loc), t.heap = H1 → s.vm.Alike t.vm → px u → BX E u t → H.size ≤ H1.size → (∀ q : Nat, q < H.size → ¬ AX q → H1[q]? = H[q]?) → va_S A0 H0 H1 locs1 → H1[q9]? = some ce → ce.vm = .none → s.vm.findClass E = some ce.cls → vx_W p l e R s m args below meth c H1 locs1 (cells + mc) (slots + ms) Q (F0 m pc ls rest) q9)
    (kk : ∀ (r : UInt32) (u : S) (t : State) (H1 : Heap) (locs1 : List Loc), t.heap = H1 → s.vm.Alike t.vm → post r u → B u t → H.size ≤ H1.size → (∀ q : Nat, q < H.size → ¬ A1 q → H1[q]? = H[q]?) → va_S A0 H0 H1 locs1 → W p l e R s m args below meth c H1 locs1 (cells + mc) (slots + ms) Q (F0 m (pc + 3) ls (.float r :: rest))) : W p l e R s m args below meth c H locs cells slots Q (F0 m pc ls st0) := by
  intro T hT X
  rcases hr T hT X with ⟨v, st₀, t, T', L, h0, X', hL, e1, e2, ⟨⟨r, u, hv, hp, hb⟩, hF⟩, st⟩ | ⟨q, st₀, t, T', L, E, ce, h0, X', hL, e1, e2, ⟨u, hp, hb, hF⟩, hce, hcv, hcl, st⟩
  · cases hv
    obtain ⟨k1, k2, k3⟩ := vx_keep h0 e1 hS hA hf hL hF
    obtain ⟨t2, a1, b1⟩ := kk r u t T'.heap (locs ++ L) e1.symm (by rw [← e2]; exact X'.warmed.alike) hp hb k1 k2 k3 T' rfl X'
    exact ⟨t2, st t2 a1, b1⟩
  · obtain ⟨k1, k2, k3⟩ := vx_keep h0 e1 hS hAX hf hL hF
    obtain ⟨t2, a1, b1⟩ := kx E ce q u t T'.heap (locs ++ L) e1.symm (by rw [← e2]; exact X'.warmed.alike) hp hb k1 k2 k3 (by rw [e1]; exact hce) hcv hcl T' rfl X'
    exact ⟨t2, st.trans a1, b1⟩
theorem vx_calld {S SX : Type} {post : UInt64 → S → Prop} {px : SX → Prop} {B : S → State → Prop} {BX : String → SX → State → Prop} {AX : Nat → Prop} (hr : vx_Run p l e R s m args below meth c H locs cells slots mc ms (F0 m pc ls st0) rest (va_Qd post B A1 a) (vx_X px BX AX) free) (hS : va_S A0 H0 H locs) (hA : ∀ q, q < H.size → A1 q → A0 q) (hf : ∀ q, free q → A0 q) (hAX : ∀ q, q < H.size → AX q → A0 q)
    (kx : ∀ (E : String) (ce : Cell) (q9 : Addr) (u : SX) (t : State) (H1 : Heap) (locs1 : List Loc), t.heap = H1 → s.vm.Alike t.vm → px u → BX E u t → H.size ≤ H1.size → (∀ q : Nat, q < H.size → ¬ AX q → H1[q]? = H[q]?) → va_S A0 H0 H1 locs1 → H1[q9]? = some ce → ce.vm = .none → s.vm.findClass E = some ce.cls → vx_W p l e R s m args below meth c H1 locs1 (cells + mc) (slots + ms) Q (F0 m pc ls rest) q9)
    (kk : ∀ (r : UInt64) (u : S) (t : State) (H1 : Heap) (locs1 : List Loc), t.heap = H1 → s.vm.Alike t.vm → post r u → B u t → H.size ≤ H1.size → (∀ q : Nat, q < H.size → ¬ A1 q → H1[q]? = H[q]?) → va_S A0 H0 H1 locs1 → W p l e R s m args below meth c H1 locs1 (cells + mc) (slots + ms) Q (F0 m (pc + 3) ls (.double r :: rest))) : W p l e R s m args below meth c H locs cells slots Q (F0 m pc ls st0) := by
  intro T hT X
  rcases hr T hT X with ⟨v, st₀, t, T', L, h0, X', hL, e1, e2, ⟨⟨r, u, hv, hp, hb⟩, hF⟩, st⟩ | ⟨q, st₀, t, T', L, E, ce, h0, X', hL, e1, e2, ⟨u, hp, hb, hF⟩, hce, hcv, hcl, st⟩
  · cases hv
    obtain ⟨k1, k2, k3⟩ := vx_keep h0 e1 hS hA hf hL hF
    obtain ⟨t2, a1, b1⟩ := kk r u t T'.heap (locs ++ L) e1.symm (by rw [← e2]; exact X'.warmed.alike) hp hb k1 k2 k3 T' rfl X'
    exact ⟨t2, st t2 a1, b1⟩
  · obtain ⟨k1, k2, k3⟩ := vx_keep h0 e1 hS hAX hf hL hF
    obtain ⟨t2, a1, b1⟩ := kx E ce q u t T'.heap (locs ++ L) e1.symm (by rw [← e2]; exact X'.warmed.alike) hp hb k1 k2 k3 (by rw [e1]; exact hce) hcv hcl T' rfl X'
    exact ⟨t2, st.trans a1, b1⟩
theorem vx_callv {S SX : Type} {post : S → Prop} {px : SX → Prop} {B : S → State → Prop} {BX : String → SX → State → Prop} {AX : Nat → Prop} (hr : vx_Run p l e R s m args below meth c H locs cells slots mc ms (F0 m pc ls st0) rest (va_Qv post B A1 a) (vx_X px BX AX) free) (hS : va_S A0 H0 H locs) (hA : ∀ q, q < H.size → A1 q → A0 q) (hf : ∀ q, free q → A0 q) (hAX : ∀ q, q < H.size → AX q → A0 q)
    (kx : ∀ (E : String) (ce : Cell) (q9 : Addr) (u : SX) (t : State) (H1 : Heap) (locs1 : List Loc), t.heap = H1 → s.vm.Alike t.vm → px u → BX E u t → H.size ≤ H1.size → (∀ q : Nat, q < H.size → ¬ AX q → H1[q]? = H[q]?) → va_S A0 H0 H1 locs1 → H1[q9]? = some ce → ce.vm = .none → s.vm.findClass E = some ce.cls → vx_W p l e R s m args below meth c H1 locs1 (cells + mc) (slots + ms) Q (F0 m pc ls rest) q9)
    (kk : ∀ (u : S) (t : State) (H1 : Heap) (locs1 : List Loc), t.heap = H1 → s.vm.Alike t.vm → post u → B u t → H.size ≤ H1.size → (∀ q : Nat, q < H.size → ¬ A1 q → H1[q]? = H[q]?) → va_S A0 H0 H1 locs1 → W p l e R s m args below meth c H1 locs1 (cells + mc) (slots + ms) Q (F0 m (pc + 3) ls (rest))) : W p l e R s m args below meth c H locs cells slots Q (F0 m pc ls st0) := by
  intro T hT X
  rcases hr T hT X with ⟨v, st₀, t, T', L, h0, X', hL, e1, e2, ⟨⟨u, hv, hp, hb⟩, hF⟩, st⟩ | ⟨q, st₀, t, T', L, E, ce, h0, X', hL, e1, e2, ⟨u, hp, hb, hF⟩, hce, hcv, hcl, st⟩
  · cases hv
    obtain ⟨k1, k2, k3⟩ := vx_keep h0 e1 hS hA hf hL hF
    obtain ⟨t2, a1, b1⟩ := kk u t T'.heap (locs ++ L) e1.symm (by rw [← e2]; exact X'.warmed.alike) hp hb k1 k2 k3 T' rfl X'
    exact ⟨t2, st t2 a1, b1⟩
  · obtain ⟨k1, k2, k3⟩ := vx_keep h0 e1 hS hAX hf hL hF
    obtain ⟨t2, a1, b1⟩ := kx E ce q u t T'.heap (locs ++ L) e1.symm (by rw [← e2]; exact X'.warmed.alike) hp hb k1 k2 k3 (by rw [e1]; exact hce) hcv hcl T' rfl X'
    exact ⟨t2, st.trans a1, b1⟩
/-- caught by the row x of this method's table; the rows ahead don't take it -/
theorem vx_catch {own name : String} {E : String} {ce : Cell} {q : Addr} (hown : s.vm.findClass own = some m.cls) (pre : List ExceptionTableEntry) (x : ExceptionTableEntry) (suf : List ExceptionTableEntry) (hsplit : c.exceptionTable.toList = pre ++ x :: suf)
    (hpass : ∀ z ∈ pre, covers z pc = false ∨ (z.catchType ≠ 0 ∧ ∃ nm : String, (Cond.classLink own z.catchType nm).before args s = true ∧ va_Nc E nm s)) (hx : covers x pc = true) (h0 : x.catchType ≠ 0)
    (hlink : (Cond.classLink own x.catchType name).before args s = true) (hcast : (Cond.castable E name).before args s = true) (hcell : H[q]? = some ce) (hv : ce.vm = .none) (hcl : s.vm.findClass E = some ce.cls)
    (kk : W p l e R s m args below meth c H locs cells slots Q (F0 m x.handlerPc ls [.ref q])) : vx_W p l e R s m args below meth c H locs cells slots Q (F0 m pc ls rest) q := by
  intro T hT X
  have hpl : e.platform.magicAccessors = ({} : Platform).magicAccessors := by rw [X.admits.platform]
  obtain ⟨c3, c4, hc3, hc4, hasg⟩ := Cond.castable_spec hcast
  cases Option.some.inj (hc3.symm.trans hcl)
  obtain ⟨c5, hc5, hcl5⟩ := Cond.classLink_spec hown hlink e.platform hpl
  cases Option.some.inj (hc4.symm.trans hc5)
  obtain ⟨vm', X', st⟩ := X.thenCaughtThrough q (g := F0 m pc ls rest) rfl (Steps.refl _) (by rw [hT]; exact hcell) (by rw [hv]; rfl) (by obtain ⟨k9, h9, -⟩ := Vm.findClass_spec hcl; exact ⟨k9, h9⟩) pre x suf hsplit
    (fun z hz => by
      rcases hpass z hz with h | ⟨hz0, nm, hl1, hn1⟩
      · exact Or.inl h
      · obtain ⟨c6, hc6, hcl6⟩ := Cond.classLink_spec hown hl1 e.platform hpl
        obtain ⟨a8, b8, h1, h2, h3⟩ := hn1
        cases Option.some.inj (h1.symm.trans hcl)
        cases Option.some.inj (h2.symm.trans hc6)
        exact Or.inr ⟨hz0, _, hcl6, h3⟩) hx (Or.inr ⟨h0, c4, hcl5, hasg⟩)
  obtain ⟨t, a1, b1⟩ := kk (T.setVm vm') hT X'
  exact ⟨t, st.trans a1, b1⟩
end Rows
section Ends
variable {p : Program} {l : Launch} {e : Env} {R : Room} {s : State} {m : MethodId} {args : Array Value} {below : List Frame} {meth : Method} {c : Code} {H : Heap} {locs : List Loc} {cells slots : Nat} {Q : State → Prop}
variable {mc ms : Nat} {free : Addr → Prop} {A0 A1 : Nat → Prop} {H0 : Heap} {a : Array Value} {ls : Array Slot} {st0 rest : List Value}
variable {Qc : Array Value → State → Outcome → State → Prop} {XC : String → State → State → Prop}
/-- what a body that may throw owes at its end -/
def vx_MQ (below : List Frame) (Qc : Array Value → State → Outcome → State → Prop) (XC : String → State → State → Prop) (a : Array Value) (s : State) (mc ms : Nat) (free : Addr → Prop) : State → Prop := fun t =>
  ∃ o, t.status = .running ∧ Ended t below o ∧ vx_Q Qc XC mc ms free a s o t
theorem vx_ret {g : JFrame} {mc ms : Nat} (k : W p l e R s m args below meth c H locs cells slots (MQ below Qc args s mc ms free) g) : W p l e R s m args below meth c H locs cells slots (vx_MQ below Qc XC args s mc ms free) g := by
  intro T hT X
  obtain ⟨t, a1, o, b1, b2, b3, b4⟩ := k T hT X
  exact ⟨t, a1, o, b1, b2, Or.inl ⟨b3, b4⟩⟩
/-- not caught here: it goes on to the caller -/
theorem vx_widen {g : JFrame} {q : Addr} {k n : Nat} (h1 : cells ≤ k) (h2 : slots ≤ n) (kk : vx_W p l e R s m args below meth c H locs k n Q g q) : vx_W p l e R s m args below meth c H locs cells slots Q g q := fun T hT X => kk T hT (stand_widen X h1 h2)
theorem vx_out {pc : Nat} {E : String} {ce : Cell} {q : Addr} {mc ms : Nat} (hout : ∀ x ∈ c.exceptionTable.toList, covers x pc = false) (hlocks : meth.locks = false) (hcell : H[q]? = some ce) (hv : ce.vm = .none) (hcl : s.vm.findClass E = some ce.cls)
    (hx : ∀ t : State, t.heap = H → s.vm.Alike t.vm → XC E s t) (hf : ∀ z ∈ locs, free z.base) (hc : cells ≤ mc) (hs : slots ≤ ms) :
    vx_W p l e R s m args below meth c H locs cells slots (vx_MQ below Qc XC args s mc ms free) (F0 m pc ls rest) q := by
  intro T hT X
  obtain ⟨st1, hrun, hend, hW, hsm⟩ := X.leaveThrown q (g := F0 m pc ls rest) rfl rfl rfl hout hlocks
  have hcell9 : (T.setFrames (.throwing q :: below)).heap[q]? = some ce := by
    show T.heap[q]? = some ce
    rw [hT]; exact hcell
  exact ⟨_, st1, .threw q, hrun, hend, Or.inr ⟨q, rfl, E, ce, locs, hx _ hT hW.alike, hcell9, hv, hcl, hW, hsm.mono hc hs, hf⟩⟩
theorem vx_frame {U : State} {k n : Nat} (h : s.sameButNew ({ U with vm := s.vm } : State) locs k n) : s.heap.size ≤ U.heap.size ∧ ∀ q : Nat, q < s.heap.size → (∀ z ∈ locs, z.base ≠ q) → U.heap[q]? = s.heap[q]? := by
  obtain ⟨-, h2, -, -, -, h6⟩ := h
  refine ⟨h2, fun q hq hz => ?_⟩
  obtain ⟨c9, e1, e2, e3, e4⟩ := h6 q _ (Array.getElem?_eq_getElem hq)
  have hs : c9.slots = (s.heap[q]).slots := Array.ext_getElem? fun i => e4 i fun hm => hz _ hm rfl
  have h9 : c9 = s.heap[q] := by
    rw [hs] at e2
    exact e2
  have e5 : U.heap[q]? = some c9 := e1
  rw [e5, h9, Array.getElem?_eq_getElem hq]
/-- the words of a throw but the four that speak of the heap -/
def vx_no (w : Cond) : Bool := decide (w ≠ .isRef (.static Bundle.tN "UNASSIGNED_STACK" Bundle.steD)) && decide (w ≠ .isRef (.static Bundle.tN "SUPPRESSED_SENTINEL" Bundle.listD)) && decide (w ≠ .laysStatic Bundle.tN "UNASSIGNED_STACK" Bundle.steD) && decide (w ≠ .laysStatic Bundle.tN "SUPPRESSED_SENTINEL" Bundle.listD)
def vx_at0 (own : String) (ic : Nat) (X : String) (names : List String) : List Cond := (Bundle.ownAtoms0 own ic X names).filter vx_no
def vx_atS (own : String) (ic : Nat) (X : String) (names : List String) : List Cond := (Bundle.ownAtoms own ic X names).filter vx_no
/-- a word that the tables alone decide, or a good one -/
def vx_ot (w : Cond) : Bool := w.onTables || goodWord w
theorem vx_ot_at {args a' : Array Value} {s U : State} {w : Cond} (hW : s.WarmedH U.vm) (hvm : s.vm = U.vm) (hg : vx_ot w = true) (h : w.before args s = true) : w.before a' U = true := by
  simp only [vx_ot, Bool.or_eq_true] at hg
  rcases hg with hg | hg
  · exact va_tabs hg hvm h
  · exact word_at hW (good_of_word hg) h
/-- a list's words: the good ones out of the method's own list, the others by premises of their own -/
theorem vx_hat {args : Array Value} {s : State} {L B : List Cond} (h1 : ∀ w ∈ L.filter goodWord, w.before args s = true) (h2 : ∀ w ∈ L.filter (fun w => !goodWord w), w ∈ B) (h3 : ∀ w ∈ B, w.before args s = true) : ∀ w ∈ L, w.before args s = true := by
  intro w hw
  by_cases g : goodWord w = true
  · exact h1 w (List.mem_filter.mpr ⟨hw, g⟩)
  · refine h3 w (h2 w (List.mem_filter.mpr ⟨hw, ?_⟩))
    show (!goodWord w) = true
    cases hgw : goodWord w
    · rfl
    · exact absurd hgw g
theorem vx_c {args : Array Value} {s : State} {w : Cond} {B : List Cond} (h : w.before args s = true) (t : ∀ w ∈ B, w.before args s = true) : ∀ w' ∈ w :: B, w'.before args s = true := fun w' h' => (List.mem_cons.mp h').elim (fun e => by rw [e]; exact h) (t w')
theorem vx_n {args : Array Value} {s : State} : ∀ w ∈ ([] : List Cond), w.before args s = true := fun _ h => nomatch h
theorem vx_own {args : Array Value} {s : State} {L : List Cond} (h1 : ∀ w ∈ L.filter vx_no, w.before args s = true)
    (hU : (Cond.isRef (.static Bundle.tN "UNASSIGNED_STACK" Bundle.steD)).before args s = true) (hN : (Cond.isRef (.static Bundle.tN "SUPPRESSED_SENTINEL" Bundle.listD)).before args s = true)
    (lU : (Cond.laysStatic Bundle.tN "UNASSIGNED_STACK" Bundle.steD).before args s = true) (lN : (Cond.laysStatic Bundle.tN "SUPPRESSED_SENTINEL" Bundle.listD).before args s = true) : ∀ w ∈ L, w.before args s = true := by
  intro w hw
  by_cases e1 : w = .isRef (.static Bundle.tN "UNASSIGNED_STACK" Bundle.steD)
  · rw [e1]; exact hU
  · by_cases e2 : w = .isRef (.static Bundle.tN "SUPPRESSED_SENTINEL" Bundle.listD)
    · rw [e2]; exact hN
    · by_cases e3 : w = .laysStatic Bundle.tN "UNASSIGNED_STACK" Bundle.steD
      · rw [e3]; exact lU
      · by_cases e4 : w = .laysStatic Bundle.tN "SUPPRESSED_SENTINEL" Bundle.listD
        · rw [e4]; exact lN
        · exact h1 w (List.mem_filter.mpr ⟨hw, by unfold vx_no; rw [decide_eq_true e1, decide_eq_true e2, decide_eq_true e3, decide_eq_true e4]; rfl⟩)
/-- where a static field lies, its class's statics cell in H -/
def vx_L (C n d : String) (A : Nat → Prop) (U : State) (H : Heap) : Prop := ∃ (c : ClassId) (k : Class) (i : Nat) (f : Field) (a : Nat) (cell : Cell), U.vm.findClass C = some c ∧ U.fieldFound? C n d = some (c, k, i, f) ∧ f.isStatic = true ∧ k.statics = some a ∧ H[a]? = some cell ∧ cell.vm.isStatics = true ∧ cell.cls = c ∧ f.slot < cell.slots.size ∧ k.staticTypes[f.slot]? = some f.type ∧ ¬ A a
theorem vx_L.moved {C n d : String} {A : Nat → Prop} {u U : State} {H : Heap} (hvm : u.vm.Alike U.vm) (h : vx_L C n d A u H) : vx_L C n d A U H := by
  obtain ⟨c, k, i, f, a, cell, h1, h2, h3, h4, h5, h6, h7, h8, h9, h10⟩ := h
  obtain ⟨k', hi', he⟩ := State.fieldFound?_setVm hvm h2
  exact ⟨c, k', i, f, a, cell, by rw [hvm.findClass]; exact h1, hi', h3, by rw [he]; exact h4, h5, h6, h7, h8, by rw [he]; exact h9, h10⟩
theorem vx_L.kept {C n d : String} {A : Nat → Prop} {U : State} {H H1 : Heap} (h : vx_L C n d A U H) (hq : ∀ a : Nat, a < H.size → ¬ A a → H1[a]? = H[a]?) : vx_L C n d A U H1 := by
  obtain ⟨c, k, i, f, a, cell, h1, h2, h3, h4, h5, h6, h7, h8, h9, h10⟩ := h
  exact ⟨c, k, i, f, a, cell, h1, h2, h3, h4, by rw [hq a (Array.getElem?_eq_some_iff.mp h5).1 h10]; exact h5, h6, h7, h8, h9, h10⟩
theorem vx_L.narrow {C n d : String} {A B : Nat → Prop} {U : State} {H : Heap} (h : vx_L C n d A U H) (hAB : ∀ q, B q → A q) : vx_L C n d B U H := by
  obtain ⟨c, k, i, f, a, cell, h1, h2, h3, h4, h5, h6, h7, h8, h9, h10⟩ := h
  exact ⟨c, k, i, f, a, cell, h1, h2, h3, h4, h5, h6, h7, h8, h9, fun z => h10 (hAB _ z)⟩
theorem vx_L.word {C n d : String} {A : Nat → Prop} {s : State} {args : Array Value} (h : vx_L C n d A s s.heap) : (Cond.laysStatic C n d).before args s = true := by
  obtain ⟨c, k, i, f, a, cell, h1, h2, h3, h4, h5, h6, h7, h8, h9, -⟩ := h
  show (Cond.laysStatic C n d).holds args s none s [] = true
  exact Cond.laysStatic_of h1 h2 h3 h4 h5 h6 h7 h8 h9
/-- .. and what it holds: null or some reference -/
def vx_Zq (C n d : String) (A : Nat → Prop) (U : State) (H : Heap) : Prop := va_Zq C n d A U H ∧ vx_L C n d A U H
theorem vx_Zq.moved {C n d : String} {A : Nat → Prop} {u U : State} {H : Heap} (hvm : u.vm.Alike U.vm) (h : vx_Zq C n d A u H) : vx_Zq C n d A U H := ⟨va_Zq.moved hvm h.1, vx_L.moved hvm h.2⟩
theorem vx_Zq.kept {C n d : String} {A : Nat → Prop} {U : State} {H H1 : Heap} (h : vx_Zq C n d A U H) (hq : ∀ a : Nat, a < H.size → ¬ A a → H1[a]? = H[a]?) : vx_Zq C n d A U H1 := ⟨va_Zq.kept h.1 hq, vx_L.kept h.2 hq⟩
theorem vx_Zq.narrow {C n d : String} {A B : Nat → Prop} {U : State} {H : Heap} (h : vx_Zq C n d A U H) (hAB : ∀ q, B q → A q) : vx_Zq C n d B U H := ⟨va_Zq.narrow h.1 hAB, vx_L.narrow h.2 hAB⟩
theorem vx_Zqof {args : Array Value} {s : State} {C n d : String} {A : Nat → Prop} (hl : (Cond.laysStatic C n d).before args s = true) (hini : (Cond.initialized C).before args s = true) (h : (Cond.isRef (.static C n d)).before args s = true) (hA : ∀ a : Nat, a < s.heap.size → ¬ A a) : vx_Zq C n d A s s.heap := by
  refine ⟨va_Zqof hl hini h hA, ?_⟩
  obtain ⟨c, k, i, f, a, cell, h1, h2, h3, h4, h5, h6, h7, h8, h9⟩ := Cond.laysStatic_spec hl
  exact ⟨c, k, i, f, a, cell, h1, h2, h3, h4, h5, h6, h7, h8, h9, hA a (Array.getElem?_eq_some_iff.mp h5).1⟩
theorem vx_isRef {C n d : String} {v : Value} {A : Nat → Prop} {s : State} {args : Array Value} (h : va_Z C n d v A s s.heap) (hv : v.isRef = true) : (Cond.isRef (.static C n d)).before args s = true := by
  obtain ⟨cf, kf, fi, f, a, cell, h1, h2, h3, h4, h5, h6, h7, -⟩ := h
  have he : (Term.static C n d).eval args s none [] s = some v := by
    simp [Term.eval, State.fieldNamed?, h1, h2, h4, h5, h6, h7]
  simp only [Cond.before, Cond.holds, Cond.value, he]
  cases v <;> simp_all [Value.isRef]
theorem vx_isRefq {C n d : String} {A : Nat → Prop} {s : State} {args : Array Value} (h : va_Zq C n d A s s.heap) : (Cond.isRef (.static C n d)).before args s = true := by
  rcases h with h | ⟨t, h⟩
  · exact vx_isRef h rfl
  · exact vx_isRef h rfl
/-- the same frame, seen from here: as if the method were called anew in this heap -/
theorem vx_rebase {T : State} (X : Stand p l e R s m args below meth c T locs cells slots) {R' : Room} (hf : R'.frames ≤ R.frames) (hl : R'.locals ≤ R.locals) (hc : cells + R'.cells ≤ R.cells) (hs : slots + R'.slots ≤ R.slots) :
    Stand p l e R' ((T.setVm s.vm).setFrames (.invoking m args :: below)) m args below meth c T [] 0 0 := by
  have htop : (T.setVm s.vm).topJava?.isSome := X.here.top
  have hF : ((T.setVm s.vm).setFrames (.invoking m args :: below)).frames = .invoking m args :: below := State.frames_setFrames _ (State.cur_lt_of_top htop)
  obtain ⟨g₀, hg0⟩ := Option.isSome_iff_exists.mp htop
  obtain ⟨r, hr⟩ := State.topJava?_eq_some.mp hg0
  have hl9 : e.platform.stackLimits (T.setVm s.vm).me = e.platform.stackLimits s.me := X.limits
  have hb9 : (T.setVm s.vm).me.stackBytes = s.me.stackBytes := X.bytes
  refine ⟨X.admits, X.cas, X.clock, hF, ?_, X.hears, X.method, X.code, X.here, X.tail, X.warmed, ?_, ?_, ?_⟩
  · have h := X.room
    have hU : ((T.setVm s.vm).setFrames (.invoking m args :: below)).localsInUse = s.localsInUse := by
      rw [State.localsInUse_invoking hF (meth := meth) (c := c) X.method X.code, State.localsInUse_invoking X.frames X.method X.code]
    simp only [State.hasRoom, Bool.and_eq_true, decide_eq_true_eq] at h ⊢
    obtain ⟨⟨⟨⟨h1, h2, h3, h4, h5, h6⟩, h7⟩, h8⟩, h9⟩ := h
    rw [X.frames, List.length_cons] at h2 h3
    have q1 := X.heapSize
    have q2 := X.used
    simp only [hF, hU, List.length_cons, State.stackLimits_setFrames, State.stackBytes_setFrames, hl9, hb9]
    refine ⟨⟨⟨⟨by omega, by omega, by omega, by omega, by omega, h6⟩, ?_⟩, ?_⟩, X.book⟩
    · show T.heap.size + R'.cells ≤ e.platform.maxCells
      omega
    · show T.slotsUsed + R'.slots ≤ e.platform.maxSlots
      omega
  · rw [State.stackLimits_setFrames]; rfl
  · rw [State.stackBytes_setFrames]; rfl
  · refine ⟨?_, Nat.le_refl _, Nat.le_refl _, ?_, ?_, fun a c9 h9 => ⟨c9, h9, rfl, rfl, fun _ _ => rfl⟩⟩
    · obtain ⟨t, ht, -⟩ := State.frames_cons hr
      show T.setVm s.vm = { ((T.setVm s.vm).setFrames (.invoking m args :: below)).setFrames (T.setVm s.vm).frames with heap := T.heap, slotsUsed := T.slotsUsed }
      rw [State.setFrames_setFrames, State.setFrames_self ht]
      rfl
    · show T.slotsUsed = T.slotsUsed + ((T.heap.toList.drop T.heap.size).map (·.slots.size)).sum
      rw [List.drop_eq_nil_of_le (Nat.le_of_eq Array.length_toList)]
      rfl
    · show ((T.heap.toList.drop T.heap.size).map (·.slots.size)).sum ≤ 0
      rw [List.drop_eq_nil_of_le (Nat.le_of_eq Array.length_toList)]
      exact Nat.le_refl _
/-- 'throw new E()': new; dup; invokespecial; athrow -/
theorem vx_throw0 {cc : ByteArray} {pc : Nat} (hexec : p.tables.exec = Jvm.exec) (hb : c.code = cc) (hl : l.stackTraces = false) {own cls : String} {names : List String} {ik ic mc ms : Nat} {A : Nat → Prop}
    (hown : s.vm.findClass own = some m.cls) (hcls : Bundle.fit cls = true) (hnames : ∀ n ∈ names, Bundle.fit n = true)
    (hk : (Cond.classLink own ik cls).before args s = true) (hini : (Cond.initialized cls).before args s = true) (hat : ∀ w ∈ vx_at0 own ic cls names, w.before args s = true)
    (hgood : ∀ w ∈ Cond.classLink own ik cls :: Cond.initialized cls :: vx_at0 own ic cls names, vx_ot w = true)
    (hU : vx_Zq Bundle.tN "UNASSIGNED_STACK" Bundle.steD A s s.heap) (hN : vx_Zq Bundle.tN "SUPPRESSED_SENTINEL" Bundle.listD A s s.heap) (hS : va_S A s.heap H locs) (hsize : ls.size = c.maxLocals)
    (d0 : decode cc pc = .ok (.new ik, 3)) (d3 : decode cc (pc + 3) = .ok (.dup, 1)) (d4 : decode cc (pc + 4) = .ok (.invokespecial ic, 3)) (d7 : decode cc (pc + 7) = .ok (.athrow, 1))
    (hout : ∀ x ∈ c.exceptionTable.toList, covers x (pc + 7) = false)
    (hRframes : names.length + 3 < R.frames) (hRlocals : (rest.map fun v => v.category).sum + (13 * (names.length + 1) + 42) ≤ R.locals) (hRcells : cells + 1 ≤ R.cells) (hRslots : slots + 6 ≤ R.slots) (hlocks : meth.locks = false)
    (hx : ∀ t : State, s.vm.Alike t.vm → H.size ≤ t.heap.size → (∀ q : Nat, q < H.size → t.heap[q]? = H[q]?) → XC cls s t)
    (hf : ∀ z ∈ locs, free z.base) (hc : cells + 1 ≤ mc) (hs : slots + 6 ≤ ms) :
    W p l e R s m args below meth c H locs cells slots (vx_MQ below Qc XC args s mc ms free) (F0 m pc ls rest) := by
  intro T hT X
  have htr : e.platform.stackTraces = false := (show e.platform.stackTraces = l.stackTraces by rw [X.admits.platform]).trans hl
  have Y := vx_rebase X (R' := { frames := R.frames, locals := R.locals, cells := 1, slots := 6 }) (Nat.le_refl _) (Nat.le_refl _) hRcells hRslots
  obtain ⟨s', hA⟩ : ∃ z, z = (T.setVm s.vm).setFrames (.invoking m args :: below) := ⟨_, rfl⟩
  rw [← hA] at Y
  have hvm : s'.vm = s.vm := by rw [hA]; rfl
  have hhp : s'.heap = H := by rw [hA]; exact hT
  have hW0 : s.WarmedH s'.vm := by rw [hvm]; exact State.WarmedH.refl s
  have hat' : ∀ w ∈ vx_at0 own ic cls names, w.before args s' = true := fun w hw => vx_ot_at hW0 hvm.symm (hgood w (List.mem_cons_of_mem _ (List.mem_cons_of_mem _ hw))) (hat w hw)
  have hk' : (Cond.classLink own ik cls).before args s' = true := vx_ot_at hW0 hvm.symm (hgood _ List.mem_cons_self) hk
  have hini' : (Cond.initialized cls).before args s' = true := vx_ot_at hW0 hvm.symm (hgood _ (List.mem_cons_of_mem _ List.mem_cons_self)) hini
  have hU' : vx_Zq Bundle.tN "UNASSIGNED_STACK" Bundle.steD A s' s'.heap := by rw [hhp]; exact vx_Zq.moved hW0.alike (hU.kept hS.2.1)
  have hN' : vx_Zq Bundle.tN "SUPPRESSED_SENTINEL" Bundle.listD A s' s'.heap := by rw [hhp]; exact vx_Zq.moved hW0.alike (hN.kept hS.2.1)
  have h : ∀ w ∈ Bundle.ownAtoms0 own ic cls names, w.before args s' = true := vx_own hat' (vx_isRefq hU'.1) (vx_isRefq hN'.1) hU'.2.word hN'.2.word
  have hown' : s'.vm.findClass own = some m.cls := by rw [hvm]; exact hown
  have hins : (Cond.instantiable cls 6).before args s' = true := h _ (by simp [Bundle.ownAtoms0])
  obtain ⟨vm₁, cX, kX, hfX, hkX, -, -, X₁, st1⟩ := Y.newCold hexec (own := own) (C := cls) (index := ik) (n := 6) hown' hk' hins hini'
    (g := F0 m pc ls rest) rfl (by rw [hb]; exact d0) (Nat.le_refl _) (Nat.le_refl _)
  generalize hT1 : (T.setVm vm₁).pushCell { cls := cX, slots := kX.instanceTypes.map defaultValue, vm := .none } = T1 at X₁ st1
  have hcat : (Value.ref T.heap.size).category = 1 := rfl
  have hcellA : T1.heap[T.heap.size]? = some (freshCell cX kX) := by rw [← hT1]; exact State.heap_pushCell_size _ _
  have d3' : decode c.code (pc + 3) = .ok (.dup, 1) := by rw [hb]; exact d3
  obtain ⟨U, hsteps, hrun, hend, hW, hsame, ce, hce, hO⟩ := X₁.ctorThrow0 hexec htr (own := own) (cls := cls) (names := names) (ic := ic) hown' hcls hnames h (fun x hx => nomatch hx) hfX hkX hcellA (by rw [hhp, hT]; exact Nat.le_refl _)
    (g := { method := m, pc := pc + 4, locals := ls, stack := .ref T.heap.size :: .ref T.heap.size :: rest, locked := none }) rfl hsize rfl rfl (rest := rest) rfl
    (by rw [hb]; exact d4) (by rw [hb]; exact d7) hout hRframes (by simp only [List.map_cons, List.sum_cons, hcat]; omega) hlocks
  obtain ⟨f1, f2⟩ := vx_frame hsame
  rw [hhp] at f1 f2
  have hWs : s.WarmedH U.vm := State.WarmedH.trans hW0 hW
  have hcl : s.vm.findClass cls = some ce.cls := by
    have h9 := hO.cls
    rw [hvm] at h9
    exact h9
  have hall : s.sameButNew ({ U with vm := s.vm } : State) locs mc ms := by
    subst hA
    obtain ⟨e1, e2⟩ := hsame
    rw [State.setFrames_setFrames] at e1
    have h2 : (T.setVm s.vm).sameButNew ({ U with vm := s.vm } : State) [] (0 + 1) (0 + 6) := ⟨e1, e2⟩
    have h3 := X.same.trans h2
    rw [List.append_nil] at h3
    exact h3.mono hc hs
  refine ⟨U, ?_, .threw T.heap.size, hrun, hend, Or.inr ⟨T.heap.size, rfl, cls, ce, locs, hx U hWs.alike f1 (fun q hq => f2 q hq (fun z hz => nomatch hz)), hce, hO.vm, hcl, hWs, hall, hf⟩⟩
  refine st1 _ ?_
  show Steps p.tables e below (T1.setTop { method := m, pc := pc + 3, locals := ls, stack := .ref T.heap.size :: rest, locked := none }) _
  jvm_step X₁.here [X₁.here.top, hexec, d3', Value.category]
  exact hsteps
/-- 'throw new E("text")': new; dup; ldc; invokespecial; athrow -/
theorem vx_throwS {cc : ByteArray} {pc : Nat} (hexec : p.tables.exec = Jvm.exec) (hb : c.code = cc) (hl : l.stackTraces = false) {own cls text : String} {names : List String} {ik is ic mc ms sa : Nat} {A : Nat → Prop}
    (hown : s.vm.findClass own = some m.cls) (hcls : Bundle.fit cls = true) (hnames : ∀ n ∈ names, Bundle.fit n = true)
    (hk : (Cond.classLink own ik cls).before args s = true) (hini : (Cond.initialized cls).before args s = true) (hstr : vk_R own is text sa s) (hat : ∀ w ∈ vx_atS own ic cls names, w.before args s = true)
    (hgood : ∀ w ∈ Cond.classLink own ik cls :: Cond.initialized cls :: vx_atS own ic cls names, vx_ot w = true)
    (hU : vx_Zq Bundle.tN "UNASSIGNED_STACK" Bundle.steD A s s.heap) (hN : vx_Zq Bundle.tN "SUPPRESSED_SENTINEL" Bundle.listD A s s.heap) (hS : va_S A s.heap H locs) (hsize : ls.size = c.maxLocals)
    (d0 : decode cc pc = .ok (.new ik, 3)) (d3 : decode cc (pc + 3) = .ok (.dup, 1)) (d4 : decode cc (pc + 4) = .ok (.ldc is, 2)) (d6 : decode cc (pc + 6) = .ok (.invokespecial ic, 3)) (d9 : decode cc (pc + 9) = .ok (.athrow, 1))
    (hout : ∀ x ∈ c.exceptionTable.toList, covers x (pc + 9) = false)
    (hRframes : names.length + 3 < R.frames) (hRlocals : (rest.map fun v => v.category).sum + (13 * (names.length + 1) + 43) ≤ R.locals) (hRcells : cells + 1 ≤ R.cells) (hRslots : slots + 6 ≤ R.slots) (hlocks : meth.locks = false)
    (hx : ∀ t : State, s.vm.Alike t.vm → H.size ≤ t.heap.size → (∀ q : Nat, q < H.size → t.heap[q]? = H[q]?) → XC cls s t)
    (hf : ∀ z ∈ locs, free z.base) (hc : cells + 1 ≤ mc) (hs : slots + 6 ≤ ms) :
    W p l e R s m args below meth c H locs cells slots (vx_MQ below Qc XC args s mc ms free) (F0 m pc ls rest) := by
  intro T hT X
  have htr : e.platform.stackTraces = false := (show e.platform.stackTraces = l.stackTraces by rw [X.admits.platform]).trans hl
  have Y := vx_rebase X (R' := { frames := R.frames, locals := R.locals, cells := 1, slots := 6 }) (Nat.le_refl _) (Nat.le_refl _) hRcells hRslots
  obtain ⟨s', hA⟩ : ∃ z, z = (T.setVm s.vm).setFrames (.invoking m args :: below) := ⟨_, rfl⟩
  rw [← hA] at Y
  have hvm : s'.vm = s.vm := by rw [hA]; rfl
  have hhp : s'.heap = H := by rw [hA]; exact hT
  have hW0 : s.WarmedH s'.vm := by rw [hvm]; exact State.WarmedH.refl s
  have hat' : ∀ w ∈ vx_atS own ic cls names, w.before args s' = true := fun w hw => vx_ot_at hW0 hvm.symm (hgood w (List.mem_cons_of_mem _ (List.mem_cons_of_mem _ hw))) (hat w hw)
  have hk' : (Cond.classLink own ik cls).before args s' = true := vx_ot_at hW0 hvm.symm (hgood _ List.mem_cons_self) hk
  have hini' : (Cond.initialized cls).before args s' = true := vx_ot_at hW0 hvm.symm (hgood _ (List.mem_cons_of_mem _ List.mem_cons_self)) hini
  have hU' : vx_Zq Bundle.tN "UNASSIGNED_STACK" Bundle.steD A s' s'.heap := by rw [hhp]; exact vx_Zq.moved hW0.alike (hU.kept hS.2.1)
  have hN' : vx_Zq Bundle.tN "SUPPRESSED_SENTINEL" Bundle.listD A s' s'.heap := by rw [hhp]; exact vx_Zq.moved hW0.alike (hN.kept hS.2.1)
  have h : ∀ w ∈ Bundle.ownAtoms own ic cls names, w.before args s' = true := vx_own hat' (vx_isRefq hU'.1) (vx_isRefq hN'.1) hU'.2.word hN'.2.word
  have hown' : s'.vm.findClass own = some m.cls := by rw [hvm]; exact hown
  have hins : (Cond.instantiable cls 6).before args s' = true := h _ (by simp [Bundle.ownAtoms])
  obtain ⟨vm₁, cX, kX, hfX, hkX, -, -, X₁, st1⟩ := Y.newCold hexec (own := own) (C := cls) (index := ik) (n := 6) hown' hk' hins hini'
    (g := F0 m pc ls rest) rfl (by rw [hb]; exact d0) (Nat.le_refl _) (Nat.le_refl _)
  generalize hT1 : (T.setVm vm₁).pushCell { cls := cX, slots := kX.instanceTypes.map defaultValue, vm := .none } = T1 at X₁ st1
  have hcat : (Value.ref T.heap.size).category = 1 := rfl
  have hcellA : T1.heap[T.heap.size]? = some (freshCell cX kX) := by rw [← hT1]; exact State.heap_pushCell_size _ _
  have d3' : decode c.code (pc + 3) = .ok (.dup, 1) := by rw [hb]; exact d3
  have d4' : decode c.code (pc + 4) = .ok (.ldc is, 2) := by rw [hb]; exact d4
  have hstr' : vk_R own is text sa s' := vk_R.warm hW0 hstr
  obtain ⟨U, hsteps, hrun, hend, hW, hsame, ce, hce, hO⟩ := X₁.ctorThrowS hexec htr (own := own) (cls := cls) (names := names) (ic := ic) hown' hcls hnames h (fun x hx => nomatch hx) hfX hkX hcellA (by rw [hhp, hT]; exact Nat.le_refl _) (msg := .ref sa) rfl
    (g := { method := m, pc := pc + 6, locals := ls, stack := .ref sa :: .ref T.heap.size :: .ref T.heap.size :: rest, locked := none }) rfl hsize rfl rfl (rest := rest) rfl
    (by rw [hb]; exact d6) (by rw [hb]; exact d9) hout hRframes (by simp only [List.map_cons, List.sum_cons, hcat]; omega) hlocks
  obtain ⟨f1, f2⟩ := vx_frame hsame
  rw [hhp] at f1 f2
  have hWs : s.WarmedH U.vm := State.WarmedH.trans hW0 hW
  have hcl : s.vm.findClass cls = some ce.cls := by
    have h9 := hO.cls
    rw [hvm] at h9
    exact h9
  have hall : s.sameButNew ({ U with vm := s.vm } : State) locs mc ms := by
    subst hA
    obtain ⟨e1, e2⟩ := hsame
    rw [State.setFrames_setFrames] at e1
    have h2 : (T.setVm s.vm).sameButNew ({ U with vm := s.vm } : State) [] (0 + 1) (0 + 6) := ⟨e1, e2⟩
    have h3 := X.same.trans h2
    rw [List.append_nil] at h3
    exact h3.mono hc hs
  refine ⟨U, ?_, .threw T.heap.size, hrun, hend, Or.inr ⟨T.heap.size, rfl, cls, ce, locs, hx U hWs.alike f1 (fun q hq => f2 q hq (fun z hz => nomatch hz)), hce, hO.vm, hcl, hWs, hall, hf⟩⟩
  refine st1 _ ?_
  show Steps p.tables e below (T1.setTop { method := m, pc := pc + 3, locals := ls, stack := .ref T.heap.size :: rest, locked := none }) _
  jvm_step X₁.here [X₁.here.top, hexec, d3', Value.category]
  exact X₁.ldcString hexec (own := own) (text := text) (index := is) (a := sa) hown' hstr'.1 hstr'.2
    (g := { method := m, pc := pc + 4, locals := ls, stack := .ref T.heap.size :: .ref T.heap.size :: rest, locked := none }) rfl d4' _ hsteps
/-- 'throw new E("text")', the text by a wide index -/
theorem vx_throwSW {cc : ByteArray} {pc : Nat} (hexec : p.tables.exec = Jvm.exec) (hb : c.code = cc) (hl : l.stackTraces = false) {own cls text : String} {names : List String} {ik is ic mc ms sa : Nat} {A : Nat → Prop}
    (hown : s.vm.findClass own = some m.cls) (hcls : Bundle.fit cls = true) (hnames : ∀ n ∈ names, Bundle.fit n = true)
    (hk : (Cond.classLink own ik cls).before args s = true) (hini : (Cond.initialized cls).before args s = true) (hstr : vk_R own is text sa s) (hat : ∀ w ∈ vx_atS own ic cls names, w.before args s = true)
    (hgood : ∀ w ∈ Cond.classLink own ik cls :: Cond.initialized cls :: vx_atS own ic cls names, vx_ot w = true)
    (hU : vx_Zq Bundle.tN "UNASSIGNED_STACK" Bundle.steD A s s.heap) (hN : vx_Zq Bundle.tN "SUPPRESSED_SENTINEL" Bundle.listD A s s.heap) (hS : va_S A s.heap H locs) (hsize : ls.size = c.maxLocals)
    (d0 : decode cc pc = .ok (.new ik, 3)) (d3 : decode cc (pc + 3) = .ok (.dup, 1)) (d4 : decode cc (pc + 4) = .ok (.ldc_w is, 3)) (d7 : decode cc (pc + 7) = .ok (.invokespecial ic, 3)) (d10 : decode cc (pc + 10) = .ok (.athrow, 1))
    (hout : ∀ x ∈ c.exceptionTable.toList, covers x (pc + 10) = false)
    (hRframes : names.length + 3 < R.frames) (hRlocals : (rest.map fun v => v.category).sum + (13 * (names.length + 1) + 43) ≤ R.locals) (hRcells : cells + 1 ≤ R.cells) (hRslots : slots + 6 ≤ R.slots) (hlocks : meth.locks = false)
    (hx : ∀ t : State, s.vm.Alike t.vm → H.size ≤ t.heap.size → (∀ q : Nat, q < H.size → t.heap[q]? = H[q]?) → XC cls s t)
    (hf : ∀ z ∈ locs, free z.base) (hc : cells + 1 ≤ mc) (hs : slots + 6 ≤ ms) :
    W p l e R s m args below meth c H locs cells slots (vx_MQ below Qc XC args s mc ms free) (F0 m pc ls rest) := by
  intro T hT X
  have htr : e.platform.stackTraces = false := (show e.platform.stackTraces = l.stackTraces by rw [X.admits.platform]).trans hl
  have Y := vx_rebase X (R' := { frames := R.frames, locals := R.locals, cells := 1, slots := 6 }) (Nat.le_refl _) (Nat.le_refl _) hRcells hRslots
  obtain ⟨s', hA⟩ : ∃ z, z = (T.setVm s.vm).setFrames (.invoking m args :: below) := ⟨_, rfl⟩
  rw [← hA] at Y
  have hvm : s'.vm = s.vm := by rw [hA]; rfl
  have hhp : s'.heap = H := by rw [hA]; exact hT
  have hW0 : s.WarmedH s'.vm := by rw [hvm]; exact State.WarmedH.refl s
  have hat' : ∀ w ∈ vx_atS own ic cls names, w.before args s' = true := fun w hw => vx_ot_at hW0 hvm.symm (hgood w (List.mem_cons_of_mem _ (List.mem_cons_of_mem _ hw))) (hat w hw)
  have hk' : (Cond.classLink own ik cls).before args s' = true := vx_ot_at hW0 hvm.symm (hgood _ List.mem_cons_self) hk
  have hini' : (Cond.initialized cls).before args s' = true := vx_ot_at hW0 hvm.symm (hgood _ (List.mem_cons_of_mem _ List.mem_cons_self)) hini
  have hU' : vx_Zq Bundle.tN "UNASSIGNED_STACK" Bundle.steD A s' s'.heap := by rw [hhp]; exact vx_Zq.moved hW0.alike (hU.kept hS.2.1)
  have hN' : vx_Zq Bundle.tN "SUPPRESSED_SENTINEL" Bundle.listD A s' s'.heap := by rw [hhp]; exact vx_Zq.moved hW0.alike (hN.kept hS.2.1)
  have h : ∀ w ∈ Bundle.ownAtoms own ic cls names, w.before args s' = true := vx_own hat' (vx_isRefq hU'.1) (vx_isRefq hN'.1) hU'.2.word hN'.2.word
  have hown' : s'.vm.findClass own = some m.cls := by rw [hvm]; exact hown
  have hins : (Cond.instantiable cls 6).before args s' = true := h _ (by simp [Bundle.ownAtoms])
  obtain ⟨vm₁, cX, kX, hfX, hkX, -, -, X₁, st1⟩ := Y.newCold hexec (own := own) (C := cls) (index := ik) (n := 6) hown' hk' hins hini'
    (g := F0 m pc ls rest) rfl (by rw [hb]; exact d0) (Nat.le_refl _) (Nat.le_refl _)
  generalize hT1 : (T.setVm vm₁).pushCell { cls := cX, slots := kX.instanceTypes.map defaultValue, vm := .none } = T1 at X₁ st1
  have hcat : (Value.ref T.heap.size).category = 1 := rfl
  have hcellA : T1.heap[T.heap.size]? = some (freshCell cX kX) := by rw [← hT1]; exact State.heap_pushCell_size _ _
  have d3' : decode c.code (pc + 3) = .ok (.dup, 1) := by rw [hb]; exact d3
  have d4' : decode c.code (pc + 4) = .ok (.ldc_w is, 3) := by rw [hb]; exact d4
  have hstr' : vk_R own is text sa s' := vk_R.warm hW0 hstr
  obtain ⟨U, hsteps, hrun, hend, hW, hsame, ce, hce, hO⟩ := X₁.ctorThrowS hexec htr (own := own) (cls := cls) (names := names) (ic := ic) hown' hcls hnames h (fun x hx => nomatch hx) hfX hkX hcellA (by rw [hhp, hT]; exact Nat.le_refl _) (msg := .ref sa) rfl
    (g := { method := m, pc := pc + 7, locals := ls, stack := .ref sa :: .ref T.heap.size :: .ref T.heap.size :: rest, locked := none }) rfl hsize rfl rfl (rest := rest) rfl
    (by rw [hb]; exact d7) (by rw [hb]; exact d10) hout hRframes (by simp only [List.map_cons, List.sum_cons, hcat]; omega) hlocks
  obtain ⟨f1, f2⟩ := vx_frame hsame
  rw [hhp] at f1 f2
  have hWs : s.WarmedH U.vm := State.WarmedH.trans hW0 hW
  have hcl : s.vm.findClass cls = some ce.cls := by
    have h9 := hO.cls
    rw [hvm] at h9
    exact h9
  have hall : s.sameButNew ({ U with vm := s.vm } : State) locs mc ms := by
    subst hA
    obtain ⟨e1, e2⟩ := hsame
    rw [State.setFrames_setFrames] at e1
    have h2 : (T.setVm s.vm).sameButNew ({ U with vm := s.vm } : State) [] (0 + 1) (0 + 6) := ⟨e1, e2⟩
    have h3 := X.same.trans h2
    rw [List.append_nil] at h3
    exact h3.mono hc hs
  refine ⟨U, ?_, .threw T.heap.size, hrun, hend, Or.inr ⟨T.heap.size, rfl, cls, ce, locs, hx U hWs.alike f1 (fun q hq => f2 q hq (fun z hz => nomatch hz)), hce, hO.vm, hcl, hWs, hall, hf⟩⟩
  refine st1 _ ?_
  show Steps p.tables e below (T1.setTop { method := m, pc := pc + 3, locals := ls, stack := .ref T.heap.size :: rest, locked := none }) _
  jvm_step X₁.here [X₁.here.top, hexec, d3', Value.category]
  exact X₁.ldcStringW hexec (own := own) (text := text) (index := is) (a := sa) hown' hstr'.1 hstr'.2
    (g := { method := m, pc := pc + 4, locals := ls, stack := .ref T.heap.size :: .ref T.heap.size :: rest, locked := none }) rfl d4' _ hsteps
end Ends
section Bodies
variable {l : Launch}
theorem vx_ofW {y : MethodName} {ws ws' : List Cond} {rm : Room} {Pc : Array Value → State → Prop} {Qc : Array Value → State → Outcome → State → Prop} {XC : String → State → State → Prop} {mc ms : Nat} {free : Addr → Prop} {cc : ByteArray} {maxL : Nat} {ret : Option FieldType}
    (hy : plainName y.cls = true) (hw : ws = Cond.code y cc maxL ret :: ws')
    (body : ∀ p e s m args below meth c s₁, BodyLoose p l y (headSpec ws rm) cc maxL ret e s m args below meth c s₁ → c.maxLocals = maxL → (∀ x ∈ c.exceptionTable.toList, False) → Pc args s →
      W p l e (headSpec ws rm).room s m args below meth c s.heap [] 0 0 (vx_MQ below Qc XC args s mc ms free) (entryFrame m args maxL)) : vx_Met l y ws rm Pc Qc XC mc ms free := by
  refine MetFree.of_bodyS (code := cc) (maxLocals := maxL) (ret := ret) hy ?_ ?_
  · intro args s m h hn
    obtain ⟨meth, c, h1, h2, h3, h4, h5, h6, -, -⟩ := Cond.code_spec hn (atoms_spec (ws := ws) h _ (by rw [hw]; exact List.mem_cons_self))
    exact ⟨meth, c, h1, h2, h3, h4, h5, h6⟩
  · intro p e s m args below meth c s₁ B hml hP _
    have hh0 : s₁.heap = s.heap := by rw [B.state]; rfl
    have ht : ∀ x ∈ c.exceptionTable.toList, False := by
      obtain ⟨meth9, c9, h1, h2, -, -, -, -, h7, -⟩ := Cond.code_spec B.named (atoms_spec (ws := ws) B.pre _ (by rw [hw]; exact List.mem_cons_self))
      cases Option.some.inj (h1.symm.trans B.method)
      cases Option.some.inj (h2.symm.trans (Stand.of_body B).code)
      intro x hx
      rw [Array.isEmpty_iff.mp h7] at hx
      cases hx
    obtain ⟨t, a1, o, b1, b2, b3⟩ := body p e s m args below meth c s₁ B hml ht hP s₁ hh0 (Stand.of_body B)
    exact ⟨t, o, a1, b1, b2, b3⟩
/-- the table of a body with handlers -/
theorem vx_table {p : Program} {x y : MethodName} {S : Spec} {cc bytes : ByteArray} {maxL maxL' : Nat} {ret ret' : Option FieldType} {e : Env} {s s₁ : State} {m : MethodId} {args : Array Value} {below : List Frame} {meth : Method} {c : Code} {hh : List (Nat × Nat × Nat × Nat)}
    (B : BodyLoose p l y S cc maxL ret e s m args below meth c s₁) (h : (Cond.codeWith y bytes maxL' ret' hh).before args s = true) : c.exceptionTable.toList = tableOf hh := by
  obtain ⟨m9, meth9, c9, hn9, h1, h2, -, -, h6, -⟩ := Cond.codeWith_spec h
  cases Option.some.inj (hn9.symm.trans B.named)
  cases Option.some.inj (h1.symm.trans B.method)
  cases Option.some.inj (h2.symm.trans (Stand.of_body B).code)
  rw [← h6, table_eq]
end Bodies
end VXA
/-! ===== END ===== -/
/-! ===== BEGIN a static call of a method with an exception table ===== -/
section VXS
variable {p : Program} {l : Launch} {e : Env} {R : Room} {s : State} {m : MethodId} {args : Array Value} {below : List Frame} {meth : Method} {c : Code} {T : State} {H : Heap} {locs : List Loc} {cells slots : Nat}
abbrev vx_CSW (R : Room) (s : State) (args : Array Value) (own : String) (index : Nat) (y : MethodName) (bytes : ByteArray) (maxL : Nat) (ret : Option FieldType) (hh : List (Nat × Nat × Nat × Nat)) (ws : List Cond) (rm : Room) (mc ms n : Nat) : Prop :=
  (rm.cells = mc ∧ rm.slots = ms ∧ rm.frames + 1 ≤ R.frames ∧ 8 + (maxL + 11) + rm.locals ≤ R.locals ∧ (∀ w ∈ ws, ∀ (a' : Array Value) (U : State), s.WarmedH U.vm → w.before a' U = true) ∧ Cond.codeWith y bytes maxL ret hh ∈ ws) ∧
  (Cond.codeWith y bytes maxL ret hh).before args s = true ∧ (Cond.initialized y.cls).before args s = true ∧ (y.cls ≠ "java/lang/invoke/MethodHandle" ∧ y.cls ≠ "java/lang/invoke/VarHandle") ∧
  (∀ sig, parseMethodDescriptor y.desc = some sig → n = sig.parameters.length) ∧ (Cond.methodLink own index y).before args s = true ∧ (Cond.static y).before args s = true
theorem vx_cwSW {own : String} {index maxL mc ms : Nat} {y : MethodName} {bytes : ByteArray} {ret : Option FieldType} {hh : List (Nat × Nat × Nat × Nat)} {Ts ws ws' : List Cond} {rm : Room} (n : Nat) (ht : ∀ w ∈ Ts, w.before args s = true) (hT : GoodIn Ts (va_wsS own index y ws)) (hw : ws = Cond.codeWith y bytes maxL ret hh :: ws') (hrc : rm.cells = mc) (hrs : rm.slots = ms)
    (hd : y.cls ≠ "java/lang/invoke/MethodHandle" ∧ y.cls ≠ "java/lang/invoke/VarHandle" ∧ (parseMethodDescriptor y.desc).map (fun d => d.parameters.length) = some n) (hR : rm.frames + 1 ≤ R.frames ∧ 8 + (maxL + 11) + rm.locals ≤ R.locals) :
    vx_CSW R s args own index y bytes maxL ret hh ws rm mc ms n := by
  have ok : ∀ w ∈ va_wsS own index y ws, w.before args s = true := fun w h => ht w (hT w h).1
  have hG : GoodIn Ts ws := fun w h => hT w (by unfold va_wsS; exact List.mem_append_right _ h)
  have hc : Cond.codeWith y bytes maxL ret hh ∈ ws := by rw [hw]; exact List.mem_cons_self
  refine ⟨⟨hrc, hrs, hR.1, hR.2, pay_in ht hG, hc⟩, ht _ (hG _ hc).1, ok _ (by simp [va_wsS]), ⟨hd.1, hd.2.1⟩, fun sig h => ?_, ok _ (by simp [va_wsS]), ok _ (by simp [va_wsS])⟩
  have h2 := hd.2.2
  rw [h] at h2
  exact (Option.some.inj h2).symm
theorem vx_callSW (X : Stand p l e R s m args below meth c T locs cells slots) (hexec : p.tables.exec = Jvm.exec) {own : String} {index : Nat} {y : MethodName} {bytes : ByteArray} {maxL : Nat} {ret : Option FieldType} {hh : List (Nat × Nat × Nat × Nat)}
    (hown : s.vm.findClass own = some m.cls) (hlink : (Cond.methodLink own index y).before args s = true) (hstat : (Cond.static y).before args s = true) (hinit : (Cond.initialized y.cls).before args s = true)
    (hcode : (Cond.codeWith y bytes maxL ret hh).before args s = true) (hy : y.cls ≠ "java/lang/invoke/MethodHandle" ∧ y.cls ≠ "java/lang/invoke/VarHandle")
    {W9 : Nat} {Pre : Pt → Array Value → Prop} {Post : Pt → Array Value → Option Value → Pt → Prop} (hK : Back l R p e below s args y 3 W9 Pre Post)
    {g : JFrame} (hg : g.method = m) (hsize : g.locals.size = c.maxLocals) {argsL rest : List Value} (hlen : ∀ sig, parseMethodDescriptor y.desc = some sig → argsL.length = sig.parameters.length)
    (hstack : g.stack = argsL.reverse ++ rest) (hW : 2 * g.monitorRoom + (rest.map fun v => v.category).sum ≤ W9) (hdg : decode c.code g.pc = .ok (.invokestatic index, 3))
    (hpre : ∀ vm₁, s.WarmedH vm₁ → Pre ⟨T.setVm vm₁, locs, cells, slots⟩ argsL.toArray) :
    ∃ (v : Option Value) (vm₁ : Vm) (B : Pt), s.WarmedH vm₁ ∧ Stand p l e R s m args below meth c B.U B.locs B.cells B.slots ∧ Post ⟨T.setVm vm₁, locs, cells, slots⟩ argsL.toArray v B ∧
      ∀ target, Steps p.tables e below (B.U.setTop { g with pc := g.pc + 3, stack := v.toList ++ rest }) target → Steps p.tables e below (T.setTop g) target := by
  obtain ⟨mk, methM, cM, hnamed, hmethM, -, -, -, -, -, -, hsigM⟩ := Cond.codeWith_spec hcode
  have hstatic : methM.isStatic = true := Cond.static_spec hnamed hmethM hstat
  obtain ⟨kP, hkP, -⟩ := className_of_methodNamed hnamed
  have hinitP : kP.init = .initialized := Cond.initialized_spec (findClass_of_methodNamed hnamed) hkP hinit
  obtain ⟨vm₁, X₁, hstep₁⟩ := X.invokestatic hexec hown hlink hnamed hmethM hstatic hkP hinitP hy (g := g) hg (argsL := argsL) (rest := rest) (hlen _ hsigM) hstack hdg
  obtain ⟨v, B, X', hpost, hsteps⟩ := hK m meth c ⟨T.setVm vm₁, locs, cells, slots⟩ { g with stack := rest } (.invokestatic index) mk argsL.toArray X₁ hg hsize hdg hW (X₁.named hnamed) (hpre vm₁ X₁.warmed)
  exact ⟨v, vm₁, B, X₁.warmed, X', hpost, fun target h => hstep₁ _ fun acts => by rw [doInvoke_state]; exact hsteps.trans h⟩
theorem vx_runSW {y : MethodName} {bytes cc : ByteArray} {maxL nL mc ms n index : Nat} {ret : Option FieldType} {hh : List (Nat × Nat × Nat × Nat)} {ws : List Cond} {rm : Room} {Pc : Array Value → State → Prop} {Qc : Array Value → State → Outcome → State → Prop} {free : Addr → Prop} {Ts : List Cond} {own : String} {As rest : List Value} {g : JFrame}
    (S : CallFix p m c cc nL s args Ts own) (hM : Met l y ws rm Pc Qc mc ms free) (cw : vx_CSW R s args own index y bytes maxL ret hh ws rm mc ms n) (hp : PreS s H Pc As)
    (hg : g.method = m) (hn : As.length = n) (hsize : g.locals.size = nL) (hstack : g.stack = As.reverse ++ rest) (hW : 2 * g.monitorRoom + (rest.map fun v => v.category).sum ≤ 8) (hdg : decode cc g.pc = .ok (.invokestatic index, 3)) (hf : cells + mc ≤ R.cells ∧ slots + ms ≤ R.slots) :
    va_Run p l e R s m args below meth c H locs cells slots mc ms g rest (Qc As.toArray) (free) := by
  obtain ⟨⟨hrc, hrs, hfr, hlo, hws, hcw⟩, hcode, hini, hy, hlen, hl, hstt⟩ := cw
  have hK : Back l R p e below s args y 3 8 (PreOf R mc ms Pc) (PostOf Qc mc ms free) := va_backW (hh := hh) (bytes := bytes) (maxL := maxL) (ret := ret) hM hp.1 hrc hrs hfr hlo hws hcw (fun a' U hW => word_at hW (Or.inl (by first | rfl | simp [Cond.onTables, Cond.keeps, Cond.steady])) hini)
  obtain ⟨hx, hb, hml, ho, -⟩ := S
  intro T hT X
  obtain ⟨v, vm₁, ⟨U', l2, c2, s2⟩, hW₁, X', ⟨g', mk, t, L, e1, e2, hq, h1, hL, h2, h3⟩, st⟩ := vx_callSW X hx (hh := hh) (bytes := bytes) (maxL := maxL) (ret := ret) ho hl hstt hini hcode hy hK hg (hsize.trans hml.symm) (argsL := As) (rest := rest) (fun sig h => hn.trans (hlen sig h)) hstack hW (by rw [hb]; exact hdg)
    (fun vm₁ hW₁ => ⟨hf.1, hf.2, hp.2 (T.setVm vm₁) hT hW₁⟩)
  dsimp only [Pt.U, Pt.locs, Pt.cells, Pt.slots] at X' e1 e2 h1 h2 h3 st
  subst h1; subst h2; subst h3
  exact ⟨v, (T.setVm vm₁).calling g' mk As.toArray, t, U', L, hT, X', hL, e1, e2, hq, st⟩
/-- not caught here, past rows that name other classes: it goes on to the caller -/
theorem vx_outP {p : Program} {l : Launch} {e : Env} {R : Room} {s : State} {m : MethodId} {args : Array Value} {below : List Frame} {meth : Method} {c : Code} {H : Heap} {locs : List Loc} {cells slots : Nat} {free : Addr → Prop} {ls : Array Slot} {rest : List Value} {Qc : Array Value → State → Outcome → State → Prop} {XC : String → State → State → Prop}
    {pc : Nat} {own E : String} {ce : Cell} {q : Addr} {mc ms : Nat} (hown : s.vm.findClass own = some m.cls) (hlocks : meth.locks = false)
    (hpass : ∀ z ∈ c.exceptionTable.toList, covers z pc = false ∨ (z.catchType ≠ 0 ∧ ∃ nm : String, (Cond.classLink own z.catchType nm).before args s = true ∧ va_Nc E nm s)) (hcell : H[q]? = some ce) (hv : ce.vm = .none) (hcl : s.vm.findClass E = some ce.cls)
    (hx : ∀ t : State, t.heap = H → s.vm.Alike t.vm → XC E s t) (hf : ∀ z ∈ locs, free z.base) (hc : cells ≤ mc) (hs : slots ≤ ms) :
    vx_W p l e R s m args below meth c H locs cells slots (vx_MQ below Qc XC args s mc ms free) (F0 m pc ls rest) q := by
  intro T hT X
  have hpl : e.platform.magicAccessors = ({} : Platform).magicAccessors := by rw [X.admits.platform]
  obtain ⟨vm', hW', X', st⟩ := X.outThrough hlocks q (g := F0 m pc ls rest) rfl rfl rfl (cell := ce) (by rw [hT]; exact hcell) (by rw [hv]; rfl)
    (by obtain ⟨k9, h9, -⟩ := Vm.findClass_spec hcl; exact ⟨k9, h9⟩) (fun z hz => by
      rcases hpass z hz with h | ⟨hz0, nm, hl1, hn1⟩
      · exact Or.inl h
      · obtain ⟨c6, hc6, hcl6⟩ := Cond.classLink_spec hown hl1 e.platform hpl
        obtain ⟨a8, b8, h1, h2, h3⟩ := hn1
        cases Option.some.inj (h1.symm.trans hcl)
        cases Option.some.inj (h2.symm.trans hc6)
        exact Or.inr ⟨hz0, _, hcl6, h3⟩)
  obtain ⟨g₀, hfr⟩ := X'.frames_eq
  have hcell9 : ((T.setVm vm').setFrames (.throwing q :: below)).heap[q]? = some ce := by
    show T.heap[q]? = some ce
    rw [hT]; exact hcell
  have hend : Ended ((T.setVm vm').setFrames (.throwing q :: below)) below (.threw q) := State.frames_setFrames _ (State.cur_lt_of_frames hfr)
  refine ⟨(T.setVm vm').setFrames (.throwing q :: below), ?_, .threw q, X'.here.running, hend, Or.inr ⟨q, rfl, E, ce, locs, hx _ hT (X'.ends _).1.alike, hcell9, hv, hcl, (X'.ends _).1, (X'.ends _).2.mono hc hs, hf⟩⟩
  rw [X.pushThrowing_eq]
  exact st
/-- a thing of a world lies in the heap -/
theorem vx_lt {D : va_G} {cl : List vw_C} {ws : va_W} {H1 : Heap} (h : va_P D cl ws H1) {k : Nat} {q : Nat × va_E} (hk : ws[k]? = some q) : q.1 < H1.size := (h k q hk).lt
end VXS
/-! ===== END ===== -/
/-! ===== BEGIN methods with a table of their own: called by a name, returning or throwing ===== -/
section VXH
/-! vx_backW, vx_callVX, vx_callSX, vx_callVW, vx_runVW, vx_runVX, vx_runSX, vx_ofWH follow the same proofs as their sisters above (Free/Laws.lean, Shelf42/LK1.lean); vx_outP calls Shelf42/NT130.lean (outThrough). -/
section
variable {l : Launch} {R : Room} {p : Program} {e : Env} {below : List Frame} {s : State} {sargs : Array Value} {y : MethodName} {len W9 : Nat}
theorem vx_backW {ws : List Cond} {rm : Room} {Pc : Array Value → State → Prop} {Qc : Array Value → State → Outcome → State → Prop} {XC : String → State → State → Prop} {mc ms : Nat} {free : Addr → Prop} {bytes : ByteArray} {maxL : Nat} {ret : Option FieldType} {hh : List (Nat × Nat × Nat × Nat)}
    (hM : vx_Met l y ws rm Pc Qc XC mc ms free) (hblind : FrameBlind Pc) (hrc : rm.cells = mc) (hrs : rm.slots = ms)
    (hframes : rm.frames + 1 ≤ R.frames) (hlocals : W9 + (maxL + 11) + rm.locals ≤ R.locals)
    (hws : ∀ w ∈ ws, ∀ a' U, s.WarmedH U.vm → w.before a' U = true) (hcode : Cond.codeWith y bytes maxL ret hh ∈ ws) (hinit : ∀ a' U, s.WarmedH U.vm → (Cond.initialized y.cls).before a' U = true) :
    vx_Back l R p e below s sargs y len W9 (PreOf R mc ms Pc) (PostOf Qc mc ms free) (vx_Post XC mc ms free) := by
  intro m meth c A g ig mk a X hg hsize hdg hW hn hp
  have h1 : (headSpec ws rm).pre.before a A.U = true := atoms_intro fun w hw => hws w hw _ _ X.warmed
  have h2 : (Cond.codeWith y bytes maxL ret hh).before a A.U = true := hws _ hcode _ _ X.warmed
  have h3 : (Cond.initialized y.cls).before a A.U = true := hinit _ _ X.warmed
  have h4 : A.cells + (headSpec ws rm).room.cells ≤ R.cells := by rw [show (headSpec ws rm).room.cells = mc from hrc]; exact hp.1
  have h5 : A.slots + (headSpec ws rm).room.slots ≤ R.slots := by rw [show (headSpec ws rm).room.slots = ms from hrs]; exact hp.2.1
  have hPc : Pc a (A.U.calling g mk a) := hblind _ _ _ _ hp.2.2
  obtain ⟨U, Ls, c0, s0⟩ := A
  dsimp only [Pt.U, Pt.locs, Pt.cells, Pt.slots] at h1 h2 h3 h4 h5 X hn hPc ⊢
  obtain ⟨m9, methY, cY, hn9, hmY, hcY, -, hlY, -⟩ := Cond.codeWith_spec h2
  cases Option.some.inj (hn9.symm.trans hn)
  obtain ⟨kY, hkY, -⟩ := className_of_methodNamed hn
  have hinitY : kY.init = .initialized := Cond.initialized_spec (findClass_of_methodNamed hn) hkY h3
  have h : At U g.method c below := by rw [hg]; exact X.here
  have hlocals9 : W9 + (maxL + 11) + (headSpec ws rm).room.locals ≤ R.locals := hlocals
  have happ : (headSpec ws rm).appliesLoose y e.platform (U.calling g mk a) = true :=
    Spec.appliesLoose_calling (g := g) h hdg hn hkY hinitY
      (X.room_calling (g := g) (R' := (headSpec ws rm).room) hsize hmY hcY hframes (by rw [hlY]; omega) h4 h5) h1
  obtain ⟨mid, hmid⟩ := h.above
  have hfr : (U.setTop g).frames = (.java g :: mid) ++ below := by rw [State.frames_setTop' g h.top, hmid]; rfl
  obtain ⟨o, s₂, hsteps, -, hend, hq⟩ := Steps.callFree hM p X.admits X.cas X.clock (acts := []) hfr happ hPc trivial
  have hq' : vx_Q Qc XC mc ms free a (U.calling g mk a) o s₂ := hq
  rw [State.frames_setTop' g h.top] at hend
  obtain ⟨g₀, hg0⟩ := Option.isSome_iff_exists.mp h.top
  obtain ⟨r, hr⟩ := State.topJava?_eq_some.mp hg0
  have hr' : (({ U with heap := s₂.heap, slotsUsed := s₂.slotsUsed } : State).setVm s₂.vm).frames = .java g₀ :: r := hr
  rcases hq' with ⟨hqc, L, hfe, hL⟩ | ⟨q, rfl, E, ce, L, hx, hce, hcv, hcl, hW₂, hsm, hL⟩
  · obtain ⟨⟨v, rfl⟩, hW₂, e2, q2, q3, q4, q5, q6⟩ := id hfe
    have e3 : s₂ = ({ (U.calling g mk a).setFrames s₂.frames with heap := s₂.heap, slotsUsed := s₂.slotsUsed } : State).setVm s₂.vm := by
      have : s₂ = ({ s₂ with vm := (U.calling g mk a).vm } : State).setVm s₂.vm := rfl
      rw [e2] at this
      exact this
    obtain ⟨c₂, i₂, len₂, hc₂, hd₂, hf₂⟩ := hend
    have hW' : U.WarmedH s₂.vm := hW₂
    have hcc : c₂ = c := by
      have h1 : s₂.code? g.method = U.code? g.method := by
        rw [State.code?_eq, State.code?_eq, hW'.alike.method?]
      exact Option.some.inj (hc₂.symm.trans (h1.trans h.code))
    subst hcc
    have hlen : len₂ = len := by rw [hdg] at hd₂; cases hd₂; rfl
    subst hlen
    have hs₂ : s₂ = (({ U with heap := s₂.heap, slotsUsed := s₂.slotsUsed } : State).setVm s₂.vm).setTop { g with pc := g.pc + len₂, stack := v.toList ++ g.stack } := by
      refine e3.trans ?_
      rw [hf₂, State.calling_eq h.top, State.setFrames_setFrames, State.setTop_of_frames _ hr', hr]
      rfl
    have hsame : U.sameButNew ({ U with heap := s₂.heap, slotsUsed := s₂.slotsUsed } : State) L mc ms := by
      refine ⟨?_, q2, q3, q4, q5, q6⟩
      obtain ⟨t, ht, -⟩ := State.frames_cons hr
      show ({ U with heap := s₂.heap, slotsUsed := s₂.slotsUsed } : State) = { U.setFrames U.frames with heap := s₂.heap, slotsUsed := s₂.slotsUsed }
      rw [State.setFrames_self ht]
    subst hg
    refine Or.inl ⟨v, ⟨(({ U with heap := s₂.heap, slotsUsed := s₂.slotsUsed } : State).setVm s₂.vm), Ls ++ L, c0 + mc, s0 + ms⟩,
      ⟨X.admits, X.cas, X.clock, X.frames, X.room, X.hears, X.method, X.code, (X.here.setHeapUsed s₂.heap s₂.slotsUsed).setVm hW'.alike, X.tail, State.WarmedH.trans X.warmed hW', X.limits, X.bytes, X.same.trans (hsame.setVm s.vm)⟩,
      ⟨g, mk, s₂, L, rfl, rfl, hqc, rfl, hL, rfl, rfl⟩, ?_⟩
    show Steps p.tables e below _ ((({ U with heap := s₂.heap, slotsUsed := s₂.slotsUsed } : State).setVm s₂.vm).setTop { g with pc := g.pc + len₂, stack := v.toList ++ g.stack })
    rw [← hs₂]
    exact hsteps
  · obtain ⟨e2, q2, q3, q4, q5, q6⟩ := id hsm
    have e3 : s₂ = ({ (U.calling g mk a).setFrames s₂.frames with heap := s₂.heap, slotsUsed := s₂.slotsUsed } : State).setVm s₂.vm := by
      have : s₂ = ({ s₂ with vm := (U.calling g mk a).vm } : State).setVm s₂.vm := rfl
      rw [e2] at this
      exact this
    have hf₂ : s₂.frames = .throwing q :: .java g :: U.frames.tail := hend
    have hW' : U.WarmedH s₂.vm := hW₂
    have hs₂ : s₂ = ((({ U with heap := s₂.heap, slotsUsed := s₂.slotsUsed } : State).setVm s₂.vm).setTop g).pushFrame (.throwing q) := by
      refine e3.trans ?_
      rw [hf₂, State.calling_eq h.top, State.setFrames_setFrames, State.pushFrame, State.frames_setTop _ hr', State.setTop_of_frames _ hr', State.setFrames_setFrames, hr]
      rfl
    have hsame : U.sameButNew ({ U with heap := s₂.heap, slotsUsed := s₂.slotsUsed } : State) L mc ms := by
      refine ⟨?_, q2, q3, q4, q5, q6⟩
      obtain ⟨t, ht, -⟩ := State.frames_cons hr
      show ({ U with heap := s₂.heap, slotsUsed := s₂.slotsUsed } : State) = { U.setFrames U.frames with heap := s₂.heap, slotsUsed := s₂.slotsUsed }
      rw [State.setFrames_self ht]
    subst hg
    refine Or.inr ⟨q, ⟨(({ U with heap := s₂.heap, slotsUsed := s₂.slotsUsed } : State).setVm s₂.vm), Ls ++ L, c0 + mc, s0 + ms⟩,
      ⟨X.admits, X.cas, X.clock, X.frames, X.room, X.hears, X.method, X.code, (X.here.setHeapUsed s₂.heap s₂.slotsUsed).setVm hW'.alike, X.tail, State.WarmedH.trans X.warmed hW', X.limits, X.bytes, X.same.trans (hsame.setVm s.vm)⟩,
      ⟨g, mk, s₂, L, E, ce, rfl, rfl, hx, hce, hcv, hcl, rfl, hL, rfl, rfl⟩, ?_⟩
    show Steps p.tables e below _ (((({ U with heap := s₂.heap, slotsUsed := s₂.slotsUsed } : State).setVm s₂.vm).setTop g).pushFrame (.throwing q))
    rw [← hs₂]
    exact hsteps
end
variable {p : Program} {l : Launch} {e : Env} {R : Room} {s : State} {m : MethodId} {args : Array Value} {below : List Frame} {meth : Method} {c : Code} {T : State} {H : Heap} {locs : List Loc} {cells slots : Nat}
theorem vx_callVX (X : Stand p l e R s m args below meth c T locs cells slots) (hexec : p.tables.exec = Jvm.exec) {own C : String} {index : Nat} {y : MethodName} {bytes : ByteArray} {maxL : Nat} {ret : Option FieldType} {hh : List (Nat × Nat × Nat × Nat)}
    (hown : s.vm.findClass own = some m.cls) (hlink : (Cond.methodLink own index y).before args s = true) (hinst : (Cond.instanceMethod y).before args s = true) (hsel : (Cond.selects C y y).before args s = true)
    (hcode : (Cond.codeWith y bytes maxL ret hh).before args s = true) (hy : y.cls ≠ "java/lang/invoke/MethodHandle" ∧ y.cls ≠ "java/lang/invoke/VarHandle")
    {W9 : Nat} {Pre : Pt → Array Value → Prop} {Post : Pt → Array Value → Option Value → Pt → Prop} {PostX : Pt → Array Value → Addr → Pt → Prop} (hK : vx_Back l R p e below s args y 3 W9 Pre Post PostX)
    {b : Addr} {cellB : Cell} (hcell : T.heap[b]? = some cellB) (hobj : cellB.vm.isStatics = false) (hcls : s.vm.findClass C = some cellB.cls)
    {g : JFrame} (hg : g.method = m) (hsize : g.locals.size = c.maxLocals) {argsL rest : List Value} (hlen : ∀ sig, parseMethodDescriptor y.desc = some sig → argsL.length = sig.parameters.length)
    (hstack : g.stack = argsL.reverse ++ .ref b :: rest) (hW : 2 * g.monitorRoom + (rest.map fun v => v.category).sum ≤ W9) (hdg : decode c.code g.pc = .ok (.invokevirtual index, 3))
    (hpre : ∀ vm₁, s.WarmedH vm₁ → Pre ⟨T.setVm vm₁, locs, cells, slots⟩ (Value.ref b :: argsL).toArray) :
    (∃ (v : Option Value) (vm₁ : Vm) (B : Pt), s.WarmedH vm₁ ∧ Stand p l e R s m args below meth c B.U B.locs B.cells B.slots ∧ Post ⟨T.setVm vm₁, locs, cells, slots⟩ (Value.ref b :: argsL).toArray v B ∧
      ∀ target, Steps p.tables e below (B.U.setTop { g with pc := g.pc + 3, stack := v.toList ++ rest }) target → Steps p.tables e below (T.setTop g) target) ∨
    (∃ (q : Addr) (vm₁ : Vm) (B : Pt), s.WarmedH vm₁ ∧ Stand p l e R s m args below meth c B.U B.locs B.cells B.slots ∧ PostX ⟨T.setVm vm₁, locs, cells, slots⟩ (Value.ref b :: argsL).toArray q B ∧
      Steps p.tables e below (T.setTop g) ((B.U.setTop { g with stack := rest }).pushFrame (.throwing q))) := by
  obtain ⟨mk, methM, hnamed, hmethM, hstM, habM⟩ := Cond.instanceMethod_spec hinst
  obtain ⟨m8, methM', cM, hn8, hmethM', -, -, -, -, -, -, hsigM⟩ := Cond.codeWith_spec hcode
  cases Option.some.inj (hn8.symm.trans hnamed)
  cases hmethM.symm.trans hmethM'
  obtain ⟨c2, r2, m2, q1, q2, q3, q4, kP, hkP, hkPi⟩ := Cond.selects_spec hsel
  cases hcls.symm.trans q1
  cases (State.methodFound?_of_named hnamed hy).symm.trans q2
  cases hnamed.symm.trans q3
  have hselP : selectMethod e.platform s.vm cellB.cls mk = .method mk := by rw [Launch.admits_selectMethod X.admits]; exact q4
  obtain ⟨vm₁, X₁, hstep₁⟩ := X.invokevirtual hexec hown hlink hnamed hmethM hstM hkP hkPi hy (a := b) (cell := cellB) hcell
    (fun z h => by rw [h] at hobj; cases hobj) hselP hmethM habM hkP hkPi (g := g) hg (argsL := argsL) (rest := rest) (hlen _ hsigM) hstack hdg
  rcases hK m meth c ⟨T.setVm vm₁, locs, cells, slots⟩ { g with stack := rest } (.invokevirtual index) mk (Value.ref b :: argsL).toArray X₁ hg hsize hdg hW (X₁.named hnamed) (hpre vm₁ X₁.warmed) with ⟨v, B, X', hpost, hsteps⟩ | ⟨q, B, X', hpost, hsteps⟩
  · exact Or.inl ⟨v, vm₁, B, X₁.warmed, X', hpost, fun target h => hstep₁ _ fun acts => by rw [doInvoke_state]; exact hsteps.trans h⟩
  · exact Or.inr ⟨q, vm₁, B, X₁.warmed, X', hpost, hstep₁ _ fun acts => by rw [doInvoke_state]; exact hsteps⟩
theorem vx_callSX (X : Stand p l e R s m args below meth c T locs cells slots) (hexec : p.tables.exec = Jvm.exec) {own : String} {index : Nat} {y : MethodName} {bytes : ByteArray} {maxL : Nat} {ret : Option FieldType} {hh : List (Nat × Nat × Nat × Nat)}
    (hown : s.vm.findClass own = some m.cls) (hlink : (Cond.methodLink own index y).before args s = true) (hstat : (Cond.static y).before args s = true) (hinit : (Cond.initialized y.cls).before args s = true)
    (hcode : (Cond.codeWith y bytes maxL ret hh).before args s = true) (hy : y.cls ≠ "java/lang/invoke/MethodHandle" ∧ y.cls ≠ "java/lang/invoke/VarHandle")
    {W9 : Nat} {Pre : Pt → Array Value → Prop} {Post : Pt → Array Value → Option Value → Pt → Prop} {PostX : Pt → Array Value → Addr → Pt → Prop} (hK : vx_Back l R p e below s args y 3 W9 Pre Post PostX)
    {g : JFrame} (hg : g.method = m) (hsize : g.locals.size = c.maxLocals) {argsL rest : List Value} (hlen : ∀ sig, parseMethodDescriptor y.desc = some sig → argsL.length = sig.parameters.length)
    (hstack : g.stack = argsL.reverse ++ rest) (hW : 2 * g.monitorRoom + (rest.map fun v => v.category).sum ≤ W9) (hdg : decode c.code g.pc = .ok (.invokestatic index, 3))
    (hpre : ∀ vm₁, s.WarmedH vm₁ → Pre ⟨T.setVm vm₁, locs, cells, slots⟩ argsL.toArray) :
    (∃ (v : Option Value) (vm₁ : Vm) (B : Pt), s.WarmedH vm₁ ∧ Stand p l e R s m args below meth c B.U B.locs B.cells B.slots ∧ Post ⟨T.setVm vm₁, locs, cells, slots⟩ argsL.toArray v B ∧
      ∀ target, Steps p.tables e below (B.U.setTop { g with pc := g.pc + 3, stack := v.toList ++ rest }) target → Steps p.tables e below (T.setTop g) target) ∨
    (∃ (q : Addr) (vm₁ : Vm) (B : Pt), s.WarmedH vm₁ ∧ Stand p l e R s m args below meth c B.U B.locs B.cells B.slots ∧ PostX ⟨T.setVm vm₁, locs, cells, slots⟩ argsL.toArray q B ∧
      Steps p.tables e below (T.setTop g) ((B.U.setTop { g with stack := rest }).pushFrame (.throwing q))) := by
  obtain ⟨mk, methM, cM, hnamed, hmethM, -, -, -, -, -, -, hsigM⟩ := Cond.codeWith_spec hcode
  have hstatic : methM.isStatic = true := Cond.static_spec hnamed hmethM hstat
  obtain ⟨kP, hkP, -⟩ := className_of_methodNamed hnamed
  have hinitP : kP.init = .initialized := Cond.initialized_spec (findClass_of_methodNamed hnamed) hkP hinit
  obtain ⟨vm₁, X₁, hstep₁⟩ := X.invokestatic hexec hown hlink hnamed hmethM hstatic hkP hinitP hy (g := g) hg (argsL := argsL) (rest := rest) (hlen _ hsigM) hstack hdg
  rcases hK m meth c ⟨T.setVm vm₁, locs, cells, slots⟩ { g with stack := rest } (.invokestatic index) mk argsL.toArray X₁ hg hsize hdg hW (X₁.named hnamed) (hpre vm₁ X₁.warmed) with ⟨v, B, X', hpost, hsteps⟩ | ⟨q, B, X', hpost, hsteps⟩
  · exact Or.inl ⟨v, vm₁, B, X₁.warmed, X', hpost, fun target h => hstep₁ _ fun acts => by rw [doInvoke_state]; exact hsteps.trans h⟩
  · exact Or.inr ⟨q, vm₁, B, X₁.warmed, X', hpost, hstep₁ _ fun acts => by rw [doInvoke_state]; exact hsteps⟩
theorem vx_callVW (X : Stand p l e R s m args below meth c T locs cells slots) (hexec : p.tables.exec = Jvm.exec) {own C : String} {index : Nat} {y : MethodName} {bytes : ByteArray} {maxL : Nat} {ret : Option FieldType} {hh : List (Nat × Nat × Nat × Nat)}
    (hown : s.vm.findClass own = some m.cls) (hlink : (Cond.methodLink own index y).before args s = true) (hinst : (Cond.instanceMethod y).before args s = true) (hsel : (Cond.selects C y y).before args s = true)
    (hcode : (Cond.codeWith y bytes maxL ret hh).before args s = true) (hy : y.cls ≠ "java/lang/invoke/MethodHandle" ∧ y.cls ≠ "java/lang/invoke/VarHandle")
    {W9 : Nat} {Pre : Pt → Array Value → Prop} {Post : Pt → Array Value → Option Value → Pt → Prop} (hK : Back l R p e below s args y 3 W9 Pre Post)
    {b : Addr} {cellB : Cell} (hcell : T.heap[b]? = some cellB) (hobj : cellB.vm.isStatics = false) (hcls : s.vm.findClass C = some cellB.cls)
    {g : JFrame} (hg : g.method = m) (hsize : g.locals.size = c.maxLocals) {argsL rest : List Value} (hlen : ∀ sig, parseMethodDescriptor y.desc = some sig → argsL.length = sig.parameters.length)
    (hstack : g.stack = argsL.reverse ++ .ref b :: rest) (hW : 2 * g.monitorRoom + (rest.map fun v => v.category).sum ≤ W9) (hdg : decode c.code g.pc = .ok (.invokevirtual index, 3))
    (hpre : ∀ vm₁, s.WarmedH vm₁ → Pre ⟨T.setVm vm₁, locs, cells, slots⟩ (Value.ref b :: argsL).toArray) :
    ∃ (v : Option Value) (vm₁ : Vm) (B : Pt), s.WarmedH vm₁ ∧ Stand p l e R s m args below meth c B.U B.locs B.cells B.slots ∧ Post ⟨T.setVm vm₁, locs, cells, slots⟩ (Value.ref b :: argsL).toArray v B ∧
      ∀ target, Steps p.tables e below (B.U.setTop { g with pc := g.pc + 3, stack := v.toList ++ rest }) target → Steps p.tables e below (T.setTop g) target := by
  obtain ⟨mk, methM, hnamed, hmethM, hstM, habM⟩ := Cond.instanceMethod_spec hinst
  obtain ⟨m8, methM', cM, hn8, hmethM', -, -, -, -, -, -, hsigM⟩ := Cond.codeWith_spec hcode
  cases Option.some.inj (hn8.symm.trans hnamed)
  cases hmethM.symm.trans hmethM'
  obtain ⟨c2, r2, m2, q1, q2, q3, q4, kP, hkP, hkPi⟩ := Cond.selects_spec hsel
  cases hcls.symm.trans q1
  cases (State.methodFound?_of_named hnamed hy).symm.trans q2
  cases hnamed.symm.trans q3
  have hselP : selectMethod e.platform s.vm cellB.cls mk = .method mk := by rw [Launch.admits_selectMethod X.admits]; exact q4
  obtain ⟨vm₁, X₁, hstep₁⟩ := X.invokevirtual hexec hown hlink hnamed hmethM hstM hkP hkPi hy (a := b) (cell := cellB) hcell
    (fun z h => by rw [h] at hobj; cases hobj) hselP hmethM habM hkP hkPi (g := g) hg (argsL := argsL) (rest := rest) (hlen _ hsigM) hstack hdg
  obtain ⟨v, B, X', hpost, hsteps⟩ := hK m meth c ⟨T.setVm vm₁, locs, cells, slots⟩ { g with stack := rest } (.invokevirtual index) mk (Value.ref b :: argsL).toArray X₁ hg hsize hdg hW (X₁.named hnamed) (hpre vm₁ X₁.warmed)
  exact ⟨v, vm₁, B, X₁.warmed, X', hpost, fun target h => hstep₁ _ fun acts => by rw [doInvoke_state]; exact hsteps.trans h⟩
abbrev vx_CVW (R : Room) (s : State) (args : Array Value) (own C : String) (index : Nat) (y : MethodName) (bytes : ByteArray) (maxL : Nat) (ret : Option FieldType) (hh : List (Nat × Nat × Nat × Nat)) (ws : List Cond) (rm : Room) (mc ms n : Nat) : Prop :=
  (rm.cells = mc ∧ rm.slots = ms ∧ rm.frames + 1 ≤ R.frames ∧ 8 + (maxL + 11) + rm.locals ≤ R.locals ∧ (∀ w ∈ ws, ∀ (a' : Array Value) (U : State), s.WarmedH U.vm → w.before a' U = true) ∧ Cond.codeWith y bytes maxL ret hh ∈ ws) ∧
  (Cond.codeWith y bytes maxL ret hh).before args s = true ∧ (Cond.initialized y.cls).before args s = true ∧ (y.cls ≠ "java/lang/invoke/MethodHandle" ∧ y.cls ≠ "java/lang/invoke/VarHandle") ∧
  (∀ sig, parseMethodDescriptor y.desc = some sig → n = sig.parameters.length) ∧ (Cond.methodLink own index y).before args s = true ∧ (Cond.instanceMethod y).before args s = true ∧ (Cond.selects C y y).before args s = true
theorem vx_cwVW {own C : String} {index maxL mc ms : Nat} {y : MethodName} {bytes : ByteArray} {ret : Option FieldType} {hh : List (Nat × Nat × Nat × Nat)} {Ts ws ws' : List Cond} {rm : Room} (n : Nat) (ht : ∀ w ∈ Ts, w.before args s = true) (hT : GoodIn Ts (wsV own index C y ws)) (hw : ws = Cond.codeWith y bytes maxL ret hh :: ws') (hrc : rm.cells = mc) (hrs : rm.slots = ms)
    (hd : y.cls = C ∧ y.cls ≠ "java/lang/invoke/MethodHandle" ∧ y.cls ≠ "java/lang/invoke/VarHandle" ∧ (parseMethodDescriptor y.desc).map (fun d => d.parameters.length) = some n) (hR : rm.frames + 1 ≤ R.frames ∧ 8 + (maxL + 11) + rm.locals ≤ R.locals) :
    vx_CVW R s args own C index y bytes maxL ret hh ws rm mc ms n := by
  obtain ⟨hC, hd⟩ := hd
  subst hC
  have ok : ∀ w ∈ wsV own index y.cls y ws, w.before args s = true := fun w h => ht w (hT w h).1
  have hG : GoodIn Ts ws := fun w h => hT w (by unfold wsV; exact List.mem_append_right _ h)
  have hc : Cond.codeWith y bytes maxL ret hh ∈ ws := by rw [hw]; exact List.mem_cons_self
  refine ⟨⟨hrc, hrs, hR.1, hR.2, pay_in ht hG, hc⟩, ht _ (hG _ hc).1, ok _ (by simp [wsV]), ⟨hd.1, hd.2.1⟩, fun sig h => ?_, ok _ (by simp [wsV]), ok _ (by simp [wsV]), ok _ (by simp [wsV])⟩
  have h2 := hd.2.2
  rw [h] at h2
  exact (Option.some.inj h2).symm
theorem vx_runVW {y : MethodName} {bytes cc : ByteArray} {maxL nL mc ms n index : Nat} {ret : Option FieldType} {hh : List (Nat × Nat × Nat × Nat)} {ws : List Cond} {rm : Room} {Pc : Array Value → State → Prop} {Qc : Array Value → State → Outcome → State → Prop} {free : Addr → Prop} {Ts : List Cond} {own C : String} {b : Addr} {As rest : List Value} {g : JFrame}
    (S : CallFix p m c cc nL s args Ts own) (hM : Met l y ws rm Pc Qc mc ms free) (cw : vx_CVW R s args own C index y bytes maxL ret hh ws rm mc ms n) (hp : PreV s H C b Pc As)
    (hg : g.method = m) (hn : As.length = n) (hsize : g.locals.size = nL) (hstack : g.stack = As.reverse ++ .ref b :: rest) (hW : 2 * g.monitorRoom + (rest.map fun v => v.category).sum ≤ 8) (hdg : decode cc g.pc = .ok (.invokevirtual index, 3)) (hf : cells + mc ≤ R.cells ∧ slots + ms ≤ R.slots) :
    va_Run p l e R s m args below meth c H locs cells slots mc ms g rest (Qc (Value.ref b :: As).toArray) free := by
  obtain ⟨⟨hrc, hrs, hfr, hlo, hws, hcw⟩, hcode, hini, hy, hlen, hl, hin, hse⟩ := cw
  have hK : Back l R p e below s args y 3 8 (PreOf R mc ms Pc) (PostOf Qc mc ms free) := va_backW (hh := hh) (bytes := bytes) (maxL := maxL) (ret := ret) hM hp.1 hrc hrs hfr hlo hws hcw (fun a' U hW => word_at hW (Or.inl (by first | rfl | simp [Cond.onTables, Cond.keeps, Cond.steady])) hini)
  obtain ⟨hx, hb, hml, ho, -⟩ := S
  obtain ⟨-, ⟨cellB, hcB, hoB, hclB⟩, hPc⟩ := hp
  intro T hT X
  obtain ⟨v, vm₁, ⟨U', l2, c2, s2⟩, hW₁, X', ⟨g', mk, t, L, e1, e2, hq, h1, hL, h2, h3⟩, st⟩ := vx_callVW X hx (C := C) (hh := hh) (bytes := bytes) (maxL := maxL) (ret := ret) ho hl hin hse hcode hy hK (by rw [hT]; exact hcB) hoB hclB hg (hsize.trans hml.symm) (argsL := As) (rest := rest) (fun sig h => hn.trans (hlen sig h)) hstack hW (by rw [hb]; exact hdg)
    (fun vm₁ hW₁ => ⟨hf.1, hf.2, hPc (T.setVm vm₁) hT hW₁⟩)
  dsimp only [Pt.U, Pt.locs, Pt.cells, Pt.slots] at X' e1 e2 h1 h2 h3 st
  subst h1; subst h2; subst h3
  exact ⟨v, (T.setVm vm₁).calling g' mk (Value.ref b :: As).toArray, t, U', L, hT, X', hL, e1, e2, hq, st⟩
section
variable {y : MethodName} {bytes cc : ByteArray} {maxL nL mc ms n index : Nat} {ret : Option FieldType} {ws : List Cond} {rm : Room} {Pc : Array Value → State → Prop} {Qc : Array Value → State → Outcome → State → Prop} {XC : String → State → State → Prop} {free : Addr → Prop} {Ts : List Cond} {own C : String} {b : Addr} {As rest : List Value} {g : JFrame}
theorem vx_runVX {hh : List (Nat × Nat × Nat × Nat)} (S : CallFix p m c cc nL s args Ts own) (hM : vx_Met l y ws rm Pc Qc XC mc ms free) (cw : vx_CVW R s args own C index y bytes maxL ret hh ws rm mc ms n) (hp : PreV s H C b Pc As)
    (hg : g.method = m) (hn : As.length = n) (hsize : g.locals.size = nL) (hstack : g.stack = As.reverse ++ .ref b :: rest) (hW : 2 * g.monitorRoom + (rest.map fun v => v.category).sum ≤ 8) (hdg : decode cc g.pc = .ok (.invokevirtual index, 3)) (hf : cells + mc ≤ R.cells ∧ slots + ms ≤ R.slots) :
    vx_Run p l e R s m args below meth c H locs cells slots mc ms g rest (Qc (Value.ref b :: As).toArray) XC free := by
  obtain ⟨⟨hrc, hrs, hfr, hlo, hws, hcw⟩, hcode, hini, hy, hlen, hl, hin, hse⟩ := cw
  have hK : vx_Back l R p e below s args y 3 8 (PreOf R mc ms Pc) (PostOf Qc mc ms free) (vx_Post XC mc ms free) := vx_backW (hh := hh) (bytes := bytes) (maxL := maxL) (ret := ret) hM hp.1 hrc hrs hfr hlo hws hcw (fun a' U hW => word_at hW (Or.inl (by first | rfl | simp [Cond.onTables, Cond.keeps, Cond.steady])) hini)
  obtain ⟨hx, hb, hml, ho, -⟩ := S
  obtain ⟨-, ⟨cellB, hcB, hoB, hclB⟩, hPc⟩ := hp
  intro T hT X
  rcases vx_callVX X hx (C := C) (hh := hh) (bytes := bytes) (maxL := maxL) (ret := ret) ho hl hin hse hcode hy hK (by rw [hT]; exact hcB) hoB hclB hg (hsize.trans hml.symm) (argsL := As) (rest := rest) (fun sig h => hn.trans (hlen sig h)) hstack hW (by rw [hb]; exact hdg)
    (fun vm₁ hW₁ => ⟨hf.1, hf.2, hPc (T.setVm vm₁) hT hW₁⟩) with ⟨v, vm₁, ⟨U', l2, c2, s2⟩, hW₁, X', ⟨g', mk, t, L, e1, e2, hq, h1, hL, h2, h3⟩, st⟩ | ⟨q, vm₁, ⟨U', l2, c2, s2⟩, hW₁, X', ⟨g', mk, t, L, E, ce, e1, e2, hq, hce, hcv, hcl, h1, hL, h2, h3⟩, st⟩
  · dsimp only [Pt.U, Pt.locs, Pt.cells, Pt.slots] at X' e1 e2 h1 h2 h3 st
    subst h1; subst h2; subst h3
    exact Or.inl ⟨v, (T.setVm vm₁).calling g' mk (Value.ref b :: As).toArray, t, U', L, hT, X', hL, e1, e2, hq, st⟩
  · dsimp only [Pt.U, Pt.locs, Pt.cells, Pt.slots] at X' e1 e2 h1 h2 h3 st hcl
    subst h1; subst h2; subst h3
    exact Or.inr ⟨q, (T.setVm vm₁).calling g' mk (Value.ref b :: As).toArray, t, U', L, E, ce, hT, X', hL, e1, e2, hq, hce, hcv, vx_cls hW₁ hcl, st⟩
theorem vx_runSX {hh : List (Nat × Nat × Nat × Nat)} (S : CallFix p m c cc nL s args Ts own) (hM : vx_Met l y ws rm Pc Qc XC mc ms free) (cw : vx_CSW R s args own index y bytes maxL ret hh ws rm mc ms n) (hp : PreS s H Pc As)
    (hg : g.method = m) (hn : As.length = n) (hsize : g.locals.size = nL) (hstack : g.stack = As.reverse ++ rest) (hW : 2 * g.monitorRoom + (rest.map fun v => v.category).sum ≤ 8) (hdg : decode cc g.pc = .ok (.invokestatic index, 3)) (hf : cells + mc ≤ R.cells ∧ slots + ms ≤ R.slots) :
    vx_Run p l e R s m args below meth c H locs cells slots mc ms g rest (Qc As.toArray) XC free := by
  obtain ⟨⟨hrc, hrs, hfr, hlo, hws, hcw⟩, hcode, hini, hy, hlen, hl, hstt⟩ := cw
  have hK : vx_Back l R p e below s args y 3 8 (PreOf R mc ms Pc) (PostOf Qc mc ms free) (vx_Post XC mc ms free) := vx_backW (hh := hh) (bytes := bytes) (maxL := maxL) (ret := ret) hM hp.1 hrc hrs hfr hlo hws hcw (fun a' U hW => word_at hW (Or.inl (by first | rfl | simp [Cond.onTables, Cond.keeps, Cond.steady])) hini)
  obtain ⟨hx, hb, hml, ho, -⟩ := S
  intro T hT X
  rcases vx_callSX X hx (hh := hh) (bytes := bytes) (maxL := maxL) (ret := ret) ho hl hstt hini hcode hy hK hg (hsize.trans hml.symm) (argsL := As) (rest := rest) (fun sig h => hn.trans (hlen sig h)) hstack hW (by rw [hb]; exact hdg)
    (fun vm₁ hW₁ => ⟨hf.1, hf.2, hp.2 (T.setVm vm₁) hT hW₁⟩) with ⟨v, vm₁, ⟨U', l2, c2, s2⟩, hW₁, X', ⟨g', mk, t, L, e1, e2, hq, h1, hL, h2, h3⟩, st⟩ | ⟨q, vm₁, ⟨U', l2, c2, s2⟩, hW₁, X', ⟨g', mk, t, L, E, ce, e1, e2, hq, hce, hcv, hcl, h1, hL, h2, h3⟩, st⟩
  · dsimp only [Pt.U, Pt.locs, Pt.cells, Pt.slots] at X' e1 e2 h1 h2 h3 st
    subst h1; subst h2; subst h3
    exact Or.inl ⟨v, (T.setVm vm₁).calling g' mk As.toArray, t, U', L, hT, X', hL, e1, e2, hq, st⟩
  · dsimp only [Pt.U, Pt.locs, Pt.cells, Pt.slots] at X' e1 e2 h1 h2 h3 st hcl
    subst h1; subst h2; subst h3
    exact Or.inr ⟨q, (T.setVm vm₁).calling g' mk As.toArray, t, U', L, E, ce, hT, X', hL, e1, e2, hq, hce, hcv, vx_cls hW₁ hcl, st⟩
end
end VXH
theorem vx_ofWH {l : Launch} {y : MethodName} {ws ws' : List Cond} {rm : Room} {Pc : Array Value → State → Prop} {Qc : Array Value → State → Outcome → State → Prop} {XC : String → State → State → Prop} {mc ms : Nat} {free : Addr → Prop} {cc : ByteArray} {maxL : Nat} {ret : Option FieldType} {hh : List (Nat × Nat × Nat × Nat)}
    (hy : plainName y.cls = true) (hw : ws = Cond.codeWith y cc maxL ret hh :: ws')
    (body : ∀ p e s m args below meth c s₁, BodyLoose p l y (headSpec ws rm) cc maxL ret e s m args below meth c s₁ → c.maxLocals = maxL → Pc args s →
      W p l e (headSpec ws rm).room s m args below meth c s.heap [] 0 0 (vx_MQ below Qc XC args s mc ms free) (entryFrame m args maxL)) : vx_Met l y ws rm Pc Qc XC mc ms free := by
  refine MetFree.of_bodyS (code := cc) (maxLocals := maxL) (ret := ret) hy ?_ ?_
  · intro args s m h hn
    obtain ⟨m9, meth, c, hn9, h1, h2, h3, h4, -, h5, h6, -⟩ := Cond.codeWith_spec (atoms_spec (ws := ws) h _ (by rw [hw]; exact List.mem_cons_self))
    cases hn.symm.trans hn9
    exact ⟨meth, c, h1, h2, h3, h4, h5, h6⟩
  · intro p e s m args below meth c s₁ B hml hP _
    have hh0 : s₁.heap = s.heap := by rw [B.state]; rfl
    obtain ⟨t, a1, o, b1, b2, b3⟩ := body p e s m args below meth c s₁ B hml hP s₁ hh0 (Stand.of_body B)
    exact ⟨t, o, a1, b1, b2, b3⟩
/-! ===== END ===== -/

/-! ===== BEGIN printed: names, fields, word lists, decode rows ===== -/
def RX0 : String := "ScrollPieces$Cheapest"
def TX0 : u_T := fun k => match k with
  | 0 => ("ScrollPieces$Cheapest", "joins", "[I", true)
  | 1 => ("ScrollPieces$Cheapest", "least", "[I", true)
  | _ => ("ScrollPieces$Cheapest", "row", "[I", true)
def tyX0 : Nat → FieldType := fun k => match k with
  | 0 => .array .int
  | 1 => .array .int
  | _ => .array .int
abbrev wsX00 : List Cond := u_ws RX0 TX0 3
theorem nmX0 : ∀ a, a < 3 → ∀ b, b < 3 → a ≠ b → (TX0 a).2.1 ≠ (TX0 b).2.1 := by decide +kernel
theorem tyX0_ok : ∀ k, k < 3 → parseFieldDescriptor (TX0 k).2.2.1 = some (tyX0 k) := by decide +kernel
abbrev cX0_init : ByteArray := prog_2_method_1_code
def yX0_init : MethodName := ⟨RX0, "<init>", "()V"⟩
abbrev cX0_leastBySets : ByteArray := prog_2_method_2_code
def yX0_leastBySets : MethodName := ⟨RX0, "leastBySets", "(LScrollPieces$Scroll;)I"⟩
abbrev cX0_leastByTrying : ByteArray := prog_2_method_3_code
def yX0_leastByTrying : MethodName := ⟨RX0, "leastByTrying", "(LScrollPieces$Scroll;)I"⟩
abbrev cX0_findRow : ByteArray := prog_2_method_4_code
def yX0_findRow : MethodName := ⟨RX0, "findRow", "(LScrollPieces$Scroll;)V"⟩
abbrev cX0_fillJoins : ByteArray := prog_2_method_5_code
def yX0_fillJoins : MethodName := ⟨RX0, "fillJoins", "(LScrollPieces$Scroll;)V"⟩
abbrev cX0_fillLeast : ByteArray := prog_2_method_6_code
def yX0_fillLeast : MethodName := ⟨RX0, "fillLeast", "(II)V"⟩
abbrev cX0_cheapestNext : ByteArray := prog_2_method_7_code
def yX0_cheapestNext : MethodName := ⟨RX0, "cheapestNext", "(III)I"⟩
abbrev cX0_costBehind : ByteArray := prog_2_method_8_code
def yX0_costBehind : MethodName := ⟨RX0, "costBehind", "(III)I"⟩
abbrev cX0_tryBehind : ByteArray := prog_2_method_9_code
def yX0_tryBehind : MethodName := ⟨RX0, "tryBehind", "([IIIIIII)I"⟩
def RX1 : String := "ScrollPieces$HoleLine"
def TX1 : u_T := fun k => match k with
  | 0 => ("ScrollPieces$HoleLine", "stands", "[I", true)
  | 1 => ("ScrollPieces$HoleLine", "owners", "[I", true)
  | 2 => ("ScrollPieces$HoleLine", "holes", "I", false)
  | 3 => ("ScrollPieces$HoleLine", "shrink", "I", false)
  | _ => ("ScrollPieces$HoleLine", "slack", "I", false)
def tyX1 : Nat → FieldType := fun k => match k with
  | 0 => .array .int
  | 1 => .array .int
  | 2 => .int
  | 3 => .int
  | _ => .int
abbrev wsX10 : List Cond := u_ws RX1 TX1 5
theorem nmX1 : ∀ a, a < 5 → ∀ b, b < 5 → a ≠ b → (TX1 a).2.1 ≠ (TX1 b).2.1 := by decide +kernel
theorem tyX1_ok : ∀ k, k < 5 → parseFieldDescriptor (TX1 k).2.2.1 = some (tyX1 k) := by decide +kernel
abbrev cX1_init : ByteArray := prog_3_method_1_code
def yX1_init : MethodName := ⟨RX1, "<init>", "()V"⟩
abbrev cX1_lineUp : ByteArray := prog_3_method_2_code
def yX1_lineUp : MethodName := ⟨RX1, "lineUp", "(LScrollPieces$Scroll;[I)V"⟩
abbrev cX1_property : ByteArray := prog_3_method_3_code
def yX1_property : MethodName := ⟨RX1, "property", "(II)I"⟩
abbrev cX1_distance : ByteArray := prog_3_method_4_code
def yX1_distance : MethodName := ⟨RX1, "distance", "(I)I"⟩
abbrev cX1_shouldBe : ByteArray := prog_3_method_5_code
def yX1_shouldBe : MethodName := ⟨RX1, "shouldBe", "(I)I"⟩
abbrev cX1_isWrong : ByteArray := prog_3_method_6_code
def yX1_isWrong : MethodName := ⟨RX1, "isWrong", "(I)Z"⟩
abbrev cX1_lacking : ByteArray := prog_3_method_7_code
def yX1_lacking : MethodName := ⟨RX1, "lacking", "(I)I"⟩
abbrev cX1_wrongDistances : ByteArray := prog_3_method_8_code
def yX1_wrongDistances : MethodName := ⟨RX1, "wrongDistances", "()I"⟩
abbrev cX1_lackingTurns : ByteArray := prog_3_method_9_code
def yX1_lackingTurns : MethodName := ⟨RX1, "lackingTurns", "()I"⟩
abbrev cX1_shrinkByMean : ByteArray := prog_3_method_10_code
def yX1_shrinkByMean : MethodName := ⟨RX1, "shrinkByMean", "()F"⟩
def RX2 : String := "ScrollPieces$Reader"
def TX2 : u_T := fun k => match k with
  | 0 => ("ScrollPieces$Reader", "piecesBegun", "I", false)
  | 1 => ("ScrollPieces$Reader", "width", "I", false)
  | 2 => ("ScrollPieces$Reader", "edges", "[I", true)
  | 3 => ("ScrollPieces$Reader", "holeCount", "I", false)
  | 4 => ("ScrollPieces$Reader", "holes", "[I", true)
  | 5 => ("ScrollPieces$Reader", "part", "I", false)
  | 6 => ("ScrollPieces$Reader", "edgesRead", "I", false)
  | 7 => ("ScrollPieces$Reader", "barRead", "Z", false)
  | _ => ("ScrollPieces$Reader", "place", "I", false)
def tyX2 : Nat → FieldType := fun k => match k with
  | 0 => .int
  | 1 => .int
  | 2 => .array .int
  | 3 => .int
  | 4 => .array .int
  | 5 => .int
  | 6 => .int
  | 7 => .boolean
  | _ => .int
abbrev wsX20 : List Cond := u_ws RX2 TX2 9
theorem nmX2 : ∀ a, a < 9 → ∀ b, b < 9 → a ≠ b → (TX2 a).2.1 ≠ (TX2 b).2.1 := by decide +kernel
theorem tyX2_ok : ∀ k, k < 9 → parseFieldDescriptor (TX2 k).2.2.1 = some (tyX2 k) := by decide +kernel
abbrev cX2_init : ByteArray := prog_4_method_1_code
def yX2_init : MethodName := ⟨RX2, "<init>", "()V"⟩
abbrev cX2_begin : ByteArray := prog_4_method_2_code
def yX2_begin : MethodName := ⟨RX2, "begin", "()V"⟩
abbrev cX2_beginPiece : ByteArray := prog_4_method_3_code
def yX2_beginPiece : MethodName := ⟨RX2, "beginPiece", "()V"⟩
abbrev cX2_takes : ByteArray := prog_4_method_4_code
def yX2_takes : MethodName := ⟨RX2, "takes", "(C)Z"⟩
abbrev cX2_isWhole : ByteArray := prog_4_method_5_code
def yX2_isWhole : MethodName := ⟨RX2, "isWhole", "()Z"⟩
abbrev cX2_closePlace : ByteArray := prog_4_method_6_code
def yX2_closePlace : MethodName := ⟨RX2, "closePlace", "()V"⟩
abbrev cX2_takesWidth : ByteArray := prog_4_method_7_code
def yX2_takesWidth : MethodName := ⟨RX2, "takesWidth", "(C)Z"⟩
abbrev cX2_takesEdges : ByteArray := prog_4_method_8_code
def yX2_takesEdges : MethodName := ⟨RX2, "takesEdges", "(C)Z"⟩
abbrev cX2_takesNext : ByteArray := prog_4_method_9_code
def yX2_takesNext : MethodName := ⟨RX2, "takesNext", "(C)Z"⟩
abbrev cX2_takesPlace : ByteArray := prog_4_method_10_code
def yX2_takesPlace : MethodName := ⟨RX2, "takesPlace", "(C)Z"⟩
abbrev cX2_lastHole : ByteArray := prog_4_method_11_code
def yX2_lastHole : MethodName := ⟨RX2, "lastHole", "()I"⟩
abbrev cX2_isPlace : ByteArray := prog_4_method_12_code
def yX2_isPlace : MethodName := ⟨RX2, "isPlace", "(I)Z"⟩
abbrev cX2_beginsPlace : ByteArray := prog_4_method_13_code
def yX2_beginsPlace : MethodName := ⟨RX2, "beginsPlace", "(I)Z"⟩
abbrev cX2_digitOf : ByteArray := prog_4_method_14_code
def yX2_digitOf : MethodName := ⟨RX2, "digitOf", "(C)I"⟩
def RX3 : String := "ScrollPieces$Scroll"
def TX3 : u_T := fun k => match k with
  | 0 => ("ScrollPieces$Scroll", "pieces", "I", false)
  | 1 => ("ScrollPieces$Scroll", "moves", "I", false)
  | 2 => ("ScrollPieces$Scroll", "widths", "[I", true)
  | 3 => ("ScrollPieces$Scroll", "edges", "[I", true)
  | 4 => ("ScrollPieces$Scroll", "holeCounts", "[I", true)
  | 5 => ("ScrollPieces$Scroll", "holes", "[I", true)
  | 6 => ("ScrollPieces$Scroll", "row", "[I", true)
  | _ => ("ScrollPieces$Scroll", "settings", "[I", true)
def tyX3 : Nat → FieldType := fun k => match k with
  | 0 => .int
  | 1 => .int
  | 2 => .array .int
  | 3 => .array .int
  | 4 => .array .int
  | 5 => .array .int
  | 6 => .array .int
  | _ => .array .int
abbrev wsX30 : List Cond := u_ws RX3 TX3 8
theorem nmX3 : ∀ a, a < 8 → ∀ b, b < 8 → a ≠ b → (TX3 a).2.1 ≠ (TX3 b).2.1 := by decide +kernel
theorem tyX3_ok : ∀ k, k < 8 → parseFieldDescriptor (TX3 k).2.2.1 = some (tyX3 k) := by decide +kernel
abbrev cX3_init : ByteArray := prog_5_method_1_code
def yX3_init : MethodName := ⟨RX3, "<init>", "()V"⟩
abbrev cX3_copyFrom : ByteArray := prog_5_method_2_code
def yX3_copyFrom : MethodName := ⟨RX3, "copyFrom", "(LScrollPieces$Scroll;)V"⟩
abbrev cX3_addPiece : ByteArray := prog_5_method_3_code
def yX3_addPiece : MethodName := ⟨RX3, "addPiece", "(I)I"⟩
abbrev cX3_takeAway : ByteArray := prog_5_method_4_code
def yX3_takeAway : MethodName := ⟨RX3, "takeAway", "(I)V"⟩
abbrev cX3_closeGap : ByteArray := prog_5_method_5_code
def yX3_closeGap : MethodName := ⟨RX3, "closeGap", "([IIII)V"⟩
abbrev cX3_rowWith : ByteArray := prog_5_method_6_code
def yX3_rowWith : MethodName := ⟨RX3, "rowWith", "(II[I)V"⟩
abbrev cX3_hasHole : ByteArray := prog_5_method_7_code
def yX3_hasHole : MethodName := ⟨RX3, "hasHole", "(II)Z"⟩
abbrev cX3_openHole : ByteArray := prog_5_method_8_code
def yX3_openHole : MethodName := ⟨RX3, "openHole", "(II)V"⟩
abbrev cX3_closeHole : ByteArray := prog_5_method_9_code
def yX3_closeHole : MethodName := ⟨RX3, "closeHole", "(II)V"⟩
abbrev cX3_property : ByteArray := prog_5_method_10_code
def yX3_property : MethodName := ⟨RX3, "property", "(II)I"⟩
abbrev cX3_placeOf : ByteArray := prog_5_method_11_code
def yX3_placeOf : MethodName := ⟨RX3, "placeOf", "(I)I"⟩
abbrev cX3_beginAt : ByteArray := prog_5_method_12_code
def yX3_beginAt : MethodName := ⟨RX3, "beginAt", "(I)I"⟩
abbrev cX3_widthOfRow : ByteArray := prog_5_method_13_code
def yX3_widthOfRow : MethodName := ⟨RX3, "widthOfRow", "()I"⟩
abbrev cX3_costOfJoin : ByteArray := prog_5_method_14_code
def yX3_costOfJoin : MethodName := ⟨RX3, "costOfJoin", "(II)I"⟩
abbrev cX3_costOfRow : ByteArray := prog_5_method_15_code
def yX3_costOfRow : MethodName := ⟨RX3, "costOfRow", "([I)I"⟩
abbrev cX3_cheapestBehind : ByteArray := prog_5_method_16_code
def yX3_cheapestBehind : MethodName := ⟨RX3, "cheapestBehind", "(I)I"⟩
abbrev cX3_leadOfCheapest : ByteArray := prog_5_method_17_code
def yX3_leadOfCheapest : MethodName := ⟨RX3, "leadOfCheapest", "(I)I"⟩
def RX4 : String := "ScrollPieces"
def TX4 : u_T := fun k => match k with
  | 0 => ("ScrollPieces", "now", "LScrollPieces$Scroll;", true)
  | 1 => ("ScrollPieces", "saved", "[LScrollPieces$Scroll;", true)
  | 2 => ("ScrollPieces", "oldestSaved", "I", false)
  | 3 => ("ScrollPieces", "savedStates", "I", false)
  | 4 => ("ScrollPieces", "slots", "[LScrollPieces$Scroll;", true)
  | 5 => ("ScrollPieces", "slotFull", "[Z", true)
  | 6 => ("ScrollPieces", "buffer", "[C", true)
  | 7 => ("ScrollPieces", "length", "I", false)
  | 8 => ("ScrollPieces", "reader", "LScrollPieces$Reader;", true)
  | 9 => ("ScrollPieces", "cheapest", "LScrollPieces$Cheapest;", true)
  | 10 => ("ScrollPieces", "line", "LScrollPieces$HoleLine;", true)
  | _ => ("ScrollPieces", "triedRow", "[I", true)
def tyX4 : Nat → FieldType := fun k => match k with
  | 0 => .object "ScrollPieces$Scroll"
  | 1 => .array (.object "ScrollPieces$Scroll")
  | 2 => .int
  | 3 => .int
  | 4 => .array (.object "ScrollPieces$Scroll")
  | 5 => .array .boolean
  | 6 => .array .char
  | 7 => .int
  | 8 => .object "ScrollPieces$Reader"
  | 9 => .object "ScrollPieces$Cheapest"
  | 10 => .object "ScrollPieces$HoleLine"
  | _ => .array .int
abbrev wsX40 : List Cond := u_ws RX4 TX4 12
theorem nmX4 : ∀ a, a < 12 → ∀ b, b < 12 → a ≠ b → (TX4 a).2.1 ≠ (TX4 b).2.1 := by decide +kernel
theorem tyX4_ok : ∀ k, k < 12 → parseFieldDescriptor (TX4 k).2.2.1 = some (tyX4 k) := by decide +kernel
abbrev cX4_init : ByteArray := prog_1_method_1_code
def yX4_init : MethodName := ⟨RX4, "<init>", "()V"⟩
abbrev cX4_add : ByteArray := prog_1_method_2_code
def yX4_add : MethodName := ⟨RX4, "add", "(I)I"⟩
abbrev cX4_tear : ByteArray := prog_1_method_3_code
def yX4_tear : MethodName := ⟨RX4, "tear", "(IIII)I"⟩
abbrev cX4_fibre : ByteArray := prog_1_method_4_code
def yX4_fibre : MethodName := ⟨RX4, "fibre", "(III)I"⟩
abbrev cX4_hole : ByteArray := prog_1_method_5_code
def yX4_hole : MethodName := ⟨RX4, "hole", "(II)I"⟩
abbrev cX4_remove : ByteArray := prog_1_method_6_code
def yX4_remove : MethodName := ⟨RX4, "remove", "(I)I"⟩
abbrev cX4_move : ByteArray := prog_1_method_7_code
def yX4_move : MethodName := ⟨RX4, "move", "(II)I"⟩
abbrev cX4_order : ByteArray := prog_1_method_8_code
def yX4_order : MethodName := ⟨RX4, "order", "()I"⟩
abbrev cX4_set : ByteArray := prog_1_method_9_code
def yX4_set : MethodName := ⟨RX4, "set", "(II)I"⟩
abbrev cX4_append : ByteArray := prog_1_method_10_code
def yX4_append : MethodName := ⟨RX4, "append", "(I)I"⟩
abbrev cX4_clearBuffer : ByteArray := prog_1_method_11_code
def yX4_clearBuffer : MethodName := ⟨RX4, "clearBuffer", "()I"⟩
abbrev cX4_firstError : ByteArray := prog_1_method_12_code
def yX4_firstError : MethodName := ⟨RX4, "firstError", "()I"⟩
abbrev cX4_load : ByteArray := prog_1_method_13_code
def yX4_load : MethodName := ⟨RX4, "load", "()I"⟩
abbrev cX4_keep : ByteArray := prog_1_method_14_code
def yX4_keep : MethodName := ⟨RX4, "keep", "(I)I"⟩
abbrev cX4_goBack : ByteArray := prog_1_method_15_code
def yX4_goBack : MethodName := ⟨RX4, "goBack", "(I)I"⟩
abbrev cX4_undo : ByteArray := prog_1_method_16_code
def yX4_undo : MethodName := ⟨RX4, "undo", "()I"⟩
abbrev cX4_pieceOf : ByteArray := prog_1_method_17_code
def yX4_pieceOf : MethodName := ⟨RX4, "pieceOf", "(II)I"⟩
abbrev cX4_isHole : ByteArray := prog_1_method_18_code
def yX4_isHole : MethodName := ⟨RX4, "isHole", "(II)I"⟩
abbrev cX4_at : ByteArray := prog_1_method_19_code
def yX4_at : MethodName := ⟨RX4, "at", "(I)I"⟩
abbrev cX4_cost : ByteArray := prog_1_method_20_code
def yX4_cost : MethodName := ⟨RX4, "cost", "(II)I"⟩
abbrev cX4_holeOf : ByteArray := prog_1_method_21_code
def yX4_holeOf : MethodName := ⟨RX4, "holeOf", "(II)I"⟩
abbrev cX4_count : ByteArray := prog_1_method_22_code
def yX4_count : MethodName := ⟨RX4, "count", "(I)I"⟩
abbrev cX4_setting : ByteArray := prog_1_method_23_code
def yX4_setting : MethodName := ⟨RX4, "setting", "(I)I"⟩
abbrev cX4_bestBehind : ByteArray := prog_1_method_24_code
def yX4_bestBehind : MethodName := ⟨RX4, "bestBehind", "(I)I"⟩
abbrev cX4_sureness : ByteArray := prog_1_method_25_code
def yX4_sureness : MethodName := ⟨RX4, "sureness", "(I)I"⟩
abbrev cX4_bestPlace : ByteArray := prog_1_method_26_code
def yX4_bestPlace : MethodName := ⟨RX4, "bestPlace", "(I)I"⟩
abbrev cX4_ifOrdered : ByteArray := prog_1_method_27_code
def yX4_ifOrdered : MethodName := ⟨RX4, "ifOrdered", "()I"⟩
abbrev cX4_meanShrink : ByteArray := prog_1_method_28_code
def yX4_meanShrink : MethodName := ⟨RX4, "meanShrink", "()F"⟩
abbrev cX4_meanCost : ByteArray := prog_1_method_29_code
def yX4_meanCost : MethodName := ⟨RX4, "meanCost", "()D"⟩
abbrev cX4_digest : ByteArray := prog_1_method_30_code
def yX4_digest : MethodName := ⟨RX4, "digest", "()J"⟩
abbrev cX4_needPiece : ByteArray := prog_1_method_31_code
def yX4_needPiece : MethodName := ⟨RX4, "needPiece", "(I)V"⟩
abbrev cX4_needPlaceIn : ByteArray := prog_1_method_32_code
def yX4_needPlaceIn : MethodName := ⟨RX4, "needPlaceIn", "(II)V"⟩
abbrev cX4_needSetting : ByteArray := prog_1_method_33_code
def yX4_needSetting : MethodName := ⟨RX4, "needSetting", "(I)V"⟩
abbrev cX4_needSlot : ByteArray := prog_1_method_34_code
def yX4_needSlot : MethodName := ⟨RX4, "needSlot", "(I)V"⟩
abbrev cX4_changeEdge : ByteArray := prog_1_method_35_code
def yX4_changeEdge : MethodName := ⟨RX4, "changeEdge", "(IIIII)I"⟩
abbrev cX4_saveState : ByteArray := prog_1_method_36_code
def yX4_saveState : MethodName := ⟨RX4, "saveState", "()V"⟩
abbrev cX4_readBuffer : ByteArray := prog_1_method_37_code
def yX4_readBuffer : MethodName := ⟨RX4, "readBuffer", "()I"⟩
abbrev cX4_addFromBuffer : ByteArray := prog_1_method_38_code
def yX4_addFromBuffer : MethodName := ⟨RX4, "addFromBuffer", "()V"⟩
abbrev cX4_addRead : ByteArray := prog_1_method_39_code
def yX4_addRead : MethodName := ⟨RX4, "addRead", "()V"⟩
abbrev cX4_number : ByteArray := prog_1_method_40_code
def yX4_number : MethodName := ⟨RX4, "number", "(I)I"⟩
abbrev cX4_holesNow : ByteArray := prog_1_method_41_code
def yX4_holesNow : MethodName := ⟨RX4, "holesNow", "()LScrollPieces$HoleLine;"⟩
abbrev cX4_cheapestPlace : ByteArray := prog_1_method_42_code
def yX4_cheapestPlace : MethodName := ⟨RX4, "cheapestPlace", "(I)I"⟩
abbrev cX4_wrongIfOrdered : ByteArray := prog_1_method_43_code
def yX4_wrongIfOrdered : MethodName := ⟨RX4, "wrongIfOrdered", "()I"⟩
abbrev cX4_costByMean : ByteArray := prog_1_method_44_code
def yX4_costByMean : MethodName := ⟨RX4, "costByMean", "()D"⟩
abbrev cX4_mixed : ByteArray := prog_1_method_45_code
def yX4_mixed : MethodName := ⟨RX4, "mixed", "(JJ)J"⟩
abbrev cX4_withPieces : ByteArray := prog_1_method_46_code
def yX4_withPieces : MethodName := ⟨RX4, "withPieces", "(J)J"⟩
abbrev cX4_withHoles : ByteArray := prog_1_method_47_code
def yX4_withHoles : MethodName := ⟨RX4, "withHoles", "(J)J"⟩
abbrev cX4_withSlotsAndBuffer : ByteArray := prog_1_method_48_code
def yX4_withSlotsAndBuffer : MethodName := ⟨RX4, "withSlotsAndBuffer", "(J)J"⟩
abbrev cX4_bitsOfFloat : ByteArray := prog_1_method_49_code
def yX4_bitsOfFloat : MethodName := ⟨RX4, "bitsOfFloat", "(F)I"⟩
abbrev cX4_bitsOfDouble : ByteArray := prog_1_method_50_code
def yX4_bitsOfDouble : MethodName := ⟨RX4, "bitsOfDouble", "(D)J"⟩
def RX5 : String := "ScrollPiecesModel"
def TX5 : u_T := fun k => match k with
  | 0 => ("ScrollPiecesModel", "thrown", "I", false)
  | 1 => ("ScrollPiecesModel", "s", "[I", true)
  | 2 => ("ScrollPiecesModel", "aside", "[I", true)
  | 3 => ("ScrollPiecesModel", "saved", "[I", true)
  | 4 => ("ScrollPiecesModel", "savedMany", "I", false)
  | 5 => ("ScrollPiecesModel", "slots", "[I", true)
  | 6 => ("ScrollPiecesModel", "kept", "I", false)
  | 7 => ("ScrollPiecesModel", "text", "[I", true)
  | 8 => ("ScrollPiecesModel", "length", "I", false)
  | 9 => ("ScrollPiecesModel", "rests", "[I", true)
  | 10 => ("ScrollPiecesModel", "found", "I", false)
  | 11 => ("ScrollPiecesModel", "stand", "[I", true)
  | 12 => ("ScrollPiecesModel", "whose", "[I", true)
  | 13 => ("ScrollPiecesModel", "spot", "I", false)
  | 14 => ("ScrollPiecesModel", "isWrong", "Z", false)
  | 15 => ("ScrollPiecesModel", "read", "[I", true)
  | _ => ("ScrollPiecesModel", "digested", "J", false)
def tyX5 : Nat → FieldType := fun k => match k with
  | 0 => .int
  | 1 => .array .int
  | 2 => .array .int
  | 3 => .array .int
  | 4 => .int
  | 5 => .array .int
  | 6 => .int
  | 7 => .array .int
  | 8 => .int
  | 9 => .array .int
  | 10 => .int
  | 11 => .array .int
  | 12 => .array .int
  | 13 => .int
  | 14 => .boolean
  | 15 => .array .int
  | _ => .long
abbrev wsX50 : List Cond := u_ws RX5 TX5 17
theorem nmX5 : ∀ a, a < 17 → ∀ b, b < 17 → a ≠ b → (TX5 a).2.1 ≠ (TX5 b).2.1 := by decide +kernel
theorem tyX5_ok : ∀ k, k < 17 → parseFieldDescriptor (TX5 k).2.2.1 = some (tyX5 k) := by decide +kernel
abbrev cX5_init : ByteArray := prog_7_method_1_code
def yX5_init : MethodName := ⟨RX5, "<init>", "()V"⟩
abbrev cX5_thrown : ByteArray := prog_7_method_2_code
def yX5_thrown : MethodName := ⟨RX5, "thrown", "()I"⟩
abbrev cX5_in : ByteArray := prog_7_method_3_code
def yX5_in : MethodName := ⟨RX5, "in", "(III)Z"⟩
abbrev cX5_holds : ByteArray := prog_7_method_4_code
def yX5_holds : MethodName := ⟨RX5, "holds", "(I)Z"⟩
abbrev cX5_isPiece : ByteArray := prog_7_method_5_code
def yX5_isPiece : MethodName := ⟨RX5, "isPiece", "(I)Z"⟩
abbrev cX5_of : ByteArray := prog_7_method_6_code
def yX5_of : MethodName := ⟨RX5, "of", "(II)I"⟩
abbrev cX5_save : ByteArray := prog_7_method_7_code
def yX5_save : MethodName := ⟨RX5, "save", "()V"⟩
abbrev cX5_putAside : ByteArray := prog_7_method_8_code
def yX5_putAside : MethodName := ⟨RX5, "putAside", "()V"⟩
abbrev cX5_putBack : ByteArray := prog_7_method_9_code
def yX5_putBack : MethodName := ⟨RX5, "putBack", "()V"⟩
abbrev cX5_size : ByteArray := prog_7_method_10_code
def yX5_size : MethodName := ⟨RX5, "size", "(I)I"⟩
abbrev cX5_joinOf : ByteArray := prog_7_method_11_code
def yX5_joinOf : MethodName := ⟨RX5, "joinOf", "(II)I"⟩
abbrev cX5_rowCost : ByteArray := prog_7_method_12_code
def yX5_rowCost : MethodName := ⟨RX5, "rowCost", "()I"⟩
abbrev cX5_placeOf : ByteArray := prog_7_method_13_code
def yX5_placeOf : MethodName := ⟨RX5, "placeOf", "(I)I"⟩
abbrev cX5_beginOf : ByteArray := prog_7_method_14_code
def yX5_beginOf : MethodName := ⟨RX5, "beginOf", "(I)I"⟩
abbrev cX5_worksOut : ByteArray := prog_7_method_15_code
def yX5_worksOut : MethodName := ⟨RX5, "worksOut", "()I"⟩
abbrev cX5_restOf : ByteArray := prog_7_method_16_code
def yX5_restOf : MethodName := ⟨RX5, "restOf", "(II)I"⟩
abbrev cX5_sorts : ByteArray := prog_7_method_17_code
def yX5_sorts : MethodName := ⟨RX5, "sorts", "()V"⟩
abbrev cX5_moves : ByteArray := prog_7_method_18_code
def yX5_moves : MethodName := ⟨RX5, "moves", "(II)V"⟩
abbrev cX5_hasHole : ByteArray := prog_7_method_19_code
def yX5_hasHole : MethodName := ⟨RX5, "hasHole", "(II)Z"⟩
abbrev cX5_holesOf : ByteArray := prog_7_method_20_code
def yX5_holesOf : MethodName := ⟨RX5, "holesOf", "(I)I"⟩
abbrev cX5_findsHoles : ByteArray := prog_7_method_21_code
def yX5_findsHoles : MethodName := ⟨RX5, "findsHoles", "()V"⟩
abbrev cX5_distance : ByteArray := prog_7_method_22_code
def yX5_distance : MethodName := ⟨RX5, "distance", "(I)I"⟩
abbrev cX5_isWrongAt : ByteArray := prog_7_method_23_code
def yX5_isWrongAt : MethodName := ⟨RX5, "isWrongAt", "(I)Z"⟩
abbrev cX5_lacking : ByteArray := prog_7_method_24_code
def yX5_lacking : MethodName := ⟨RX5, "lacking", "(I)I"⟩
abbrev cX5_wrongs : ByteArray := prog_7_method_25_code
def yX5_wrongs : MethodName := ⟨RX5, "wrongs", "(I)I"⟩
abbrev cX5_adds : ByteArray := prog_7_method_26_code
def yX5_adds : MethodName := ⟨RX5, "adds", "(I)I"⟩
abbrev cX5_add : ByteArray := prog_7_method_27_code
def yX5_add : MethodName := ⟨RX5, "add", "(I)I"⟩
abbrev cX5_becomes : ByteArray := prog_7_method_28_code
def yX5_becomes : MethodName := ⟨RX5, "becomes", "(II)I"⟩
abbrev cX5_tear : ByteArray := prog_7_method_29_code
def yX5_tear : MethodName := ⟨RX5, "tear", "(IIII)I"⟩
abbrev cX5_fibre : ByteArray := prog_7_method_30_code
def yX5_fibre : MethodName := ⟨RX5, "fibre", "(III)I"⟩
abbrev cX5_isPlaceIn : ByteArray := prog_7_method_31_code
def yX5_isPlaceIn : MethodName := ⟨RX5, "isPlaceIn", "(II)Z"⟩
abbrev cX5_isRoom : ByteArray := prog_7_method_32_code
def yX5_isRoom : MethodName := ⟨RX5, "isRoom", "(II)Z"⟩
abbrev cX5_hole : ByteArray := prog_7_method_33_code
def yX5_hole : MethodName := ⟨RX5, "hole", "(II)I"⟩
abbrev cX5_remove : ByteArray := prog_7_method_34_code
def yX5_remove : MethodName := ⟨RX5, "remove", "(I)I"⟩
abbrev cX5_move : ByteArray := prog_7_method_35_code
def yX5_move : MethodName := ⟨RX5, "move", "(II)I"⟩
abbrev cX5_order : ByteArray := prog_7_method_36_code
def yX5_order : MethodName := ⟨RX5, "order", "()I"⟩
abbrev cX5_set : ByteArray := prog_7_method_37_code
def yX5_set : MethodName := ⟨RX5, "set", "(II)I"⟩
abbrev cX5_append : ByteArray := prog_7_method_38_code
def yX5_append : MethodName := ⟨RX5, "append", "(I)I"⟩
abbrev cX5_clearBuffer : ByteArray := prog_7_method_39_code
def yX5_clearBuffer : MethodName := ⟨RX5, "clearBuffer", "()I"⟩
abbrev cX5_isNext : ByteArray := prog_7_method_40_code
def yX5_isNext : MethodName := ⟨RX5, "isNext", "(II)Z"⟩
abbrev cX5_takes : ByteArray := prog_7_method_41_code
def yX5_takes : MethodName := ⟨RX5, "takes", "(II)I"⟩
abbrev cX5_begins : ByteArray := prog_7_method_42_code
def yX5_begins : MethodName := ⟨RX5, "begins", "(III)Z"⟩
abbrev cX5_number : ByteArray := prog_7_method_43_code
def yX5_number : MethodName := ⟨RX5, "number", "(II)I"⟩
abbrev cX5_readEdge : ByteArray := prog_7_method_44_code
def yX5_readEdge : MethodName := ⟨RX5, "readEdge", "(I)V"⟩
abbrev cX5_readHoles : ByteArray := prog_7_method_45_code
def yX5_readHoles : MethodName := ⟨RX5, "readHoles", "()V"⟩
abbrev cX5_readPiece : ByteArray := prog_7_method_46_code
def yX5_readPiece : MethodName := ⟨RX5, "readPiece", "()V"⟩
abbrev cX5_goesThrough : ByteArray := prog_7_method_47_code
def yX5_goesThrough : MethodName := ⟨RX5, "goesThrough", "(Z)I"⟩
abbrev cX5_firstError : ByteArray := prog_7_method_48_code
def yX5_firstError : MethodName := ⟨RX5, "firstError", "()I"⟩
abbrev cX5_load : ByteArray := prog_7_method_49_code
def yX5_load : MethodName := ⟨RX5, "load", "()I"⟩
abbrev cX5_keep : ByteArray := prog_7_method_50_code
def yX5_keep : MethodName := ⟨RX5, "keep", "(I)I"⟩
abbrev cX5_goBack : ByteArray := prog_7_method_51_code
def yX5_goBack : MethodName := ⟨RX5, "goBack", "(I)I"⟩
abbrev cX5_undo : ByteArray := prog_7_method_52_code
def yX5_undo : MethodName := ⟨RX5, "undo", "()I"⟩
abbrev cX5_ofPiece : ByteArray := prog_7_method_53_code
def yX5_ofPiece : MethodName := ⟨RX5, "ofPiece", "(II)I"⟩
abbrev cX5_pieceOf : ByteArray := prog_7_method_54_code
def yX5_pieceOf : MethodName := ⟨RX5, "pieceOf", "(II)I"⟩
abbrev cX5_isHole : ByteArray := prog_7_method_55_code
def yX5_isHole : MethodName := ⟨RX5, "isHole", "(II)I"⟩
abbrev cX5_at : ByteArray := prog_7_method_56_code
def yX5_at : MethodName := ⟨RX5, "at", "(I)I"⟩
abbrev cX5_cost : ByteArray := prog_7_method_57_code
def yX5_cost : MethodName := ⟨RX5, "cost", "(II)I"⟩
abbrev cX5_ofHole : ByteArray := prog_7_method_58_code
def yX5_ofHole : MethodName := ⟨RX5, "ofHole", "(II)I"⟩
abbrev cX5_holeOf : ByteArray := prog_7_method_59_code
def yX5_holeOf : MethodName := ⟨RX5, "holeOf", "(II)I"⟩
abbrev cX5_sumOf : ByteArray := prog_7_method_60_code
def yX5_sumOf : MethodName := ⟨RX5, "sumOf", "(I)I"⟩
abbrev cX5_counted : ByteArray := prog_7_method_61_code
def yX5_counted : MethodName := ⟨RX5, "counted", "(I)I"⟩
abbrev cX5_count : ByteArray := prog_7_method_62_code
def yX5_count : MethodName := ⟨RX5, "count", "(I)I"⟩
abbrev cX5_setting : ByteArray := prog_7_method_63_code
def yX5_setting : MethodName := ⟨RX5, "setting", "(I)I"⟩
abbrev cX5_bestBut : ByteArray := prog_7_method_64_code
def yX5_bestBut : MethodName := ⟨RX5, "bestBut", "(II)I"⟩
abbrev cX5_bestBehind : ByteArray := prog_7_method_65_code
def yX5_bestBehind : MethodName := ⟨RX5, "bestBehind", "(I)I"⟩
abbrev cX5_sureOf : ByteArray := prog_7_method_66_code
def yX5_sureOf : MethodName := ⟨RX5, "sureOf", "(I)I"⟩
abbrev cX5_sureness : ByteArray := prog_7_method_67_code
def yX5_sureness : MethodName := ⟨RX5, "sureness", "(I)I"⟩
abbrev cX5_placeFor : ByteArray := prog_7_method_68_code
def yX5_placeFor : MethodName := ⟨RX5, "placeFor", "(I)I"⟩
abbrev cX5_bestPlace : ByteArray := prog_7_method_69_code
def yX5_bestPlace : MethodName := ⟨RX5, "bestPlace", "(I)I"⟩
abbrev cX5_wrongIfSorted : ByteArray := prog_7_method_70_code
def yX5_wrongIfSorted : MethodName := ⟨RX5, "wrongIfSorted", "()I"⟩
abbrev cX5_ifOrdered : ByteArray := prog_7_method_71_code
def yX5_ifOrdered : MethodName := ⟨RX5, "ifOrdered", "()I"⟩
abbrev cX5_shrink : ByteArray := prog_7_method_72_code
def yX5_shrink : MethodName := ⟨RX5, "shrink", "()F"⟩
abbrev cX5_meanShrink : ByteArray := prog_7_method_73_code
def yX5_meanShrink : MethodName := ⟨RX5, "meanShrink", "()F"⟩
abbrev cX5_dear : ByteArray := prog_7_method_74_code
def yX5_dear : MethodName := ⟨RX5, "dear", "()D"⟩
abbrev cX5_meanCost : ByteArray := prog_7_method_75_code
def yX5_meanCost : MethodName := ⟨RX5, "meanCost", "()D"⟩
abbrev cX5_bitsOf : ByteArray := prog_7_method_76_code
def yX5_bitsOf : MethodName := ⟨RX5, "bitsOf", "(F)I"⟩
abbrev cX5_longBitsOf : ByteArray := prog_7_method_77_code
def yX5_longBitsOf : MethodName := ⟨RX5, "longBitsOf", "(D)J"⟩
abbrev cX5_digestOne : ByteArray := prog_7_method_78_code
def yX5_digestOne : MethodName := ⟨RX5, "digestOne", "(J)V"⟩
abbrev cX5_digestPieces : ByteArray := prog_7_method_79_code
def yX5_digestPieces : MethodName := ⟨RX5, "digestPieces", "()V"⟩
abbrev cX5_digest : ByteArray := prog_7_method_80_code
def yX5_digest : MethodName := ⟨RX5, "digest", "()J"⟩
def RJ9 : String := "java/lang/Math"
def TJ9 : u_T := fun k => match k with
  | _ => ("", "", "", false)
def tyJ9 : Nat → FieldType := fun k => match k with
  | _ => .int
abbrev wsJ90 : List Cond := u_ws RJ9 TJ9 0
theorem nmJ9 : ∀ a, a < 0 → ∀ b, b < 0 → a ≠ b → (TJ9 a).2.1 ≠ (TJ9 b).2.1 := by decide +kernel
theorem tyJ9_ok : ∀ k, k < 0 → parseFieldDescriptor (TJ9 k).2.2.1 = some (tyJ9 k) := by decide +kernel
abbrev cJ9_abs_0f7a4 : ByteArray := prog_12_method_59_code
def yJ9_abs_0f7a4 : MethodName := ⟨RJ9, "abs", "(I)I"⟩
abbrev cJ9_min_7cf53 : ByteArray := prog_12_method_69_code
def yJ9_min_7cf53 : MethodName := ⟨RJ9, "min", "(II)I"⟩
def RJ0 : String := "java/lang/String"
def TJ0 : u_T := fun k => match k with
  | _ => ("", "", "", false)
def tyJ0 : Nat → FieldType := fun k => match k with
  | _ => .int
abbrev wsJ00 : List Cond := u_ws RJ0 TJ0 0
theorem nmJ0 : ∀ a, a < 0 → ∀ b, b < 0 → a ≠ b → (TJ0 a).2.1 ≠ (TJ0 b).2.1 := by decide +kernel
theorem tyJ0_ok : ∀ k, k < 0 → parseFieldDescriptor (TJ0 k).2.2.1 = some (tyJ0 k) := by decide +kernel
def RJ10 : String := "java/lang/System"
def TJ10 : u_T := fun k => match k with
  | _ => ("", "", "", false)
def tyJ10 : Nat → FieldType := fun k => match k with
  | _ => .int
abbrev wsJ100 : List Cond := u_ws RJ10 TJ10 0
theorem nmJ10 : ∀ a, a < 0 → ∀ b, b < 0 → a ≠ b → (TJ10 a).2.1 ≠ (TJ10 b).2.1 := by decide +kernel
theorem tyJ10_ok : ∀ k, k < 0 → parseFieldDescriptor (TJ10 k).2.2.1 = some (tyJ10 k) := by decide +kernel
def RL : String := "ScrollPiecesLaw"
abbrev cL_add : ByteArray := method_3_code
def yL_add : MethodName := ⟨RL, "add", "(LScrollPieces;I[J)I"⟩
abbrev cL_tear : ByteArray := method_4_code
def yL_tear : MethodName := ⟨RL, "tear", "(LScrollPieces;IIII[J)I"⟩
abbrev cL_fibre : ByteArray := method_5_code
def yL_fibre : MethodName := ⟨RL, "fibre", "(LScrollPieces;III[J)I"⟩
abbrev cL_hole : ByteArray := method_6_code
def yL_hole : MethodName := ⟨RL, "hole", "(LScrollPieces;II[J)I"⟩
abbrev cL_remove : ByteArray := method_7_code
def yL_remove : MethodName := ⟨RL, "remove", "(LScrollPieces;I[J)I"⟩
abbrev cL_move : ByteArray := method_8_code
def yL_move : MethodName := ⟨RL, "move", "(LScrollPieces;II[J)I"⟩
abbrev cL_set : ByteArray := method_9_code
def yL_set : MethodName := ⟨RL, "set", "(LScrollPieces;II[J)I"⟩
abbrev cL_append : ByteArray := method_10_code
def yL_append : MethodName := ⟨RL, "append", "(LScrollPieces;I[J)I"⟩
abbrev cL_load : ByteArray := method_11_code
def yL_load : MethodName := ⟨RL, "load", "(LScrollPieces;[J)I"⟩
abbrev cL_keep : ByteArray := method_12_code
def yL_keep : MethodName := ⟨RL, "keep", "(LScrollPieces;I[J)I"⟩
abbrev cL_goBack : ByteArray := method_13_code
def yL_goBack : MethodName := ⟨RL, "goBack", "(LScrollPieces;I[J)I"⟩
abbrev cL_undo : ByteArray := method_14_code
def yL_undo : MethodName := ⟨RL, "undo", "(LScrollPieces;[J)I"⟩
abbrev cL_pieceOf : ByteArray := method_15_code
def yL_pieceOf : MethodName := ⟨RL, "pieceOf", "(LScrollPieces;II[J)I"⟩
abbrev cL_isHole : ByteArray := method_16_code
def yL_isHole : MethodName := ⟨RL, "isHole", "(LScrollPieces;II[J)I"⟩
abbrev cL_at : ByteArray := method_17_code
def yL_at : MethodName := ⟨RL, "at", "(LScrollPieces;I[J)I"⟩
abbrev cL_cost : ByteArray := method_18_code
def yL_cost : MethodName := ⟨RL, "cost", "(LScrollPieces;II[J)I"⟩
abbrev cL_holeOf : ByteArray := method_19_code
def yL_holeOf : MethodName := ⟨RL, "holeOf", "(LScrollPieces;II[J)I"⟩
abbrev cL_count : ByteArray := method_20_code
def yL_count : MethodName := ⟨RL, "count", "(LScrollPieces;I[J)I"⟩
abbrev cL_setting : ByteArray := method_21_code
def yL_setting : MethodName := ⟨RL, "setting", "(LScrollPieces;I[J)I"⟩
abbrev cL_bestBehind : ByteArray := method_22_code
def yL_bestBehind : MethodName := ⟨RL, "bestBehind", "(LScrollPieces;I[J)I"⟩
abbrev cL_sureness : ByteArray := method_23_code
def yL_sureness : MethodName := ⟨RL, "sureness", "(LScrollPieces;I[J)I"⟩
abbrev cL_bestPlace : ByteArray := method_24_code
def yL_bestPlace : MethodName := ⟨RL, "bestPlace", "(LScrollPieces;I[J)I"⟩
abbrev cL_law : ByteArray := code
def yL_law : MethodName := ⟨RL, "law", "([I)Z"⟩
abbrev vwCl : List vw_C := [(RX0, TX0, 3), (RX1, TX1, 5), (RX2, TX2, 9), (RX3, TX3, 8), (RX4, TX4, 12), (RX5, TX5, 17)]
end
section
/-! ===== an abstract machine: cells by their index, ints as functions; what a method does there, it does in the Java machine (part 'snd') ===== -/
abbrev hx_SE : Type := (Nat × List Value) ⊕ (FieldType × Nat × List (Option Nat))
abbrev hx_HS : Type := List hx_SE × (Nat → Nat → Int32) × (Nat → Nat → Int64)
abbrev hx_FS : Type := Nat × List (Option Value) × List Value × hx_HS × Nat
abbrev hx_CE : Type := Instr × Nat × Nat × Value × List Nat
abbrev hx_RS : Type := Option Value ⊕ Nat
abbrev hx_Act : Type := hx_FS ⊕ ((Nat × List Value × hx_FS) ⊕ (hx_RS × hx_HS × Nat))
def hx_nth {α : Type} : List α → Nat → Option α
  | [], _ => none
  | a :: _, 0 => some a
  | _ :: l, n + 1 => hx_nth l n
def hx_look {α : Type} : List (Nat × α) → Nat → Option α
  | [], _ => none
  | q :: l, n => if q.1 = n then some q.2 else hx_look l n
def hx_up {α : Type} (d : Nat → Nat → α) (k i : Nat) (x : α) : Nat → Nat → α := fun a j => if a = k then (if j = i then x else d a j) else d a j
def hx_row {α : Type} (d : Nat → Nat → α) (k : Nat) (f : Nat → α) : Nat → Nat → α := fun a => if a = k then f else d a
def hx_inb (i : Int32) (n : Nat) : Bool := decide (¬ (i < 0 ∨ n ≤ i.toNatClampNeg))
def hx_c2 : Value → Bool
  | .long _ => true
  | .double _ => true
  | _ => false
/-- locals -/
def hx_kill (ls : List (Option Value)) (i : Nat) : List (Option Value) := match i with
  | 0 => ls
  | j + 1 => match hx_nth ls j with
    | some (some v) => if hx_c2 v then ls.set j none else ls
    | _ => ls
/-- what isn't used any more is forgotten (behind a goto) -/
def hx_drop : List Nat → List (Option Value) → List (Option Value)
  | [], ls => ls
  | i :: t, ls => hx_drop t (ls.set i none)
def hx_st1 (ls : List (Option Value)) (i : Nat) (v : Option Value) : List (Option Value) := (hx_kill ls i).set i v
def hx_st2 (ls : List (Option Value)) (i : Nat) (v : Value) : List (Option Value) := ((hx_kill ls i).set i (some v)).set (i + 1) none
def hx_args : List Value → List (Option Value)
  | [] => []
  | v :: l => if hx_c2 v then some v :: none :: hx_args l else some v :: hx_args l
def hx_entry (args : List Value) (n : Nat) : List (Option Value) := hx_args args ++ List.replicate (n - (hx_args args).length) none
def hx_wv (n : Nat) : Value → Bool
  | .ref a => decide (a < n)
  | _ => true
def hx_wvs (n : Nat) (st : List Value) : Bool := st.all (hx_wv n)
def hx_wls (n : Nat) (ls : List (Option Value)) : Bool := ls.all fun o => match o with
  | some v => hx_wv n v
  | none => true
def hx_we (n : Nat) : hx_SE → Bool
  | .inl o => o.2.all (hx_wv n)
  | .inr o => o.2.2.all fun r => match r with
    | some a => decide (a < n)
    | none => true
def hx_wsh (S : List hx_SE) : Bool := S.all (hx_we S.length)
def hx_cat (st : List Value) : Nat := (st.map fun v => v.category).sum
/-- a step that goes on -/
def hx_k (pc : Nat) (ls : List (Option Value)) (st : List Value) (H : hx_HS) (u : Nat) : Option hx_Act := some (.inl (pc, ls, st, H, u))
def hx_ild (i n pc : Nat) (ls : List (Option Value)) (st : List Value) (H : hx_HS) (u : Nat) : Option hx_Act := match hx_nth ls i with
  | some (some (.int x)) => hx_k (pc + n) ls (.int x :: st) H u
  | _ => none
def hx_lld (i n pc : Nat) (ls : List (Option Value)) (st : List Value) (H : hx_HS) (u : Nat) : Option hx_Act := match hx_nth ls i with
  | some (some (.long x)) => hx_k (pc + n) ls (.long x :: st) H u
  | _ => none
def hx_fld (i n pc : Nat) (ls : List (Option Value)) (st : List Value) (H : hx_HS) (u : Nat) : Option hx_Act := match hx_nth ls i with
  | some (some (.float x)) => hx_k (pc + n) ls (.float x :: st) H u
  | _ => none
def hx_dld (i n pc : Nat) (ls : List (Option Value)) (st : List Value) (H : hx_HS) (u : Nat) : Option hx_Act := match hx_nth ls i with
  | some (some (.double x)) => hx_k (pc + n) ls (.double x :: st) H u
  | _ => none
def hx_ald (i n pc : Nat) (ls : List (Option Value)) (st : List Value) (H : hx_HS) (u : Nat) : Option hx_Act := match hx_nth ls i with
  | some (some (.ref x)) => hx_k (pc + n) ls (.ref x :: st) H u
  | some (some (.retAddr x)) => hx_k (pc + n) ls (.retAddr x :: st) H u
  | _ => none
def hx_ist (tg : List Nat) (i n pc : Nat) (ls : List (Option Value)) (st : List Value) (H : hx_HS) (u : Nat) : Option hx_Act := match st with
  | .int x :: r => if i < ls.length then hx_k (pc + n) (hx_drop tg (hx_st1 ls i (some (.int x)))) r H u else none
  | _ => none
def hx_fst (tg : List Nat) (i n pc : Nat) (ls : List (Option Value)) (st : List Value) (H : hx_HS) (u : Nat) : Option hx_Act := match st with
  | .float x :: r => if i < ls.length then hx_k (pc + n) (hx_drop tg (hx_st1 ls i (some (.float x)))) r H u else none
  | _ => none
def hx_ast (tg : List Nat) (i n pc : Nat) (ls : List (Option Value)) (st : List Value) (H : hx_HS) (u : Nat) : Option hx_Act := match st with
  | .ref x :: r => if i < ls.length then hx_k (pc + n) (hx_drop tg (hx_st1 ls i (some (.ref x)))) r H u else none
  | _ => none
def hx_lst (tg : List Nat) (i n pc : Nat) (ls : List (Option Value)) (st : List Value) (H : hx_HS) (u : Nat) : Option hx_Act := match st with
  | .long x :: r => if i + 1 < ls.length then hx_k (pc + n) (hx_drop tg (hx_st2 ls i (.long x))) r H u else none
  | _ => none
def hx_dst (tg : List Nat) (i n pc : Nat) (ls : List (Option Value)) (st : List Value) (H : hx_HS) (u : Nat) : Option hx_Act := match st with
  | .double x :: r => if i + 1 < ls.length then hx_k (pc + n) (hx_drop tg (hx_st2 ls i (.double x))) r H u else none
  | _ => none
def hx_ii (f : Int32 → Int32 → Int32) (pc : Nat) (ls : List (Option Value)) (st : List Value) (H : hx_HS) (u : Nat) : Option hx_Act := match st with
  | .int y :: .int x :: r => hx_k (pc + 1) ls (.int (f x y) :: r) H u
  | _ => none
def hx_id (f : Int32 → Int32 → Int32) (pc : Nat) (ls : List (Option Value)) (st : List Value) (H : hx_HS) (u : Nat) : Option hx_Act := match st with
  | .int y :: .int x :: r => if y = 0 then none else hx_k (pc + 1) ls (.int (f x y) :: r) H u
  | _ => none
def hx_i1 (f : Int32 → Value) (pc : Nat) (ls : List (Option Value)) (st : List Value) (H : hx_HS) (u : Nat) : Option hx_Act := match st with
  | .int x :: r => hx_k (pc + 1) ls (f x :: r) H u
  | _ => none
def hx_ll (f : Int64 → Int64 → Value) (pc : Nat) (ls : List (Option Value)) (st : List Value) (H : hx_HS) (u : Nat) : Option hx_Act := match st with
  | .long y :: .long x :: r => hx_k (pc + 1) ls (f x y :: r) H u
  | _ => none
def hx_li (f : Int64 → Int32 → Int64) (pc : Nat) (ls : List (Option Value)) (st : List Value) (H : hx_HS) (u : Nat) : Option hx_Act := match st with
  | .int y :: .long x :: r => hx_k (pc + 1) ls (.long (f x y) :: r) H u
  | _ => none
def hx_ff (f : UInt32 → UInt32 → UInt32) (pc : Nat) (ls : List (Option Value)) (st : List Value) (H : hx_HS) (u : Nat) : Option hx_Act := match st with
  | .float y :: .float x :: r => if f x y &&& 0x7fffffff ≤ 0x7f800000 then hx_k (pc + 1) ls (.float (f x y) :: r) H u else none
  | _ => none
def hx_dd (f : UInt64 → UInt64 → UInt64) (pc : Nat) (ls : List (Option Value)) (st : List Value) (H : hx_HS) (u : Nat) : Option hx_Act := match st with
  | .double y :: .double x :: r => if f x y &&& 0x7fffffffffffffff ≤ 0x7ff0000000000000 then hx_k (pc + 1) ls (.double (f x y) :: r) H u else none
  | _ => none
def hx_fcmp (op : CmpOp) (pc : Nat) (ls : List (Option Value)) (st : List Value) (H : hx_HS) (u : Nat) : Option hx_Act := match st with
  | .float y :: .float x :: r => hx_k (pc + 1) ls (.int (Op.cmpValue (FP.fcmp x y) op) :: r) H u
  | _ => none
def hx_dcmp (op : CmpOp) (pc : Nat) (ls : List (Option Value)) (st : List Value) (H : hx_HS) (u : Nat) : Option hx_Act := match st with
  | .double y :: .double x :: r => hx_k (pc + 1) ls (.int (Op.cmpValue (FP.dcmp x y) op) :: r) H u
  | _ => none
def hx_fu (f : UInt32 → Value) (pc : Nat) (ls : List (Option Value)) (st : List Value) (H : hx_HS) (u : Nat) : Option hx_Act := match st with
  | .float x :: r => hx_k (pc + 1) ls (f x :: r) H u
  | _ => none
def hx_f2d (pc : Nat) (ls : List (Option Value)) (st : List Value) (H : hx_HS) (u : Nat) : Option hx_Act := match st with
  | .float x :: r => if FP.f2d x &&& 0x7fffffffffffffff ≤ 0x7ff0000000000000 then hx_k (pc + 1) ls (.double (FP.f2d x) :: r) H u else none
  | _ => none
def hx_d2l (pc : Nat) (ls : List (Option Value)) (st : List Value) (H : hx_HS) (u : Nat) : Option hx_Act := match st with
  | .double x :: r => hx_k (pc + 1) ls (.long (FP.d2l x) :: r) H u
  | _ => none
def hx_br (c : Prop) [Decidable c] (t pc : Nat) (ls : List (Option Value)) (st : List Value) (H : hx_HS) (u : Nat) : Option hx_Act := if c then hx_k t ls st H u else hx_k (pc + 3) ls st H u
def hx_if (cond : Jvm.ClassFile.Cond) (t pc : Nat) (ls : List (Option Value)) (st : List Value) (H : hx_HS) (u : Nat) : Option hx_Act := match st with
  | .int x :: r => match cond with
    | .eq => hx_br (x = 0) t pc ls r H u
    | .ne => hx_br (¬ x = 0) t pc ls r H u
    | .lt => hx_br (x < 0) t pc ls r H u
    | .ge => hx_br (0 ≤ x) t pc ls r H u
    | .gt => hx_br (0 < x) t pc ls r H u
    | .le => hx_br (x ≤ 0) t pc ls r H u
  | _ => none
def hx_icmp (cond : Jvm.ClassFile.Cond) (t pc : Nat) (ls : List (Option Value)) (st : List Value) (H : hx_HS) (u : Nat) : Option hx_Act := match st with
  | .int y :: .int x :: r => match cond with
    | .eq => hx_br (x = y) t pc ls r H u
    | .ne => hx_br (¬ x = y) t pc ls r H u
    | .lt => hx_br (x < y) t pc ls r H u
    | .ge => hx_br (y ≤ x) t pc ls r H u
    | .gt => hx_br (y < x) t pc ls r H u
    | .le => hx_br (x ≤ y) t pc ls r H u
  | _ => none
def hx_sw (lo hi : Int) (t : Nat) (tg : List Nat) (ls : List (Option Value)) (st : List Value) (H : hx_HS) (u : Nat) : Option hx_Act := match st with
  | .int x :: r => if x.toInt < lo ∨ hi < x.toInt then hx_k t ls r H u else match hx_nth tg (x.toInt - lo).toNat with
    | some t2 => hx_k t2 ls r H u
    | none => none
  | _ => none
def hx_inc (tg : List Nat) (i : Nat) (c : Int) (pc : Nat) (ls : List (Option Value)) (st : List Value) (H : hx_HS) (u : Nat) : Option hx_Act := match hx_nth ls i with
  | some (some (.int x)) => hx_k (pc + 3) (hx_drop tg (hx_st1 ls i (some (.int (x + Int32.ofInt c))))) st H u
  | _ => none
def hx_fv (w : Value) (x : Int32) (y : Int64) : Value := match w with
  | .int _ => .int x
  | .long _ => .long y
  | w => w
/-- getfield of field j of class ci -/
def hx_get (ci j pc : Nat) (ls : List (Option Value)) (st : List Value) (H : hx_HS) (u : Nat) : Option hx_Act := match st with
  | .ref a :: r => match hx_nth H.1 a with
    | some (.inl (c, ks)) => if c = ci then match hx_nth ks j with
        | some w => hx_k (pc + 3) ls (hx_fv w (H.2.1 a j) (H.2.2 a j) :: r) H u
        | none => none
      else none
    | _ => none
  | _ => none
/-- what fits a field: an int anything, a boolean 0 and 1 -/
def hx_fit (ty : FieldType) (x : Int32) : Bool := match ty with
  | .int => true
  | .boolean => decide (x = 0) || decide (x = 1)
  | _ => false
def hx_rty (ty : FieldType) : Bool := match ty with
  | .object _ => true
  | .array _ => true
  | _ => false
def hx_put (ty : FieldType) (ci j pc : Nat) (ls : List (Option Value)) (st : List Value) (H : hx_HS) (u : Nat) : Option hx_Act := match st with
  | v :: .ref a :: r => match hx_nth H.1 a with
    | some (.inl (c, ks)) => if c = ci then match hx_nth ks j, v with
        | some (.int _), .int x => if hx_fit ty x then hx_k (pc + 3) ls r (H.1, hx_up H.2.1 a j x, H.2.2) u else none
        | some (.long _), .long x => if ty = .long then hx_k (pc + 3) ls r (H.1, H.2.1, hx_up H.2.2 a j x) u else none
        | some .null, .ref q => if hx_rty ty then hx_k (pc + 3) ls r (H.1.set a (.inl (c, ks.set j (.ref q))), H.2) u else none
        | _, _ => none
      else none
    | _ => none
  | _ => none
/-- an array's load; .retAddr is the script -/
def hx_arl (ty : FieldType) (sc : Nat × (Nat → Int32)) (pc : Nat) (ls : List (Option Value)) (st : List Value) (H : hx_HS) (u : Nat) : Option hx_Act := match st with
  | .int i :: .ref a :: r => match hx_nth H.1 a with
    | some (.inr (t, n, cs)) => if t = ty ∧ hx_inb i n = true then (match ty with
        | .int => hx_k (pc + 1) ls (.int (H.2.1 a i.toNatClampNeg) :: r) H u
        | .boolean => hx_k (pc + 1) ls (.int (H.2.1 a i.toNatClampNeg) :: r) H u
        | .char => hx_k (pc + 1) ls (.int (H.2.1 a i.toNatClampNeg) :: r) H u
        | .long => hx_k (pc + 1) ls (.long (H.2.2 a i.toNatClampNeg) :: r) H u
        | .object _ => match hx_nth cs i.toNatClampNeg with
          | some (some q) => hx_k (pc + 1) ls (.ref q :: r) H u
          | _ => none
        | _ => none) else none
    | _ => none
  | .int i :: .retAddr _ :: r => if ty = .int ∧ hx_inb i sc.1 = true then hx_k (pc + 1) ls (.int (sc.2 i.toNatClampNeg) :: r) H u else none
  | _ => none
def hx_ars (ty : FieldType) (pc : Nat) (ls : List (Option Value)) (st : List Value) (H : hx_HS) (u : Nat) : Option hx_Act := match st with
  | .int x :: .int i :: .ref a :: r => match hx_nth H.1 a with
    | some (.inr (t, n, _)) => if t = ty ∧ hx_inb i n = true then (match ty with
        | .int => hx_k (pc + 1) ls r (H.1, hx_up H.2.1 a i.toNatClampNeg x, H.2.2) u
        | .boolean => hx_k (pc + 1) ls r (H.1, hx_up H.2.1 a i.toNatClampNeg (vp_nar .boolean x), H.2.2) u
        | .char => hx_k (pc + 1) ls r (H.1, hx_up H.2.1 a i.toNatClampNeg (vp_nar .char x), H.2.2) u
        | _ => none) else none
    | _ => none
  | .long x :: .int i :: .ref a :: r => match hx_nth H.1 a with
    | some (.inr (t, n, _)) => if ty = .long ∧ t = .long ∧ hx_inb i n = true then hx_k (pc + 1) ls r (H.1, H.2.1, hx_up H.2.2 a i.toNatClampNeg x) u else none
    | _ => none
  | .ref q :: .int i :: .ref a :: r => match hx_nth H.1 a, hx_nth H.1 q with
    | some (.inr (t, n, cs)), some (.inl (ci, _)) => if hx_inb i n = true ∧ cs.length = n ∧ ty = .object "" ∧ (match hx_nth vwCl ci with
        | some cl => decide (t = .object cl.1)
        | none => false) = true then hx_k (pc + 1) ls r (H.1.set a (.inr (t, n, cs.set i.toNatClampNeg (some q))), H.2) u else none
    | _, _ => none
  | _ => none
def hx_len (sc : Nat × (Nat → Int32)) (pc : Nat) (ls : List (Option Value)) (st : List Value) (H : hx_HS) (u : Nat) : Option hx_Act := match st with
  | .retAddr _ :: r => hx_k (pc + 1) ls (.int (Int32.ofNat sc.1) :: r) H u
  | _ => none
def hx_dup (pc : Nat) (ls : List (Option Value)) (st : List Value) (H : hx_HS) (u : Nat) : Option hx_Act := match st with
  | v :: r => if hx_c2 v then none else hx_k (pc + 1) ls (v :: v :: r) H u
  | _ => none
def hx_dup2 (pc : Nat) (ls : List (Option Value)) (st : List Value) (H : hx_HS) (u : Nat) : Option hx_Act := match st with
  | v :: w :: r => if hx_c2 v || hx_c2 w then none else hx_k (pc + 1) ls (v :: w :: v :: w :: r) H u
  | _ => none
def hx_pop (pc : Nat) (ls : List (Option Value)) (st : List Value) (H : hx_HS) (u : Nat) : Option hx_Act := match st with
  | v :: r => if hx_c2 v then none else hx_k (pc + 1) ls r H u
  | _ => none
/-- a new object of class ci (its fields' kinds: ks); all must be well formed; a unit is paid -/
def hx_wf (ls : List (Option Value)) (st : List Value) (S : List hx_SE) : Bool := hx_wls S.length ls && hx_wvs S.length st && hx_wsh S
def hx_kinds (ci : Nat) : List Value := match ci with
  | 0 => [.null, .null, .null]
  | 1 => [.null, .null, .int 0, .int 0, .int 0]
  | 2 => [.int 0, .int 0, .null, .int 0, .null, .int 0, .int 0, .int 0, .int 0]
  | 3 => [.int 0, .int 0, .null, .null, .null, .null, .null, .null]
  | 4 => [.null, .null, .int 0, .int 0, .null, .null, .null, .int 0, .null, .null, .null, .null]
  | _ => [.int 0, .null, .null, .null, .int 0, .null, .int 0, .null, .int 0, .null, .int 0, .null, .null, .int 0, .int 0, .null, .long 0]
def hx_newo (ci bu pc : Nat) (ls : List (Option Value)) (st : List Value) (H : hx_HS) (u : Nat) : Option hx_Act :=
  if hx_wf ls st H.1 = true ∧ u + 1 ≤ bu then hx_k (pc + 3) ls (.ref H.1.length :: st) (H.1 ++ [.inl (ci, hx_kinds ci)], hx_row H.2.1 H.1.length (fun _ => 0), hx_row H.2.2 H.1.length (fun _ => 0)) (u + 1) else none
def hx_newa (ty : FieldType) (bu pc : Nat) (ls : List (Option Value)) (st : List Value) (H : hx_HS) (u : Nat) : Option hx_Act := match st with
  | .int n :: r => if hx_wf ls r H.1 = true ∧ u + 1 ≤ bu ∧ ¬ n < 0 ∧ n.toNatClampNeg ≤ 1000 then hx_k (pc + 2) ls (.ref H.1.length :: r) (H.1 ++ [.inr (ty, n.toNatClampNeg, [])], hx_row H.2.1 H.1.length (fun _ => 0), hx_row H.2.2 H.1.length (fun _ => 0)) (u + 1) else none
  | _ => none
def hx_newq (C : String) (bu pc : Nat) (ls : List (Option Value)) (st : List Value) (H : hx_HS) (u : Nat) : Option hx_Act := match st with
  | .int n :: r => if hx_wf ls r H.1 = true ∧ u + 1 ≤ bu ∧ ¬ n < 0 ∧ n.toNatClampNeg ≤ 1000 then hx_k (pc + 3) ls (.ref H.1.length :: r) (H.1 ++ [.inr (.object C, n.toNatClampNeg, List.replicate n.toNatClampNeg none)], hx_row H.2.1 H.1.length (fun _ => 0), hx_row H.2.2 H.1.length (fun _ => 0)) (u + 1) else none
  | _ => none
/-- System.arraycopy of ints -/
def hx_copy (pc : Nat) (ls : List (Option Value)) (st : List Value) (H : hx_HS) (u : Nat) : Option hx_Act := match st with
  | .int n :: .int dp :: .ref b :: .int sp :: .ref a :: r => match hx_nth H.1 a, hx_nth H.1 b with
    | some (.inr (t1, n1, _)), some (.inr (t2, n2, _)) => if t1 = .int ∧ t2 = .int ∧ ¬ sp < 0 ∧ ¬ dp < 0 ∧ ¬ n < 0 ∧ sp.toNatClampNeg + n.toNatClampNeg ≤ n1 ∧ dp.toNatClampNeg + n.toNatClampNeg ≤ n2 ∧ hx_cat r ≤ 8 then hx_k (pc + 3) ls r (H.1, hx_row H.2.1 b (va_cpy (H.2.1 a) (H.2.1 b) sp.toNatClampNeg dp.toNatClampNeg n.toNatClampNeg), H.2.2) u else none
    | _, _ => none
  | _ => none
def hx_abs (bu pc : Nat) (ls : List (Option Value)) (st : List Value) (H : hx_HS) (u : Nat) : Option hx_Act := match st with
  | .int x :: r => if hx_cat r ≤ 8 ∧ u ≤ bu then hx_k (pc + 3) ls (.int (if 0 ≤ x then x else 0 - x) :: r) H u else none
  | _ => none
def hx_min (bu pc : Nat) (ls : List (Option Value)) (st : List Value) (H : hx_HS) (u : Nat) : Option hx_Act := match st with
  | .int y :: .int x :: r => if hx_cat r ≤ 8 ∧ u ≤ bu then hx_k (pc + 3) ls (.int (if y < x then y else x) :: r) H u else none
  | _ => none
/-- a call: n arguments (this among them), which come off the stack -/
def hx_call (kc n : Nat) (pc : Nat) (ls : List (Option Value)) (st : List Value) (H : hx_HS) (u : Nat) : Option hx_Act :=
  if n ≤ st.length ∧ hx_cat (st.drop n) ≤ 8 ∧ hx_wls H.1.length ls = true ∧ hx_wvs H.1.length (st.drop n) = true then some (.inr (.inl (kc, (st.take n).reverse, (pc, ls, st.drop n, H, u)))) else none
def hx_ret (st : List Value) (H : hx_HS) (u : Nat) : Option hx_Act := match st with
  | [v] => some (.inr (.inr (.inl (some v), H, u)))
  | _ => none
def hx_iret (ty : Option FieldType) (st : List Value) (H : hx_HS) (u : Nat) : Option hx_Act := match st with
  | [.int v] => (match ty with
    | some .int => some (.inr (.inr (.inl (some (.int v)), H, u)))
    | some .boolean => if v = 0 ∨ v = 1 then some (.inr (.inr (.inl (some (.int v)), H, u))) else none
    | _ => none)
  | _ => none
def hx_objI (pc : Nat) (ls : List (Option Value)) (st : List Value) (H : hx_HS) (u : Nat) : Option hx_Act := match st with
  | .ref a :: r => if a < H.1.length ∧ hx_cat r ≤ 8 then hx_k (pc + 3) ls r H u else none
  | _ => none
def hx_callV (kc n ci : Nat) (pc : Nat) (ls : List (Option Value)) (st : List Value) (H : hx_HS) (u : Nat) : Option hx_Act := match hx_nth st (n - 1) with
  | some (.ref a) => match hx_nth H.1 a with
    | some (.inl (c, _)) => if c = ci ∧ 0 < n then hx_call kc n pc ls st H u else none
    | _ => none
  | _ => none
/-- new E(text), thrown: new, dup, ldc, invokespecial, athrow -/
def hx_thr (E bu : Nat) (st : List Value) (H : hx_HS) (u : Nat) : Option hx_Act := if u + 1 ≤ bu ∧ hx_cat st ≤ 8 then some (.inr (.inr (.inr E, H, u + 1))) else none
/-- the type of field j of class ci -/
def hx_fty (ci j : Nat) : FieldType := match ci with
  | 0 => tyX0 j
  | 1 => tyX1 j
  | 2 => tyX2 j
  | 3 => tyX3 j
  | 4 => tyX4 j
  | _ => tyX5 j
def hx_step (sc : Nat × (Nat → Int32)) (bu : Nat) (rt : Option FieldType) (ce : hx_CE) (pc : Nat) (ls : List (Option Value)) (st : List Value) (H : hx_HS) (u : Nat) : Option hx_Act := match ce with
  | (ins, a, b, v, tg) => match ins with
    | .iload i => hx_ild i 2 pc ls st H u
    | .iload_n i => hx_ild i.val 1 pc ls st H u
    | .lload i => hx_lld i 2 pc ls st H u
    | .lload_n i => hx_lld i.val 1 pc ls st H u
    | .fload i => hx_fld i 2 pc ls st H u
    | .fload_n i => hx_fld i.val 1 pc ls st H u
    | .dload i => hx_dld i 2 pc ls st H u
    | .dload_n i => hx_dld i.val 1 pc ls st H u
    | .aload i => hx_ald i 2 pc ls st H u
    | .aload_n i => hx_ald i.val 1 pc ls st H u
    | .istore i => hx_ist tg i 2 pc ls st H u
    | .istore_n i => hx_ist tg i.val 1 pc ls st H u
    | .lstore i => hx_lst tg i 2 pc ls st H u
    | .lstore_n i => hx_lst tg i.val 1 pc ls st H u
    | .fstore i => hx_fst tg i 2 pc ls st H u
    | .fstore_n i => hx_fst tg i.val 1 pc ls st H u
    | .dstore i => hx_dst tg i 2 pc ls st H u
    | .dstore_n i => hx_dst tg i.val 1 pc ls st H u
    | .astore i => hx_ast tg i 2 pc ls st H u
    | .astore_n i => hx_ast tg i.val 1 pc ls st H u
    | .iconst _ => hx_k (pc + 1) ls (v :: st) H u
    | .bipush _ => hx_k (pc + 2) ls (v :: st) H u
    | .sipush _ => hx_k (pc + 3) ls (v :: st) H u
    | .lconst _ => hx_k (pc + 1) ls (v :: st) H u
    | .fconst _ => hx_k (pc + 1) ls (v :: st) H u
    | .dconst _ => hx_k (pc + 1) ls (v :: st) H u
    | .ldc _ => hx_k (pc + 2) ls (v :: st) H u
    | .ldc_w _ => hx_k (pc + 3) ls (v :: st) H u
    | .ldc2_w _ => hx_k (pc + 3) ls (v :: st) H u
    | .iadd => hx_ii (fun x y => x + y) pc ls st H u
    | .isub => hx_ii (fun x y => x - y) pc ls st H u
    | .imul => hx_ii (fun x y => x * y) pc ls st H u
    | .iand => hx_ii (fun x y => x &&& y) pc ls st H u
    | .ior => hx_ii (fun x y => x ||| y) pc ls st H u
    | .ixor => hx_ii (fun x y => x ^^^ y) pc ls st H u
    | .ishl => hx_ii (fun x y => x <<< (y &&& 31)) pc ls st H u
    | .ishr => hx_ii (fun x y => x >>> (y &&& 31)) pc ls st H u
    | .idiv => hx_id (fun x y => x / y) pc ls st H u
    | .irem => hx_id (fun x y => x - x / y * y) pc ls st H u
    | .ineg => hx_i1 (fun x => .int (-x)) pc ls st H u
    | .i2l => hx_i1 (fun x => .long x.toInt64) pc ls st H u
    | .i2c => hx_i1 (fun x => .int (x.toUInt32 % 65536).toInt32) pc ls st H u
    | .i2f => hx_i1 (fun x => .float (FP.i2f x)) pc ls st H u
    | .i2d => hx_i1 (fun x => .double (FP.i2d x)) pc ls st H u
    | .ladd => hx_ll (fun x y => .long (x + y)) pc ls st H u
    | .lsub => hx_ll (fun x y => .long (x - y)) pc ls st H u
    | .lmul => hx_ll (fun x y => .long (x * y)) pc ls st H u
    | .lor => hx_ll (fun x y => .long (x ||| y)) pc ls st H u
    | .lshl => hx_li (fun x y => x <<< (y.toInt64 &&& 63)) pc ls st H u
    | .lcmp => hx_ll (fun x y => .int (lg_cmp x y)) pc ls st H u
    | .fdiv => hx_ff FP.fdiv pc ls st H u
    | .fmul => hx_ff FP.fmul pc ls st H u
    | .fsub => hx_ff FP.fsub pc ls st H u
    | .ddiv => hx_dd FP.ddiv pc ls st H u
    | .dmul => hx_dd FP.dmul pc ls st H u
    | .dsub => hx_dd FP.dsub pc ls st H u
    | .fneg => hx_fu (fun x => .float (FP.fneg x)) pc ls st H u
    | .f2i => hx_fu (fun x => .int (FP.f2i x)) pc ls st H u
    | .f2d => hx_f2d pc ls st H u
    | .d2l => hx_d2l pc ls st H u
    | .fcmp op => hx_fcmp op pc ls st H u
    | .dcmp op => hx_dcmp op pc ls st H u
    | .ifCond c _ => hx_if c a pc ls st H u
    | .if_icmp c _ => hx_icmp c a pc ls st H u
    | .goto _ => hx_k a (hx_drop tg ls) st H u
    | .tableswitch _ lo hi _ => hx_sw lo hi a tg ls st H u
    | .iinc i c => hx_inc tg i c pc ls st H u
    | .getfield _ => hx_get a b pc ls st H u
    | .putfield _ => hx_put (hx_fty a b) a b pc ls st H u
    | .iaload => hx_arl .int sc pc ls st H u
    | .baload => hx_arl .boolean sc pc ls st H u
    | .caload => hx_arl .char sc pc ls st H u
    | .laload => hx_arl .long sc pc ls st H u
    | .aaload => hx_arl (.object RX3) sc pc ls st H u
    | .iastore => hx_ars .int pc ls st H u
    | .bastore => hx_ars .boolean pc ls st H u
    | .castore => hx_ars .char pc ls st H u
    | .lastore => hx_ars .long pc ls st H u
    | .aastore => hx_ars (.object "") pc ls st H u
    | .arraylength => hx_len sc pc ls st H u
    | .dup => hx_dup pc ls st H u
    | .dup2 => hx_dup2 pc ls st H u
    | .pop => hx_pop pc ls st H u
    | .new _ => match tg with
      | [] => hx_newo a bu pc ls st H u
      | _ => hx_thr a bu st H u
    | .newarray ty => hx_newa (newarray.typeOf ty) bu pc ls st H u
    | .anewarray _ => hx_newq RX3 bu pc ls st H u
    | .invokevirtual _ => match tg with
      | [ci] => hx_callV a b ci pc ls st H u
      | _ => none
    | .invokestatic _ => match tg with
      | [] => hx_call a b pc ls st H u
      | [1] => hx_abs bu pc ls st H u
      | [2] => hx_min bu pc ls st H u
      | [3] => hx_copy pc ls st H u
      | _ => none
    | .invokespecial _ => match tg with
      | [ci] => hx_callV a b ci pc ls st H u
      | _ => hx_objI pc ls st H u
    | .ireturn => hx_iret rt st H u
    | .lreturn => match st with
      | [.long _] => if rt = some .long then hx_ret st H u else none
      | _ => none
    | .freturn => match st with
      | [.float _] => if rt = some .float then hx_ret st H u else none
      | _ => none
    | .dreturn => match st with
      | [.double _] => if rt = some .double then hx_ret st H u else none
      | _ => none
    | .areturn => match st with
      | [.ref _] => match rt with
        | some (.object _) => hx_ret st H u
        | _ => none
      | _ => none
    | .return_ => match st with
      | [] => if rt = none then some (.inr (.inr (.inl none, H, u))) else none
      | _ => none
    | _ => none
end
section
-- 0: X0_init ()V
def cd_0 : List (Nat × hx_CE) := [(0, (.aload_n 0), 0, 0, .null, []), (1, (.invokespecial 3), 0, 0, .null, [0, 0]), (4, (.aload_n 0), 0, 0, .null, []), (5, (.bipush 49), 0, 0, .int (49), []), (7, (.newarray .int), 0, 0, .null, []), (9, (.putfield 9), 0, 0, .null, []), (12, (.aload_n 0), 0, 0, .null, []), (13, (.sipush 896), 0, 0, .int (896), []), (16, (.newarray .int), 0, 0, .null, []), (18, (.putfield 15), 0, 1, .null, []), (21, (.aload_n 0), 0, 0, .null, []), (22, (.bipush 7), 0, 0, .int (7), []), (24, (.newarray .int), 0, 0, .null, []), (26, (.putfield 18), 0, 2, .null, []), (29, .return_, 0, 0, .null, [])]
-- 1: X0_leastBySets (LScrollPieces$Scroll;)I
def cd_1 : List (Nat × hx_CE) := [(0, (.aload_n 0), 0, 0, .null, []), (1, (.aload_n 1), 0, 0, .null, []), (2, (.invokevirtual 21), 3, 2, .null, [0]), (5, (.aload_n 1), 0, 0, .null, []), (6, (.aload_n 0), 0, 0, .null, []), (7, (.getfield 18), 0, 2, .null, []), (10, (.invokevirtual 25), 47, 2, .null, [3]), (13, .ireturn, 0, 0, .null, [])]
-- 2: X0_leastByTrying (LScrollPieces$Scroll;)I
def cd_2 : List (Nat × hx_CE) := [(0, (.aload_n 0), 0, 0, .null, []), (1, (.aload_n 1), 0, 0, .null, []), (2, (.invokevirtual 31), 4, 2, .null, [0]), (5, (.aload_n 0), 0, 0, .null, []), (6, (.getfield 9), 0, 0, .null, []), (9, (.aload_n 1), 0, 0, .null, []), (10, (.getfield 34), 3, 0, .null, []), (13, (.iconst (-1)), 0, 0, .int (-1), []), (14, (.iconst 0), 0, 0, .int (0), []), (15, (.iconst 0), 0, 0, .int (0), []), (16, (.iconst 0), 0, 0, .int (0), []), (17, (.sipush 1000), 0, 0, .int (1000), []), (20, (.invokestatic 38), 8, 7, .null, []), (23, .ireturn, 0, 0, .null, [])]
-- 3: X0_findRow (LScrollPieces$Scroll;)V
def cd_3 : List (Nat × hx_CE) := [(0, (.aload_n 0), 0, 0, .null, []), (1, (.aload_n 1), 0, 0, .null, []), (2, (.invokevirtual 31), 4, 2, .null, [0]), (5, (.iconst 1), 0, 0, .int (1), []), (6, (.aload_n 1), 0, 0, .null, []), (7, (.getfield 34), 3, 0, .null, []), (10, .ishl, 0, 0, .null, []), (11, (.iconst 1), 0, 0, .int (1), []), (12, .isub, 0, 0, .null, []), (13, (.istore_n 2), 0, 0, .null, [3, 4, 5]), (14, (.iconst 1), 0, 0, .int (1), []), (15, (.istore_n 3), 0, 0, .null, [4, 5]), (16, (.iload_n 3), 0, 0, .null, []), (17, (.iload_n 2), 0, 0, .null, []), (18, (.if_icmp .gt 18), 36, 0, .null, []), (21, (.aload_n 0), 0, 0, .null, []), (22, (.aload_n 1), 0, 0, .null, []), (23, (.getfield 34), 3, 0, .null, []), (26, (.iload_n 3), 0, 0, .null, []), (27, (.invokevirtual 42), 5, 3, .null, [0]), (30, (.iinc 3 1), 0, 0, .null, [4, 5]), (33, (.goto (-17)), 16, 0, .null, [4, 5]), (36, (.iconst (-1)), 0, 0, .int (-1), []), (37, (.istore_n 3), 0, 0, .null, [4, 5]), (38, (.iload_n 2), 0, 0, .null, []), (39, (.istore 4), 0, 0, .null, [2, 5]), (41, (.iconst 0), 0, 0, .int (0), []), (42, (.istore 5), 0, 0, .null, [2]), (44, (.iload 5), 0, 0, .null, []), (46, (.aload_n 1), 0, 0, .null, []), (47, (.getfield 34), 3, 0, .null, []), (50, (.if_icmp .ge 39), 89, 0, .null, []), (53, (.aload_n 0), 0, 0, .null, []), (54, (.aload_n 1), 0, 0, .null, []), (55, (.getfield 34), 3, 0, .null, []), (58, (.iload_n 3), 0, 0, .null, []), (59, (.iload 4), 0, 0, .null, []), (61, (.invokevirtual 46), 6, 4, .null, [0]), (64, (.istore_n 3), 0, 0, .null, [2]), (65, (.aload_n 0), 0, 0, .null, []), (66, (.getfield 18), 0, 2, .null, []), (69, (.iload 5), 0, 0, .null, []), (71, (.iload_n 3), 0, 0, .null, []), (72, .iastore, 0, 0, .null, []), (73, (.iload 4), 0, 0, .null, []), (75, (.iconst 1), 0, 0, .int (1), []), (76, (.iload_n 3), 0, 0, .null, []), (77, .ishl, 0, 0, .null, []), (78, (.iconst (-1)), 0, 0, .int (-1), []), (79, .ixor, 0, 0, .null, []), (80, .iand, 0, 0, .null, []), (81, (.istore 4), 0, 0, .null, [2]), (83, (.iinc 5 1), 0, 0, .null, [2]), (86, (.goto (-42)), 44, 0, .null, [2]), (89, .return_, 0, 0, .null, [])]
-- 4: X0_fillJoins (LScrollPieces$Scroll;)V
def cd_4 : List (Nat × hx_CE) := [(0, (.iconst 0), 0, 0, .int (0), []), (1, (.istore_n 2), 0, 0, .null, [3]), (2, (.iload_n 2), 0, 0, .null, []), (3, (.aload_n 1), 0, 0, .null, []), (4, (.getfield 34), 3, 0, .null, []), (7, (.if_icmp .ge 42), 49, 0, .null, []), (10, (.iconst 0), 0, 0, .int (0), []), (11, (.istore_n 3), 0, 0, .null, []), (12, (.iload_n 3), 0, 0, .null, []), (13, (.aload_n 1), 0, 0, .null, []), (14, (.getfield 34), 3, 0, .null, []), (17, (.if_icmp .ge 26), 43, 0, .null, []), (20, (.aload_n 0), 0, 0, .null, []), (21, (.getfield 9), 0, 0, .null, []), (24, (.iload_n 2), 0, 0, .null, []), (25, (.bipush 7), 0, 0, .int (7), []), (27, .imul, 0, 0, .null, []), (28, (.iload_n 3), 0, 0, .null, []), (29, .iadd, 0, 0, .null, []), (30, (.aload_n 1), 0, 0, .null, []), (31, (.iload_n 2), 0, 0, .null, []), (32, (.iload_n 3), 0, 0, .null, []), (33, (.invokevirtual 50), 46, 3, .null, [3]), (36, .iastore, 0, 0, .null, []), (37, (.iinc 3 1), 0, 0, .null, []), (40, (.goto (-28)), 12, 0, .null, []), (43, (.iinc 2 1), 0, 0, .null, [3]), (46, (.goto (-44)), 2, 0, .null, [3]), (49, .return_, 0, 0, .null, [])]
-- 5: X0_fillLeast (II)V
def cd_5 : List (Nat × hx_CE) := [(0, (.iconst 0), 0, 0, .int (0), []), (1, (.istore_n 3), 0, 0, .null, [4]), (2, (.iload_n 3), 0, 0, .null, []), (3, (.iload_n 1), 0, 0, .null, []), (4, (.if_icmp .ge 59), 63, 0, .null, []), (7, (.iload_n 2), 0, 0, .null, []), (8, (.iconst 1), 0, 0, .int (1), []), (9, (.iload_n 3), 0, 0, .null, []), (10, .ishl, 0, 0, .null, []), (11, (.iconst (-1)), 0, 0, .int (-1), []), (12, .ixor, 0, 0, .null, []), (13, .iand, 0, 0, .null, []), (14, (.istore 4), 0, 0, .null, []), (16, (.iload 4), 0, 0, .null, []), (18, (.iload_n 2), 0, 0, .null, []), (19, (.if_icmp .eq 38), 57, 0, .null, []), (22, (.aload_n 0), 0, 0, .null, []), (23, (.getfield 15), 0, 1, .null, []), (26, (.iload_n 2), 0, 0, .null, []), (27, (.bipush 7), 0, 0, .int (7), []), (29, .imul, 0, 0, .null, []), (30, (.iload_n 3), 0, 0, .null, []), (31, .iadd, 0, 0, .null, []), (32, (.iload 4), 0, 0, .null, []), (34, (.ifCond .ne 7), 41, 0, .null, []), (37, (.iconst 0), 0, 0, .int (0), []), (38, (.goto 18), 56, 0, .null, [4]), (41, (.aload_n 0), 0, 0, .null, []), (42, (.iload_n 3), 0, 0, .null, []), (43, (.aload_n 0), 0, 0, .null, []), (44, (.iload_n 1), 0, 0, .null, []), (45, (.iload_n 3), 0, 0, .null, []), (46, (.iload 4), 0, 0, .null, []), (48, (.invokevirtual 46), 6, 4, .null, [0]), (51, (.iload 4), 0, 0, .null, []), (53, (.invokevirtual 54), 7, 4, .null, [0]), (56, .iastore, 0, 0, .null, []), (57, (.iinc 3 1), 0, 0, .null, [4]), (60, (.goto (-58)), 2, 0, .null, [4]), (63, .return_, 0, 0, .null, [])]
-- 6: X0_cheapestNext (III)I
def cd_6 : List (Nat × hx_CE) := [(0, (.iconst 0), 0, 0, .int (0), []), (1, (.istore 4), 0, 0, .null, [5, 6, 7]), (3, (.sipush 1000), 0, 0, .int (1000), []), (6, (.istore 5), 0, 0, .null, [6, 7]), (8, (.iconst 0), 0, 0, .int (0), []), (9, (.istore 6), 0, 0, .null, [7]), (11, (.iload 6), 0, 0, .null, []), (13, (.iload_n 1), 0, 0, .null, []), (14, (.if_icmp .ge 44), 58, 0, .null, []), (17, (.iload_n 3), 0, 0, .null, []), (18, (.iload 6), 0, 0, .null, []), (20, .ishr, 0, 0, .null, []), (21, (.iconst 1), 0, 0, .int (1), []), (22, .iand, 0, 0, .null, []), (23, (.iconst 1), 0, 0, .int (1), []), (24, (.if_icmp .ne 28), 52, 0, .null, []), (27, (.aload_n 0), 0, 0, .null, []), (28, (.iload_n 2), 0, 0, .null, []), (29, (.iload 6), 0, 0, .null, []), (31, (.iload_n 3), 0, 0, .null, []), (32, (.invokevirtual 54), 7, 4, .null, [0]), (35, (.istore 7), 0, 0, .null, []), (37, (.iload 7), 0, 0, .null, []), (39, (.iload 5), 0, 0, .null, []), (41, (.if_icmp .ge 11), 52, 0, .null, []), (44, (.iload 7), 0, 0, .null, []), (46, (.istore 5), 0, 0, .null, [4, 7]), (48, (.iload 6), 0, 0, .null, []), (50, (.istore 4), 0, 0, .null, [7]), (52, (.iinc 6 1), 0, 0, .null, [7]), (55, (.goto (-44)), 11, 0, .null, [7]), (58, (.iload 4), 0, 0, .null, []), (60, .ireturn, 0, 0, .null, [])]
-- 7: X0_costBehind (III)I
def cd_7 : List (Nat × hx_CE) := [(0, (.iload_n 1), 0, 0, .null, []), (1, (.iconst (-1)), 0, 0, .int (-1), []), (2, (.if_icmp .ne 7), 9, 0, .null, []), (5, (.iconst 0), 0, 0, .int (0), []), (6, (.goto 14), 20, 0, .null, [1, 4]), (9, (.aload_n 0), 0, 0, .null, []), (10, (.getfield 9), 0, 0, .null, []), (13, (.iload_n 1), 0, 0, .null, []), (14, (.bipush 7), 0, 0, .int (7), []), (16, .imul, 0, 0, .null, []), (17, (.iload_n 2), 0, 0, .null, []), (18, .iadd, 0, 0, .null, []), (19, .iaload, 0, 0, .null, []), (20, (.istore 4), 0, 0, .null, [1]), (22, (.iload 4), 0, 0, .null, []), (24, (.aload_n 0), 0, 0, .null, []), (25, (.getfield 15), 0, 1, .null, []), (28, (.iload_n 3), 0, 0, .null, []), (29, (.bipush 7), 0, 0, .int (7), []), (31, .imul, 0, 0, .null, []), (32, (.iload_n 2), 0, 0, .null, []), (33, .iadd, 0, 0, .null, []), (34, .iaload, 0, 0, .null, []), (35, .iadd, 0, 0, .null, []), (36, .ireturn, 0, 0, .null, [])]
-- 8: X0_tryBehind ([IIIIIII)I
def cd_8 : List (Nat × hx_CE) := [(0, (.iload 4), 0, 0, .null, []), (2, (.iload_n 1), 0, 0, .null, []), (3, (.if_icmp .lt 11), 14, 0, .null, []), (6, (.iload 5), 0, 0, .null, []), (8, (.iload 6), 0, 0, .null, []), (10, (.invokestatic 57), 0, 0, .null, [2]), (13, .ireturn, 0, 0, .null, []), (14, (.iload 6), 0, 0, .null, []), (16, (.istore 7), 0, 0, .null, [6, 8, 9, 10]), (18, (.iconst 0), 0, 0, .int (0), []), (19, (.istore 8), 0, 0, .null, [6, 9, 10]), (21, (.iload 8), 0, 0, .null, []), (23, (.iload_n 1), 0, 0, .null, []), (24, (.if_icmp .ge 78), 102, 0, .null, []), (27, (.iload_n 2), 0, 0, .null, []), (28, (.iconst (-1)), 0, 0, .int (-1), []), (29, (.if_icmp .ne 7), 36, 0, .null, []), (32, (.iconst 0), 0, 0, .int (0), []), (33, (.goto 12), 45, 0, .null, [6, 9, 10]), (36, (.aload_n 0), 0, 0, .null, []), (37, (.iload_n 2), 0, 0, .null, []), (38, (.bipush 7), 0, 0, .int (7), []), (40, .imul, 0, 0, .null, []), (41, (.iload 8), 0, 0, .null, []), (43, .iadd, 0, 0, .null, []), (44, .iaload, 0, 0, .null, []), (45, (.istore 9), 0, 0, .null, [6, 10]), (47, (.iload_n 3), 0, 0, .null, []), (48, (.iload 8), 0, 0, .null, []), (50, .ishr, 0, 0, .null, []), (51, (.iconst 1), 0, 0, .int (1), []), (52, .iand, 0, 0, .null, []), (53, (.ifCond .ne 43), 96, 0, .null, []), (56, (.iload 5), 0, 0, .null, []), (58, (.iload 9), 0, 0, .null, []), (60, .iadd, 0, 0, .null, []), (61, (.iload 7), 0, 0, .null, []), (63, (.if_icmp .ge 33), 96, 0, .null, []), (66, (.iload_n 3), 0, 0, .null, []), (67, (.iconst 1), 0, 0, .int (1), []), (68, (.iload 8), 0, 0, .null, []), (70, .ishl, 0, 0, .null, []), (71, .ior, 0, 0, .null, []), (72, (.istore 10), 0, 0, .null, [6]), (74, (.aload_n 0), 0, 0, .null, []), (75, (.iload_n 1), 0, 0, .null, []), (76, (.iload 8), 0, 0, .null, []), (78, (.iload 10), 0, 0, .null, []), (80, (.iload 4), 0, 0, .null, []), (82, (.iconst 1), 0, 0, .int (1), []), (83, .iadd, 0, 0, .null, []), (84, (.iload 5), 0, 0, .null, []), (86, (.iload 9), 0, 0, .null, []), (88, .iadd, 0, 0, .null, []), (89, (.iload 7), 0, 0, .null, []), (91, (.invokestatic 38), 8, 7, .null, []), (94, (.istore 7), 0, 0, .null, [6, 9, 10]), (96, (.iinc 8 1), 0, 0, .null, [6, 9, 10]), (99, (.goto (-78)), 21, 0, .null, [6, 9, 10]), (102, (.iload 7), 0, 0, .null, []), (104, .ireturn, 0, 0, .null, [])]
-- 9: X1_init ()V
def cd_9 : List (Nat × hx_CE) := [(0, (.aload_n 0), 0, 0, .null, []), (1, (.invokespecial 3), 0, 0, .null, [0, 0]), (4, (.aload_n 0), 0, 0, .null, []), (5, (.bipush 28), 0, 0, .int (28), []), (7, (.newarray .int), 0, 0, .null, []), (9, (.putfield 9), 1, 0, .null, []), (12, (.aload_n 0), 0, 0, .null, []), (13, (.bipush 28), 0, 0, .int (28), []), (15, (.newarray .int), 0, 0, .null, []), (17, (.putfield 15), 1, 1, .null, []), (20, (.aload_n 0), 0, 0, .null, []), (21, (.iconst 0), 0, 0, .int (0), []), (22, (.putfield 18), 1, 2, .null, []), (25, (.aload_n 0), 0, 0, .null, []), (26, (.iconst 0), 0, 0, .int (0), []), (27, (.putfield 22), 1, 3, .null, []), (30, (.aload_n 0), 0, 0, .null, []), (31, (.iconst 0), 0, 0, .int (0), []), (32, (.putfield 25), 1, 4, .null, []), (35, .return_, 0, 0, .null, [])]
-- 10: X1_lineUp (LScrollPieces$Scroll;[I)V
def cd_10 : List (Nat × hx_CE) := [(0, (.aload_n 0), 0, 0, .null, []), (1, (.aload_n 1), 0, 0, .null, []), (2, (.getfield 28), 3, 7, .null, []), (5, (.iconst 0), 0, 0, .int (0), []), (6, .iaload, 0, 0, .null, []), (7, (.putfield 22), 1, 3, .null, []), (10, (.aload_n 0), 0, 0, .null, []), (11, (.aload_n 1), 0, 0, .null, []), (12, (.getfield 28), 3, 7, .null, []), (15, (.iconst 1), 0, 0, .int (1), []), (16, .iaload, 0, 0, .null, []), (17, (.putfield 25), 1, 4, .null, []), (20, (.aload_n 0), 0, 0, .null, []), (21, (.iconst 0), 0, 0, .int (0), []), (22, (.putfield 18), 1, 2, .null, []), (25, (.iconst 0), 0, 0, .int (0), []), (26, (.istore_n 3), 0, 0, .null, [4, 5, 6]), (27, (.iconst 0), 0, 0, .int (0), []), (28, (.istore 4), 0, 0, .null, [5, 6]), (30, (.iload 4), 0, 0, .null, []), (32, (.aload_n 1), 0, 0, .null, []), (33, (.getfield 33), 3, 0, .null, []), (36, (.if_icmp .ge 90), 126, 0, .null, []), (39, (.aload_n 2), 0, 0, .null, []), (40, (.iload 4), 0, 0, .null, []), (42, .iaload, 0, 0, .null, []), (43, (.istore 5), 0, 0, .null, [6]), (45, (.iconst 0), 0, 0, .int (0), []), (46, (.istore 6), 0, 0, .null, []), (48, (.iload 6), 0, 0, .null, []), (50, (.aload_n 1), 0, 0, .null, []), (51, (.getfield 36), 3, 4, .null, []), (54, (.iload 5), 0, 0, .null, []), (56, .iaload, 0, 0, .null, []), (57, (.if_icmp .ge 53), 110, 0, .null, []), (60, (.aload_n 0), 0, 0, .null, []), (61, (.getfield 9), 1, 0, .null, []), (64, (.aload_n 0), 0, 0, .null, []), (65, (.getfield 18), 1, 2, .null, []), (68, (.iload_n 3), 0, 0, .null, []), (69, (.aload_n 1), 0, 0, .null, []), (70, (.getfield 39), 3, 5, .null, []), (73, (.iload 5), 0, 0, .null, []), (75, (.iconst 4), 0, 0, .int (4), []), (76, .imul, 0, 0, .null, []), (77, (.iload 6), 0, 0, .null, []), (79, .iadd, 0, 0, .null, []), (80, .iaload, 0, 0, .null, []), (81, .iadd, 0, 0, .null, []), (82, .iastore, 0, 0, .null, []), (83, (.aload_n 0), 0, 0, .null, []), (84, (.getfield 15), 1, 1, .null, []), (87, (.aload_n 0), 0, 0, .null, []), (88, (.getfield 18), 1, 2, .null, []), (91, (.iload 5), 0, 0, .null, []), (93, .iastore, 0, 0, .null, []), (94, (.aload_n 0), 0, 0, .null, []), (95, .dup, 0, 0, .null, []), (96, (.getfield 18), 1, 2, .null, []), (99, (.iconst 1), 0, 0, .int (1), []), (100, .iadd, 0, 0, .null, []), (101, (.putfield 18), 1, 2, .null, []), (104, (.iinc 6 1), 0, 0, .null, []), (107, (.goto (-59)), 48, 0, .null, []), (110, (.iload_n 3), 0, 0, .null, []), (111, (.aload_n 1), 0, 0, .null, []), (112, (.getfield 41), 3, 2, .null, []), (115, (.iload 5), 0, 0, .null, []), (117, .iaload, 0, 0, .null, []), (118, .iadd, 0, 0, .null, []), (119, (.istore_n 3), 0, 0, .null, [5, 6]), (120, (.iinc 4 1), 0, 0, .null, [5, 6]), (123, (.goto (-93)), 30, 0, .null, [5, 6]), (126, .return_, 0, 0, .null, [])]
-- 11: X1_property (II)I
def cd_11 : List (Nat × hx_CE) := [(0, (.iload_n 1), 0, 0, .null, []), (1, (.aload_n 0), 0, 0, .null, []), (2, (.getfield 18), 1, 2, .null, []), (5, (.if_icmp .lt 5), 10, 0, .null, []), (8, (.iconst (-1)), 0, 0, .int (-1), []), (9, .ireturn, 0, 0, .null, []), (10, (.iload_n 2), 0, 0, .null, []), (11, (.tableswitch 63 0 3 #[29, 36, 43, 49]), 74, 0, .retAddr 29, [40, 47, 54, 60]), (40, (.aload_n 0), 0, 0, .null, []), (41, (.getfield 9), 1, 0, .null, []), (44, (.iload_n 1), 0, 0, .null, []), (45, .iaload, 0, 0, .null, []), (46, .ireturn, 0, 0, .null, []), (47, (.aload_n 0), 0, 0, .null, []), (48, (.getfield 15), 1, 1, .null, []), (51, (.iload_n 1), 0, 0, .null, []), (52, .iaload, 0, 0, .null, []), (53, .ireturn, 0, 0, .null, []), (54, (.aload_n 0), 0, 0, .null, []), (55, (.iload_n 1), 0, 0, .null, []), (56, (.invokevirtual 44), 12, 2, .null, [1]), (59, .ireturn, 0, 0, .null, []), (60, (.aload_n 0), 0, 0, .null, []), (61, (.iload_n 1), 0, 0, .null, []), (62, (.invokevirtual 48), 14, 2, .null, [1]), (65, (.ifCond .eq 7), 72, 0, .null, []), (68, (.iconst 1), 0, 0, .int (1), []), (69, (.goto 4), 73, 0, .null, [0, 1, 2]), (72, (.iconst 0), 0, 0, .int (0), []), (73, .ireturn, 0, 0, .null, []), (74, (.aload_n 0), 0, 0, .null, []), (75, (.iload_n 1), 0, 0, .null, []), (76, (.invokevirtual 52), 15, 2, .null, [1]), (79, .ireturn, 0, 0, .null, [])]
-- 12: X1_distance (I)I
def cd_12 : List (Nat × hx_CE) := [(0, (.iload_n 1), 0, 0, .null, []), (1, (.ifCond .lt 13), 14, 0, .null, []), (4, (.iload_n 1), 0, 0, .null, []), (5, (.aload_n 0), 0, 0, .null, []), (6, (.getfield 18), 1, 2, .null, []), (9, (.iconst 1), 0, 0, .int (1), []), (10, .isub, 0, 0, .null, []), (11, (.if_icmp .lt 5), 16, 0, .null, []), (14, (.iconst (-1)), 0, 0, .int (-1), []), (15, .ireturn, 0, 0, .null, []), (16, (.aload_n 0), 0, 0, .null, []), (17, (.getfield 9), 1, 0, .null, []), (20, (.iload_n 1), 0, 0, .null, []), (21, (.iconst 1), 0, 0, .int (1), []), (22, .iadd, 0, 0, .null, []), (23, .iaload, 0, 0, .null, []), (24, (.aload_n 0), 0, 0, .null, []), (25, (.getfield 9), 1, 0, .null, []), (28, (.iload_n 1), 0, 0, .null, []), (29, .iaload, 0, 0, .null, []), (30, .isub, 0, 0, .null, []), (31, .ireturn, 0, 0, .null, [])]
-- 13: X1_shouldBe (I)I
def cd_13 : List (Nat × hx_CE) := [(0, (.aload_n 0), 0, 0, .null, []), (1, (.iload_n 1), 0, 0, .null, []), (2, (.iconst 1), 0, 0, .int (1), []), (3, .isub, 0, 0, .null, []), (4, (.invokevirtual 44), 12, 2, .null, [1]), (7, (.aload_n 0), 0, 0, .null, []), (8, (.getfield 22), 1, 3, .null, []), (11, .isub, 0, 0, .null, []), (12, .ireturn, 0, 0, .null, [])]
-- 14: X1_isWrong (I)Z
def cd_14 : List (Nat × hx_CE) := [(0, (.iload_n 1), 0, 0, .null, []), (1, (.iconst 1), 0, 0, .int (1), []), (2, (.if_icmp .lt 13), 15, 0, .null, []), (5, (.iload_n 1), 0, 0, .null, []), (6, (.aload_n 0), 0, 0, .null, []), (7, (.getfield 18), 1, 2, .null, []), (10, (.iconst 1), 0, 0, .int (1), []), (11, .isub, 0, 0, .null, []), (12, (.if_icmp .lt 5), 17, 0, .null, []), (15, (.iconst 0), 0, 0, .int (0), []), (16, .ireturn, 0, 0, .null, []), (17, (.aload_n 0), 0, 0, .null, []), (18, (.iload_n 1), 0, 0, .null, []), (19, (.invokevirtual 44), 12, 2, .null, [1]), (22, (.aload_n 0), 0, 0, .null, []), (23, (.iload_n 1), 0, 0, .null, []), (24, (.invokevirtual 55), 13, 2, .null, [1]), (27, .isub, 0, 0, .null, []), (28, (.invokestatic 58), 0, 0, .null, [1]), (31, (.aload_n 0), 0, 0, .null, []), (32, (.getfield 25), 1, 4, .null, []), (35, (.if_icmp .le 7), 42, 0, .null, []), (38, (.iconst 1), 0, 0, .int (1), []), (39, (.goto 4), 43, 0, .null, [0, 1]), (42, (.iconst 0), 0, 0, .int (0), []), (43, .ireturn, 0, 0, .null, [])]
-- 15: X1_lacking (I)I
def cd_15 : List (Nat × hx_CE) := [(0, (.aload_n 0), 0, 0, .null, []), (1, (.iload_n 1), 0, 0, .null, []), (2, (.invokevirtual 44), 12, 2, .null, [1]), (5, (.istore_n 2), 0, 0, .null, [3, 4, 5]), (6, (.aload_n 0), 0, 0, .null, []), (7, (.iload_n 1), 0, 0, .null, []), (8, (.invokevirtual 55), 13, 2, .null, [1]), (11, (.istore_n 3), 0, 0, .null, [4, 5]), (12, (.aload_n 0), 0, 0, .null, []), (13, (.iload_n 1), 0, 0, .null, []), (14, (.invokevirtual 48), 14, 2, .null, [1]), (17, (.ifCond .eq 8), 25, 0, .null, []), (20, (.iload_n 2), 0, 0, .null, []), (21, (.iload_n 3), 0, 0, .null, []), (22, (.if_icmp .ge 5), 27, 0, .null, []), (25, (.iconst 0), 0, 0, .int (0), []), (26, .ireturn, 0, 0, .null, []), (27, (.iload_n 3), 0, 0, .null, []), (28, (.istore 4), 0, 0, .null, [1, 5]), (30, (.iconst 1), 0, 0, .int (1), []), (31, (.istore 5), 0, 0, .null, [1]), (33, (.iload 5), 0, 0, .null, []), (35, (.iconst 5), 0, 0, .int (5), []), (36, (.if_icmp .gt 38), 74, 0, .null, []), (39, (.iload_n 3), 0, 0, .null, []), (40, (.aload_n 0), 0, 0, .null, []), (41, (.getfield 22), 1, 3, .null, []), (44, .isub, 0, 0, .null, []), (45, (.istore_n 3), 0, 0, .null, [1]), (46, (.iload 4), 0, 0, .null, []), (48, (.iload_n 3), 0, 0, .null, []), (49, .iadd, 0, 0, .null, []), (50, (.istore 4), 0, 0, .null, [1]), (52, (.iload_n 3), 0, 0, .null, []), (53, (.iconst 1), 0, 0, .int (1), []), (54, (.if_icmp .ge 5), 59, 0, .null, []), (57, (.iconst 0), 0, 0, .int (0), []), (58, .ireturn, 0, 0, .null, []), (59, (.iload 4), 0, 0, .null, []), (61, (.iload_n 2), 0, 0, .null, []), (62, (.if_icmp .lt 6), 68, 0, .null, []), (65, (.iload 5), 0, 0, .null, []), (67, .ireturn, 0, 0, .null, []), (68, (.iinc 5 1), 0, 0, .null, [1]), (71, (.goto (-38)), 33, 0, .null, [1]), (74, (.iconst 0), 0, 0, .int (0), []), (75, .ireturn, 0, 0, .null, [])]
-- 16: X1_wrongDistances ()I
def cd_16 : List (Nat × hx_CE) := [(0, (.iconst 0), 0, 0, .int (0), []), (1, (.istore_n 1), 0, 0, .null, [2]), (2, (.iconst 0), 0, 0, .int (0), []), (3, (.istore_n 2), 0, 0, .null, []), (4, (.iload_n 2), 0, 0, .null, []), (5, (.aload_n 0), 0, 0, .null, []), (6, (.getfield 18), 1, 2, .null, []), (9, (.if_icmp .ge 25), 34, 0, .null, []), (12, (.iload_n 1), 0, 0, .null, []), (13, (.aload_n 0), 0, 0, .null, []), (14, (.iload_n 2), 0, 0, .null, []), (15, (.invokevirtual 48), 14, 2, .null, [1]), (18, (.ifCond .eq 7), 25, 0, .null, []), (21, (.iconst 1), 0, 0, .int (1), []), (22, (.goto 4), 26, 0, .null, [1]), (25, (.iconst 0), 0, 0, .int (0), []), (26, .iadd, 0, 0, .null, []), (27, (.istore_n 1), 0, 0, .null, []), (28, (.iinc 2 1), 0, 0, .null, []), (31, (.goto (-27)), 4, 0, .null, []), (34, (.iload_n 1), 0, 0, .null, []), (35, .ireturn, 0, 0, .null, [])]
-- 17: X1_lackingTurns ()I
def cd_17 : List (Nat × hx_CE) := [(0, (.iconst 0), 0, 0, .int (0), []), (1, (.istore_n 1), 0, 0, .null, [2]), (2, (.iconst 0), 0, 0, .int (0), []), (3, (.istore_n 2), 0, 0, .null, []), (4, (.iload_n 2), 0, 0, .null, []), (5, (.aload_n 0), 0, 0, .null, []), (6, (.getfield 18), 1, 2, .null, []), (9, (.if_icmp .ge 17), 26, 0, .null, []), (12, (.iload_n 1), 0, 0, .null, []), (13, (.aload_n 0), 0, 0, .null, []), (14, (.iload_n 2), 0, 0, .null, []), (15, (.invokevirtual 52), 15, 2, .null, [1]), (18, .iadd, 0, 0, .null, []), (19, (.istore_n 1), 0, 0, .null, []), (20, (.iinc 2 1), 0, 0, .null, []), (23, (.goto (-19)), 4, 0, .null, []), (26, (.iload_n 1), 0, 0, .null, []), (27, .ireturn, 0, 0, .null, [])]
-- 18: X1_shrinkByMean ()F
def cd_18 : List (Nat × hx_CE) := [(0, (.aload_n 0), 0, 0, .null, []), (1, (.getfield 18), 1, 2, .null, []), (4, (.iconst 1), 0, 0, .int (1), []), (5, .isub, 0, 0, .null, []), (6, (.istore_n 1), 0, 0, .null, []), (7, (.iload_n 1), 0, 0, .null, []), (8, (.iconst 2), 0, 0, .int (2), []), (9, (.if_icmp .ge 5), 14, 0, .null, []), (12, (.fconst 0), 0, 0, .float FP.fconst0, []), (13, .freturn, 0, 0, .null, []), (14, (.aload_n 0), 0, 0, .null, []), (15, (.iconst 0), 0, 0, .int (0), []), (16, (.invokevirtual 44), 12, 2, .null, [1]), (19, (.aload_n 0), 0, 0, .null, []), (20, (.iload_n 1), 0, 0, .null, []), (21, (.iconst 1), 0, 0, .int (1), []), (22, .isub, 0, 0, .null, []), (23, (.invokevirtual 44), 12, 2, .null, [1]), (26, .isub, 0, 0, .null, []), (27, .i2f, 0, 0, .null, []), (28, (.iload_n 1), 0, 0, .null, []), (29, (.iconst 1), 0, 0, .int (1), []), (30, .isub, 0, 0, .null, []), (31, .i2f, 0, 0, .null, []), (32, .fdiv, 0, 0, .null, []), (33, .freturn, 0, 0, .null, [])]
-- 19: X2_init ()V
def cd_19 : List (Nat × hx_CE) := [(0, (.aload_n 0), 0, 0, .null, []), (1, (.invokespecial 3), 0, 0, .null, [0, 0]), (4, (.aload_n 0), 0, 0, .null, []), (5, (.iconst 0), 0, 0, .int (0), []), (6, (.putfield 9), 2, 0, .null, []), (9, (.aload_n 0), 0, 0, .null, []), (10, (.iconst 0), 0, 0, .int (0), []), (11, (.putfield 15), 2, 1, .null, []), (14, (.aload_n 0), 0, 0, .null, []), (15, (.bipush 10), 0, 0, .int (10), []), (17, (.newarray .int), 0, 0, .null, []), (19, (.putfield 18), 2, 2, .null, []), (22, (.aload_n 0), 0, 0, .null, []), (23, (.iconst 0), 0, 0, .int (0), []), (24, (.putfield 22), 2, 3, .null, []), (27, (.aload_n 0), 0, 0, .null, []), (28, (.iconst 4), 0, 0, .int (4), []), (29, (.newarray .int), 0, 0, .null, []), (31, (.putfield 25), 2, 4, .null, []), (34, (.aload_n 0), 0, 0, .null, []), (35, (.iconst 0), 0, 0, .int (0), []), (36, (.putfield 28), 2, 5, .null, []), (39, (.aload_n 0), 0, 0, .null, []), (40, (.iconst 0), 0, 0, .int (0), []), (41, (.putfield 31), 2, 6, .null, []), (44, (.aload_n 0), 0, 0, .null, []), (45, (.iconst 0), 0, 0, .int (0), []), (46, (.putfield 34), 2, 7, .null, []), (49, (.aload_n 0), 0, 0, .null, []), (50, (.iconst (-1)), 0, 0, .int (-1), []), (51, (.putfield 38), 2, 8, .null, []), (54, .return_, 0, 0, .null, [])]
-- 20: X2_begin ()V
def cd_20 : List (Nat × hx_CE) := [(0, (.aload_n 0), 0, 0, .null, []), (1, (.iconst 0), 0, 0, .int (0), []), (2, (.putfield 9), 2, 0, .null, []), (5, (.aload_n 0), 0, 0, .null, []), (6, (.invokevirtual 41), 21, 1, .null, [2]), (9, .return_, 0, 0, .null, [])]
-- 21: X2_beginPiece ()V
def cd_21 : List (Nat × hx_CE) := [(0, (.aload_n 0), 0, 0, .null, []), (1, .dup, 0, 0, .null, []), (2, (.getfield 9), 2, 0, .null, []), (5, (.iconst 1), 0, 0, .int (1), []), (6, .iadd, 0, 0, .null, []), (7, (.putfield 9), 2, 0, .null, []), (10, (.aload_n 0), 0, 0, .null, []), (11, (.iconst 0), 0, 0, .int (0), []), (12, (.putfield 28), 2, 5, .null, []), (15, (.aload_n 0), 0, 0, .null, []), (16, (.iconst 0), 0, 0, .int (0), []), (17, (.putfield 15), 2, 1, .null, []), (20, (.aload_n 0), 0, 0, .null, []), (21, (.iconst 0), 0, 0, .int (0), []), (22, (.putfield 31), 2, 6, .null, []), (25, (.aload_n 0), 0, 0, .null, []), (26, (.iconst 0), 0, 0, .int (0), []), (27, (.putfield 34), 2, 7, .null, []), (30, (.aload_n 0), 0, 0, .null, []), (31, (.iconst 0), 0, 0, .int (0), []), (32, (.putfield 22), 2, 3, .null, []), (35, (.aload_n 0), 0, 0, .null, []), (36, (.iconst (-1)), 0, 0, .int (-1), []), (37, (.putfield 38), 2, 8, .null, []), (40, .return_, 0, 0, .null, [])]
-- 22: X2_takes (C)Z
def cd_22 : List (Nat × hx_CE) := [(0, (.aload_n 0), 0, 0, .null, []), (1, (.getfield 28), 2, 5, .null, []), (4, (.tableswitch 46 0 2 #[28, 34, 40]), 50, 0, .retAddr 28, [32, 38, 44]), (32, (.aload_n 0), 0, 0, .null, []), (33, (.iload_n 1), 0, 0, .null, []), (34, (.invokevirtual 44), 25, 2, .null, [2]), (37, .ireturn, 0, 0, .null, []), (38, (.aload_n 0), 0, 0, .null, []), (39, (.iload_n 1), 0, 0, .null, []), (40, (.invokevirtual 48), 26, 2, .null, [2]), (43, .ireturn, 0, 0, .null, []), (44, (.aload_n 0), 0, 0, .null, []), (45, (.iload_n 1), 0, 0, .null, []), (46, (.invokevirtual 51), 27, 2, .null, [2]), (49, .ireturn, 0, 0, .null, []), (50, (.aload_n 0), 0, 0, .null, []), (51, (.iload_n 1), 0, 0, .null, []), (52, (.invokevirtual 54), 28, 2, .null, [2]), (55, .ireturn, 0, 0, .null, [])]
-- 23: X2_isWhole ()Z
def cd_23 : List (Nat × hx_CE) := [(0, (.aload_n 0), 0, 0, .null, []), (1, (.getfield 28), 2, 5, .null, []), (4, (.iconst 2), 0, 0, .int (2), []), (5, (.if_icmp .eq 22), 27, 0, .null, []), (8, (.aload_n 0), 0, 0, .null, []), (9, (.getfield 28), 2, 5, .null, []), (12, (.iconst 3), 0, 0, .int (3), []), (13, (.if_icmp .ne 18), 31, 0, .null, []), (16, (.aload_n 0), 0, 0, .null, []), (17, (.aload_n 0), 0, 0, .null, []), (18, (.getfield 38), 2, 8, .null, []), (21, (.invokevirtual 57), 30, 2, .null, [2]), (24, (.ifCond .eq 7), 31, 0, .null, []), (27, (.iconst 1), 0, 0, .int (1), []), (28, (.goto 4), 32, 0, .null, [0]), (31, (.iconst 0), 0, 0, .int (0), []), (32, .ireturn, 0, 0, .null, [])]
-- 24: X2_closePlace ()V
def cd_24 : List (Nat × hx_CE) := [(0, (.aload_n 0), 0, 0, .null, []), (1, (.getfield 28), 2, 5, .null, []), (4, (.iconst 3), 0, 0, .int (3), []), (5, (.if_icmp .ne 39), 44, 0, .null, []), (8, (.aload_n 0), 0, 0, .null, []), (9, (.getfield 22), 2, 3, .null, []), (12, (.iconst 4), 0, 0, .int (4), []), (13, (.if_icmp .ge 31), 44, 0, .null, []), (16, (.aload_n 0), 0, 0, .null, []), (17, (.getfield 25), 2, 4, .null, []), (20, (.aload_n 0), 0, 0, .null, []), (21, (.getfield 22), 2, 3, .null, []), (24, (.aload_n 0), 0, 0, .null, []), (25, (.getfield 38), 2, 8, .null, []), (28, .iastore, 0, 0, .null, []), (29, (.aload_n 0), 0, 0, .null, []), (30, .dup, 0, 0, .null, []), (31, (.getfield 22), 2, 3, .null, []), (34, (.iconst 1), 0, 0, .int (1), []), (35, .iadd, 0, 0, .null, []), (36, (.putfield 22), 2, 3, .null, []), (39, (.aload_n 0), 0, 0, .null, []), (40, (.iconst 2), 0, 0, .int (2), []), (41, (.putfield 28), 2, 5, .null, []), (44, .return_, 0, 0, .null, [])]
-- 25: X2_takesWidth (C)Z
def cd_25 : List (Nat × hx_CE) := [(0, (.iload_n 1), 0, 0, .null, []), (1, (.bipush 91), 0, 0, .int (91), []), (3, (.if_icmp .ne 21), 24, 0, .null, []), (6, (.aload_n 0), 0, 0, .null, []), (7, (.iconst 1), 0, 0, .int (1), []), (8, (.putfield 28), 2, 5, .null, []), (11, (.aload_n 0), 0, 0, .null, []), (12, (.getfield 15), 2, 1, .null, []), (15, (.ifCond .le 7), 22, 0, .null, []), (18, (.iconst 1), 0, 0, .int (1), []), (19, (.goto 4), 23, 0, .null, [0, 1, 2]), (22, (.iconst 0), 0, 0, .int (0), []), (23, .ireturn, 0, 0, .null, []), (24, (.aload_n 0), 0, 0, .null, []), (25, (.getfield 15), 2, 1, .null, []), (28, (.bipush 10), 0, 0, .int (10), []), (30, .imul, 0, 0, .null, []), (31, (.iload_n 1), 0, 0, .null, []), (32, (.invokestatic 61), 32, 1, .null, []), (35, .iadd, 0, 0, .null, []), (36, (.istore_n 2), 0, 0, .null, []), (37, (.iload_n 1), 0, 0, .null, []), (38, (.invokestatic 61), 32, 1, .null, []), (41, (.iconst (-1)), 0, 0, .int (-1), []), (42, (.if_icmp .eq 14), 56, 0, .null, []), (45, (.iload_n 2), 0, 0, .null, []), (46, (.iconst 1), 0, 0, .int (1), []), (47, (.if_icmp .lt 9), 56, 0, .null, []), (50, (.iload_n 2), 0, 0, .null, []), (51, (.bipush 60), 0, 0, .int (60), []), (53, (.if_icmp .le 5), 58, 0, .null, []), (56, (.iconst 0), 0, 0, .int (0), []), (57, .ireturn, 0, 0, .null, []), (58, (.aload_n 0), 0, 0, .null, []), (59, (.iload_n 2), 0, 0, .null, []), (60, (.putfield 15), 2, 1, .null, []), (63, (.iconst 1), 0, 0, .int (1), []), (64, .ireturn, 0, 0, .null, [])]
-- 26: X2_takesEdges (C)Z
def cd_26 : List (Nat × hx_CE) := [(0, (.aload_n 0), 0, 0, .null, []), (1, (.getfield 31), 2, 6, .null, []), (4, (.iconst 5), 0, 0, .int (5), []), (5, (.if_icmp .ne 27), 32, 0, .null, []), (8, (.aload_n 0), 0, 0, .null, []), (9, (.getfield 34), 2, 7, .null, []), (12, (.ifCond .ne 20), 32, 0, .null, []), (15, (.aload_n 0), 0, 0, .null, []), (16, (.iconst 1), 0, 0, .int (1), []), (17, (.putfield 34), 2, 7, .null, []), (20, (.iload_n 1), 0, 0, .null, []), (21, (.bipush 124), 0, 0, .int (124), []), (23, (.if_icmp .ne 7), 30, 0, .null, []), (26, (.iconst 1), 0, 0, .int (1), []), (27, (.goto 4), 31, 0, .null, [0, 1, 2, 3]), (30, (.iconst 0), 0, 0, .int (0), []), (31, .ireturn, 0, 0, .null, []), (32, (.aload_n 0), 0, 0, .null, []), (33, (.getfield 31), 2, 6, .null, []), (36, (.bipush 10), 0, 0, .int (10), []), (38, (.if_icmp .lt 20), 58, 0, .null, []), (41, (.aload_n 0), 0, 0, .null, []), (42, (.iconst 2), 0, 0, .int (2), []), (43, (.putfield 28), 2, 5, .null, []), (46, (.iload_n 1), 0, 0, .null, []), (47, (.bipush 93), 0, 0, .int (93), []), (49, (.if_icmp .ne 7), 56, 0, .null, []), (52, (.iconst 1), 0, 0, .int (1), []), (53, (.goto 4), 57, 0, .null, [0, 1, 2, 3]), (56, (.iconst 0), 0, 0, .int (0), []), (57, .ireturn, 0, 0, .null, []), (58, (.iload_n 1), 0, 0, .null, []), (59, (.invokestatic 61), 32, 1, .null, []), (62, (.istore_n 2), 0, 0, .null, [1, 3]), (63, (.aload_n 0), 0, 0, .null, []), (64, (.getfield 31), 2, 6, .null, []), (67, (.iconst 5), 0, 0, .int (5), []), (68, .irem, 0, 0, .null, []), (69, (.iconst 4), 0, 0, .int (4), []), (70, (.if_icmp .ne 8), 78, 0, .null, []), (73, (.bipush 9), 0, 0, .int (9), []), (75, (.goto 4), 79, 0, .null, [1, 3]), (78, (.iconst 5), 0, 0, .int (5), []), (79, (.istore_n 3), 0, 0, .null, [1]), (80, (.aload_n 0), 0, 0, .null, []), (81, (.getfield 18), 2, 2, .null, []), (84, (.aload_n 0), 0, 0, .null, []), (85, (.getfield 31), 2, 6, .null, []), (88, (.iload_n 2), 0, 0, .null, []), (89, .iastore, 0, 0, .null, []), (90, (.aload_n 0), 0, 0, .null, []), (91, .dup, 0, 0, .null, []), (92, (.getfield 31), 2, 6, .null, []), (95, (.iconst 1), 0, 0, .int (1), []), (96, .iadd, 0, 0, .null, []), (97, (.putfield 31), 2, 6, .null, []), (100, (.iload_n 2), 0, 0, .null, []), (101, (.iconst (-1)), 0, 0, .int (-1), []), (102, (.if_icmp .eq 12), 114, 0, .null, []), (105, (.iload_n 2), 0, 0, .null, []), (106, (.iload_n 3), 0, 0, .null, []), (107, (.if_icmp .gt 7), 114, 0, .null, []), (110, (.iconst 1), 0, 0, .int (1), []), (111, (.goto 4), 115, 0, .null, [0, 1, 2, 3]), (114, (.iconst 0), 0, 0, .int (0), []), (115, .ireturn, 0, 0, .null, [])]
-- 27: X2_takesNext (C)Z
def cd_27 : List (Nat × hx_CE) := [(0, (.iload_n 1), 0, 0, .null, []), (1, (.bipush 59), 0, 0, .int (59), []), (3, (.if_icmp .ne 9), 12, 0, .null, []), (6, (.aload_n 0), 0, 0, .null, []), (7, (.invokevirtual 41), 21, 1, .null, [2]), (10, (.iconst 1), 0, 0, .int (1), []), (11, .ireturn, 0, 0, .null, []), (12, (.aload_n 0), 0, 0, .null, []), (13, (.iconst 3), 0, 0, .int (3), []), (14, (.putfield 28), 2, 5, .null, []), (17, (.aload_n 0), 0, 0, .null, []), (18, (.iconst (-1)), 0, 0, .int (-1), []), (19, (.putfield 38), 2, 8, .null, []), (22, (.iload_n 1), 0, 0, .null, []), (23, (.bipush 46), 0, 0, .int (46), []), (25, (.if_icmp .ne 28), 53, 0, .null, []), (28, (.aload_n 0), 0, 0, .null, []), (29, (.getfield 22), 2, 3, .null, []), (32, (.iconst 4), 0, 0, .int (4), []), (33, (.if_icmp .ge 20), 53, 0, .null, []), (36, (.aload_n 0), 0, 0, .null, []), (37, (.invokevirtual 65), 29, 1, .null, [2]), (40, (.aload_n 0), 0, 0, .null, []), (41, (.getfield 15), 2, 1, .null, []), (44, (.iconst 1), 0, 0, .int (1), []), (45, .isub, 0, 0, .null, []), (46, (.if_icmp .ge 7), 53, 0, .null, []), (49, (.iconst 1), 0, 0, .int (1), []), (50, (.goto 4), 54, 0, .null, [0, 1]), (53, (.iconst 0), 0, 0, .int (0), []), (54, .ireturn, 0, 0, .null, [])]
-- 28: X2_takesPlace (C)Z
def cd_28 : List (Nat × hx_CE) := [(0, (.iload_n 1), 0, 0, .null, []), (1, (.invokestatic 61), 32, 1, .null, []), (4, (.istore_n 2), 0, 0, .null, [3]), (5, (.iload_n 2), 0, 0, .null, []), (6, (.iconst (-1)), 0, 0, .int (-1), []), (7, (.if_icmp .eq 73), 80, 0, .null, []), (10, (.aload_n 0), 0, 0, .null, []), (11, (.getfield 38), 2, 8, .null, []), (14, (.ifCond .ne 7), 21, 0, .null, []), (17, (.iconst 1), 0, 0, .int (1), []), (18, (.goto 4), 22, 0, .null, [1, 3]), (21, (.iconst 0), 0, 0, .int (0), []), (22, (.istore_n 3), 0, 0, .null, [1]), (23, (.aload_n 0), 0, 0, .null, []), (24, (.aload_n 0), 0, 0, .null, []), (25, (.getfield 38), 2, 8, .null, []), (28, (.iconst (-1)), 0, 0, .int (-1), []), (29, (.if_icmp .ne 7), 36, 0, .null, []), (32, (.iload_n 2), 0, 0, .null, []), (33, (.goto 12), 45, 0, .null, [1, 2]), (36, (.aload_n 0), 0, 0, .null, []), (37, (.getfield 38), 2, 8, .null, []), (40, (.bipush 10), 0, 0, .int (10), []), (42, .imul, 0, 0, .null, []), (43, (.iload_n 2), 0, 0, .null, []), (44, .iadd, 0, 0, .null, []), (45, (.putfield 38), 2, 8, .null, []), (48, (.iload_n 3), 0, 0, .null, []), (49, (.ifCond .ne 29), 78, 0, .null, []), (52, (.aload_n 0), 0, 0, .null, []), (53, (.aload_n 0), 0, 0, .null, []), (54, (.getfield 38), 2, 8, .null, []), (57, (.invokevirtual 57), 30, 2, .null, [2]), (60, (.ifCond .ne 14), 74, 0, .null, []), (63, (.aload_n 0), 0, 0, .null, []), (64, (.aload_n 0), 0, 0, .null, []), (65, (.getfield 38), 2, 8, .null, []), (68, (.invokevirtual 69), 31, 2, .null, [2]), (71, (.ifCond .eq 7), 78, 0, .null, []), (74, (.iconst 1), 0, 0, .int (1), []), (75, (.goto 4), 79, 0, .null, [0, 1, 2, 3]), (78, (.iconst 0), 0, 0, .int (0), []), (79, .ireturn, 0, 0, .null, []), (80, (.aload_n 0), 0, 0, .null, []), (81, (.aload_n 0), 0, 0, .null, []), (82, (.getfield 38), 2, 8, .null, []), (85, (.invokevirtual 57), 30, 2, .null, [2]), (88, (.ifCond .ne 5), 93, 0, .null, []), (91, (.iconst 0), 0, 0, .int (0), []), (92, .ireturn, 0, 0, .null, []), (93, (.aload_n 0), 0, 0, .null, []), (94, (.invokevirtual 72), 24, 1, .null, [2]), (97, (.aload_n 0), 0, 0, .null, []), (98, (.iload_n 1), 0, 0, .null, []), (99, (.invokevirtual 51), 27, 2, .null, [2]), (102, .ireturn, 0, 0, .null, [])]
-- 29: X2_lastHole ()I
def cd_29 : List (Nat × hx_CE) := [(0, (.aload_n 0), 0, 0, .null, []), (1, (.getfield 22), 2, 3, .null, []), (4, (.ifCond .ne 7), 11, 0, .null, []), (7, (.iconst (-1)), 0, 0, .int (-1), []), (8, (.goto 14), 22, 0, .null, [0]), (11, (.aload_n 0), 0, 0, .null, []), (12, (.getfield 25), 2, 4, .null, []), (15, (.aload_n 0), 0, 0, .null, []), (16, (.getfield 22), 2, 3, .null, []), (19, (.iconst 1), 0, 0, .int (1), []), (20, .isub, 0, 0, .null, []), (21, .iaload, 0, 0, .null, []), (22, .ireturn, 0, 0, .null, [])]
-- 30: X2_isPlace (I)Z
def cd_30 : List (Nat × hx_CE) := [(0, (.iload_n 1), 0, 0, .null, []), (1, (.aload_n 0), 0, 0, .null, []), (2, (.invokevirtual 65), 29, 1, .null, [2]), (5, (.if_icmp .le 15), 20, 0, .null, []), (8, (.iload_n 1), 0, 0, .null, []), (9, (.aload_n 0), 0, 0, .null, []), (10, (.getfield 15), 2, 1, .null, []), (13, (.if_icmp .ge 7), 20, 0, .null, []), (16, (.iconst 1), 0, 0, .int (1), []), (17, (.goto 4), 21, 0, .null, [0, 1]), (20, (.iconst 0), 0, 0, .int (0), []), (21, .ireturn, 0, 0, .null, [])]
-- 31: X2_beginsPlace (I)Z
def cd_31 : List (Nat × hx_CE) := [(0, (.iload_n 1), 0, 0, .null, []), (1, (.ifCond .le 32), 33, 0, .null, []), (4, (.iload_n 1), 0, 0, .null, []), (5, (.bipush 10), 0, 0, .int (10), []), (7, .imul, 0, 0, .null, []), (8, (.aload_n 0), 0, 0, .null, []), (9, (.getfield 15), 2, 1, .null, []), (12, (.if_icmp .ge 21), 33, 0, .null, []), (15, (.iload_n 1), 0, 0, .null, []), (16, (.bipush 10), 0, 0, .int (10), []), (18, .imul, 0, 0, .null, []), (19, (.bipush 9), 0, 0, .int (9), []), (21, .iadd, 0, 0, .null, []), (22, (.aload_n 0), 0, 0, .null, []), (23, (.invokevirtual 65), 29, 1, .null, [2]), (26, (.if_icmp .le 7), 33, 0, .null, []), (29, (.iconst 1), 0, 0, .int (1), []), (30, (.goto 4), 34, 0, .null, [0, 1]), (33, (.iconst 0), 0, 0, .int (0), []), (34, .ireturn, 0, 0, .null, [])]
-- 32: X2_digitOf (C)I
def cd_32 : List (Nat × hx_CE) := [(0, (.iload_n 0), 0, 0, .null, []), (1, (.bipush 48), 0, 0, .int (48), []), (3, (.if_icmp .lt 16), 19, 0, .null, []), (6, (.iload_n 0), 0, 0, .null, []), (7, (.bipush 57), 0, 0, .int (57), []), (9, (.if_icmp .gt 10), 19, 0, .null, []), (12, (.iload_n 0), 0, 0, .null, []), (13, (.bipush 48), 0, 0, .int (48), []), (15, .isub, 0, 0, .null, []), (16, (.goto 4), 20, 0, .null, [0]), (19, (.iconst (-1)), 0, 0, .int (-1), []), (20, .ireturn, 0, 0, .null, [])]
-- 33: X3_init ()V
def cd_33 : List (Nat × hx_CE) := [(0, (.aload_n 0), 0, 0, .null, []), (1, (.invokespecial 3), 0, 0, .null, [0, 0]), (4, (.aload_n 0), 0, 0, .null, []), (5, (.iconst 0), 0, 0, .int (0), []), (6, (.putfield 9), 3, 0, .null, []), (9, (.aload_n 0), 0, 0, .null, []), (10, (.iconst 0), 0, 0, .int (0), []), (11, (.putfield 15), 3, 1, .null, []), (14, (.aload_n 0), 0, 0, .null, []), (15, (.bipush 7), 0, 0, .int (7), []), (17, (.newarray .int), 0, 0, .null, []), (19, (.putfield 18), 3, 2, .null, []), (22, (.aload_n 0), 0, 0, .null, []), (23, (.bipush 70), 0, 0, .int (70), []), (25, (.newarray .int), 0, 0, .null, []), (27, (.putfield 22), 3, 3, .null, []), (30, (.aload_n 0), 0, 0, .null, []), (31, (.bipush 7), 0, 0, .int (7), []), (33, (.newarray .int), 0, 0, .null, []), (35, (.putfield 25), 3, 4, .null, []), (38, (.aload_n 0), 0, 0, .null, []), (39, (.bipush 28), 0, 0, .int (28), []), (41, (.newarray .int), 0, 0, .null, []), (43, (.putfield 28), 3, 5, .null, []), (46, (.aload_n 0), 0, 0, .null, []), (47, (.bipush 7), 0, 0, .int (7), []), (49, (.newarray .int), 0, 0, .null, []), (51, (.putfield 31), 3, 6, .null, []), (54, (.aload_n 0), 0, 0, .null, []), (55, (.iconst 2), 0, 0, .int (2), []), (56, (.newarray .int), 0, 0, .null, []), (58, .dup, 0, 0, .null, []), (59, (.iconst 0), 0, 0, .int (0), []), (60, (.iconst 1), 0, 0, .int (1), []), (61, .iastore, 0, 0, .null, []), (62, .dup, 0, 0, .null, []), (63, (.iconst 1), 0, 0, .int (1), []), (64, (.iconst 0), 0, 0, .int (0), []), (65, .iastore, 0, 0, .null, []), (66, (.putfield 34), 3, 7, .null, []), (69, .return_, 0, 0, .null, [])]
-- 34: X3_copyFrom (LScrollPieces$Scroll;)V
def cd_34 : List (Nat × hx_CE) := [(0, (.aload_n 0), 0, 0, .null, []), (1, (.aload_n 1), 0, 0, .null, []), (2, (.getfield 9), 3, 0, .null, []), (5, (.putfield 9), 3, 0, .null, []), (8, (.aload_n 0), 0, 0, .null, []), (9, (.aload_n 1), 0, 0, .null, []), (10, (.getfield 15), 3, 1, .null, []), (13, (.putfield 15), 3, 1, .null, []), (16, (.aload_n 1), 0, 0, .null, []), (17, (.getfield 18), 3, 2, .null, []), (20, (.iconst 0), 0, 0, .int (0), []), (21, (.aload_n 0), 0, 0, .null, []), (22, (.getfield 18), 3, 2, .null, []), (25, (.iconst 0), 0, 0, .int (0), []), (26, (.bipush 7), 0, 0, .int (7), []), (28, (.invokestatic 37), 0, 0, .null, [3]), (31, (.aload_n 1), 0, 0, .null, []), (32, (.getfield 22), 3, 3, .null, []), (35, (.iconst 0), 0, 0, .int (0), []), (36, (.aload_n 0), 0, 0, .null, []), (37, (.getfield 22), 3, 3, .null, []), (40, (.iconst 0), 0, 0, .int (0), []), (41, (.bipush 70), 0, 0, .int (70), []), (43, (.invokestatic 37), 0, 0, .null, [3]), (46, (.aload_n 1), 0, 0, .null, []), (47, (.getfield 25), 3, 4, .null, []), (50, (.iconst 0), 0, 0, .int (0), []), (51, (.aload_n 0), 0, 0, .null, []), (52, (.getfield 25), 3, 4, .null, []), (55, (.iconst 0), 0, 0, .int (0), []), (56, (.bipush 7), 0, 0, .int (7), []), (58, (.invokestatic 37), 0, 0, .null, [3]), (61, (.aload_n 1), 0, 0, .null, []), (62, (.getfield 28), 3, 5, .null, []), (65, (.iconst 0), 0, 0, .int (0), []), (66, (.aload_n 0), 0, 0, .null, []), (67, (.getfield 28), 3, 5, .null, []), (70, (.iconst 0), 0, 0, .int (0), []), (71, (.bipush 28), 0, 0, .int (28), []), (73, (.invokestatic 37), 0, 0, .null, [3]), (76, (.aload_n 1), 0, 0, .null, []), (77, (.getfield 31), 3, 6, .null, []), (80, (.iconst 0), 0, 0, .int (0), []), (81, (.aload_n 0), 0, 0, .null, []), (82, (.getfield 31), 3, 6, .null, []), (85, (.iconst 0), 0, 0, .int (0), []), (86, (.bipush 7), 0, 0, .int (7), []), (88, (.invokestatic 37), 0, 0, .null, [3]), (91, (.aload_n 1), 0, 0, .null, []), (92, (.getfield 34), 3, 7, .null, []), (95, (.iconst 0), 0, 0, .int (0), []), (96, (.aload_n 0), 0, 0, .null, []), (97, (.getfield 34), 3, 7, .null, []), (100, (.iconst 0), 0, 0, .int (0), []), (101, (.iconst 2), 0, 0, .int (2), []), (102, (.invokestatic 37), 0, 0, .null, [3]), (105, .return_, 0, 0, .null, [])]
-- 35: X3_addPiece (I)I
def cd_35 : List (Nat × hx_CE) := [(0, (.aload_n 0), 0, 0, .null, []), (1, (.getfield 9), 3, 0, .null, []), (4, (.istore_n 2), 0, 0, .null, [3]), (5, (.aload_n 0), 0, 0, .null, []), (6, (.getfield 18), 3, 2, .null, []), (9, (.iload_n 2), 0, 0, .null, []), (10, (.iload_n 1), 0, 0, .null, []), (11, .iastore, 0, 0, .null, []), (12, (.iconst 0), 0, 0, .int (0), []), (13, (.istore_n 3), 0, 0, .null, [1]), (14, (.iload_n 3), 0, 0, .null, []), (15, (.bipush 10), 0, 0, .int (10), []), (17, (.if_icmp .ge 21), 38, 0, .null, []), (20, (.aload_n 0), 0, 0, .null, []), (21, (.getfield 22), 3, 3, .null, []), (24, (.iload_n 2), 0, 0, .null, []), (25, (.bipush 10), 0, 0, .int (10), []), (27, .imul, 0, 0, .null, []), (28, (.iload_n 3), 0, 0, .null, []), (29, .iadd, 0, 0, .null, []), (30, (.iconst 0), 0, 0, .int (0), []), (31, .iastore, 0, 0, .null, []), (32, (.iinc 3 1), 0, 0, .null, [1]), (35, (.goto (-21)), 14, 0, .null, [1]), (38, (.aload_n 0), 0, 0, .null, []), (39, (.getfield 25), 3, 4, .null, []), (42, (.iload_n 2), 0, 0, .null, []), (43, (.iconst 0), 0, 0, .int (0), []), (44, .iastore, 0, 0, .null, []), (45, (.aload_n 0), 0, 0, .null, []), (46, (.getfield 31), 3, 6, .null, []), (49, (.iload_n 2), 0, 0, .null, []), (50, (.iload_n 2), 0, 0, .null, []), (51, .iastore, 0, 0, .null, []), (52, (.aload_n 0), 0, 0, .null, []), (53, .dup, 0, 0, .null, []), (54, (.getfield 9), 3, 0, .null, []), (57, (.iconst 1), 0, 0, .int (1), []), (58, .iadd, 0, 0, .null, []), (59, (.putfield 9), 3, 0, .null, []), (62, (.iload_n 2), 0, 0, .null, []), (63, .ireturn, 0, 0, .null, [])]
-- 36: X3_takeAway (I)V
def cd_36 : List (Nat × hx_CE) := [(0, (.aload_n 0), 0, 0, .null, []), (1, (.getfield 9), 3, 0, .null, []), (4, (.iload_n 1), 0, 0, .null, []), (5, .isub, 0, 0, .null, []), (6, (.iconst 1), 0, 0, .int (1), []), (7, .isub, 0, 0, .null, []), (8, (.istore_n 2), 0, 0, .null, [3, 4, 5]), (9, (.aload_n 0), 0, 0, .null, []), (10, (.getfield 18), 3, 2, .null, []), (13, (.iload_n 1), 0, 0, .null, []), (14, (.iload_n 2), 0, 0, .null, []), (15, (.iconst 1), 0, 0, .int (1), []), (16, (.invokestatic 43), 37, 4, .null, []), (19, (.aload_n 0), 0, 0, .null, []), (20, (.getfield 22), 3, 3, .null, []), (23, (.iload_n 1), 0, 0, .null, []), (24, (.iload_n 2), 0, 0, .null, []), (25, (.bipush 10), 0, 0, .int (10), []), (27, (.invokestatic 43), 37, 4, .null, []), (30, (.aload_n 0), 0, 0, .null, []), (31, (.getfield 25), 3, 4, .null, []), (34, (.iload_n 1), 0, 0, .null, []), (35, (.iload_n 2), 0, 0, .null, []), (36, (.iconst 1), 0, 0, .int (1), []), (37, (.invokestatic 43), 37, 4, .null, []), (40, (.aload_n 0), 0, 0, .null, []), (41, (.getfield 28), 3, 5, .null, []), (44, (.iload_n 1), 0, 0, .null, []), (45, (.iload_n 2), 0, 0, .null, []), (46, (.iconst 4), 0, 0, .int (4), []), (47, (.invokestatic 43), 37, 4, .null, []), (50, (.iconst 0), 0, 0, .int (0), []), (51, (.istore_n 3), 0, 0, .null, [2, 4, 5]), (52, (.iconst 0), 0, 0, .int (0), []), (53, (.istore 4), 0, 0, .null, [2, 5]), (55, (.iload 4), 0, 0, .null, []), (57, (.aload_n 0), 0, 0, .null, []), (58, (.getfield 9), 3, 0, .null, []), (61, (.if_icmp .ge 48), 109, 0, .null, []), (64, (.aload_n 0), 0, 0, .null, []), (65, (.getfield 31), 3, 6, .null, []), (68, (.iload 4), 0, 0, .null, []), (70, .iaload, 0, 0, .null, []), (71, (.istore 5), 0, 0, .null, [2]), (73, (.iload 5), 0, 0, .null, []), (75, (.iload_n 1), 0, 0, .null, []), (76, (.if_icmp .eq 27), 103, 0, .null, []), (79, (.aload_n 0), 0, 0, .null, []), (80, (.getfield 31), 3, 6, .null, []), (83, (.iload_n 3), 0, 0, .null, []), (84, (.iload 5), 0, 0, .null, []), (86, (.iload_n 1), 0, 0, .null, []), (87, (.if_icmp .le 10), 97, 0, .null, []), (90, (.iload 5), 0, 0, .null, []), (92, (.iconst 1), 0, 0, .int (1), []), (93, .isub, 0, 0, .null, []), (94, (.goto 5), 99, 0, .null, [2, 5]), (97, (.iload 5), 0, 0, .null, []), (99, .iastore, 0, 0, .null, []), (100, (.iinc 3 1), 0, 0, .null, [2, 5]), (103, (.iinc 4 1), 0, 0, .null, [2, 5]), (106, (.goto (-51)), 55, 0, .null, [2, 5]), (109, (.aload_n 0), 0, 0, .null, []), (110, (.iload_n 3), 0, 0, .null, []), (111, (.putfield 9), 3, 0, .null, []), (114, .return_, 0, 0, .null, [])]
-- 37: X3_closeGap ([IIII)V
def cd_37 : List (Nat × hx_CE) := [(0, (.aload_n 0), 0, 0, .null, []), (1, (.iload_n 1), 0, 0, .null, []), (2, (.iconst 1), 0, 0, .int (1), []), (3, .iadd, 0, 0, .null, []), (4, (.iload_n 3), 0, 0, .null, []), (5, .imul, 0, 0, .null, []), (6, (.aload_n 0), 0, 0, .null, []), (7, (.iload_n 1), 0, 0, .null, []), (8, (.iload_n 3), 0, 0, .null, []), (9, .imul, 0, 0, .null, []), (10, (.iload_n 2), 0, 0, .null, []), (11, (.iload_n 3), 0, 0, .null, []), (12, .imul, 0, 0, .null, []), (13, (.invokestatic 37), 0, 0, .null, [3]), (16, .return_, 0, 0, .null, [])]
-- 38: X3_rowWith (II[I)V
def cd_38 : List (Nat × hx_CE) := [(0, (.iconst 0), 0, 0, .int (0), []), (1, (.istore 4), 0, 0, .null, [5]), (3, (.iconst 0), 0, 0, .int (0), []), (4, (.istore 5), 0, 0, .null, []), (6, (.iload 5), 0, 0, .null, []), (8, (.aload_n 0), 0, 0, .null, []), (9, (.getfield 9), 3, 0, .null, []), (12, (.if_icmp .ge 51), 63, 0, .null, []), (15, (.iload 5), 0, 0, .null, []), (17, (.iload_n 2), 0, 0, .null, []), (18, (.if_icmp .ne 11), 29, 0, .null, []), (21, (.aload_n 3), 0, 0, .null, []), (22, (.iload 5), 0, 0, .null, []), (24, (.iload_n 1), 0, 0, .null, []), (25, .iastore, 0, 0, .null, []), (26, (.goto 31), 57, 0, .null, []), (29, (.aload_n 0), 0, 0, .null, []), (30, (.getfield 31), 3, 6, .null, []), (33, (.iload 4), 0, 0, .null, []), (35, .iaload, 0, 0, .null, []), (36, (.iload_n 1), 0, 0, .null, []), (37, (.if_icmp .ne 6), 43, 0, .null, []), (40, (.iinc 4 1), 0, 0, .null, []), (43, (.aload_n 3), 0, 0, .null, []), (44, (.iload 5), 0, 0, .null, []), (46, (.aload_n 0), 0, 0, .null, []), (47, (.getfield 31), 3, 6, .null, []), (50, (.iload 4), 0, 0, .null, []), (52, .iaload, 0, 0, .null, []), (53, .iastore, 0, 0, .null, []), (54, (.iinc 4 1), 0, 0, .null, []), (57, (.iinc 5 1), 0, 0, .null, []), (60, (.goto (-54)), 6, 0, .null, []), (63, .return_, 0, 0, .null, [])]
-- 39: X3_hasHole (II)Z
def cd_39 : List (Nat × hx_CE) := [(0, (.iconst 0), 0, 0, .int (0), []), (1, (.istore_n 3), 0, 0, .null, []), (2, (.iload_n 3), 0, 0, .null, []), (3, (.aload_n 0), 0, 0, .null, []), (4, (.getfield 25), 3, 4, .null, []), (7, (.iload_n 1), 0, 0, .null, []), (8, .iaload, 0, 0, .null, []), (9, (.if_icmp .ge 25), 34, 0, .null, []), (12, (.aload_n 0), 0, 0, .null, []), (13, (.getfield 28), 3, 5, .null, []), (16, (.iload_n 1), 0, 0, .null, []), (17, (.iconst 4), 0, 0, .int (4), []), (18, .imul, 0, 0, .null, []), (19, (.iload_n 3), 0, 0, .null, []), (20, .iadd, 0, 0, .null, []), (21, .iaload, 0, 0, .null, []), (22, (.iload_n 2), 0, 0, .null, []), (23, (.if_icmp .ne 5), 28, 0, .null, []), (26, (.iconst 1), 0, 0, .int (1), []), (27, .ireturn, 0, 0, .null, []), (28, (.iinc 3 1), 0, 0, .null, []), (31, (.goto (-29)), 2, 0, .null, []), (34, (.iconst 0), 0, 0, .int (0), []), (35, .ireturn, 0, 0, .null, [])]
-- 40: X3_openHole (II)V
def cd_40 : List (Nat × hx_CE) := [(0, (.iload_n 1), 0, 0, .null, []), (1, (.iconst 4), 0, 0, .int (4), []), (2, .imul, 0, 0, .null, []), (3, (.istore_n 3), 0, 0, .null, [4]), (4, (.iload_n 3), 0, 0, .null, []), (5, (.aload_n 0), 0, 0, .null, []), (6, (.getfield 25), 3, 4, .null, []), (9, (.iload_n 1), 0, 0, .null, []), (10, .iaload, 0, 0, .null, []), (11, .iadd, 0, 0, .null, []), (12, (.istore 4), 0, 0, .null, []), (14, (.iload 4), 0, 0, .null, []), (16, (.iload_n 3), 0, 0, .null, []), (17, (.if_icmp .le 38), 55, 0, .null, []), (20, (.aload_n 0), 0, 0, .null, []), (21, (.getfield 28), 3, 5, .null, []), (24, (.iload 4), 0, 0, .null, []), (26, (.iconst 1), 0, 0, .int (1), []), (27, .isub, 0, 0, .null, []), (28, .iaload, 0, 0, .null, []), (29, (.iload_n 2), 0, 0, .null, []), (30, (.if_icmp .le 25), 55, 0, .null, []), (33, (.aload_n 0), 0, 0, .null, []), (34, (.getfield 28), 3, 5, .null, []), (37, (.iload 4), 0, 0, .null, []), (39, (.aload_n 0), 0, 0, .null, []), (40, (.getfield 28), 3, 5, .null, []), (43, (.iload 4), 0, 0, .null, []), (45, (.iconst 1), 0, 0, .int (1), []), (46, .isub, 0, 0, .null, []), (47, .iaload, 0, 0, .null, []), (48, .iastore, 0, 0, .null, []), (49, (.iinc 4 (-1)), 0, 0, .null, []), (52, (.goto (-38)), 14, 0, .null, []), (55, (.aload_n 0), 0, 0, .null, []), (56, (.getfield 28), 3, 5, .null, []), (59, (.iload 4), 0, 0, .null, []), (61, (.iload_n 2), 0, 0, .null, []), (62, .iastore, 0, 0, .null, []), (63, (.aload_n 0), 0, 0, .null, []), (64, (.getfield 25), 3, 4, .null, []), (67, (.iload_n 1), 0, 0, .null, []), (68, .dup2, 0, 0, .null, []), (69, .iaload, 0, 0, .null, []), (70, (.iconst 1), 0, 0, .int (1), []), (71, .iadd, 0, 0, .null, []), (72, .iastore, 0, 0, .null, []), (73, .return_, 0, 0, .null, [])]
-- 41: X3_closeHole (II)V
def cd_41 : List (Nat × hx_CE) := [(0, (.iconst 0), 0, 0, .int (0), []), (1, (.istore_n 3), 0, 0, .null, [4, 5]), (2, (.iconst 0), 0, 0, .int (0), []), (3, (.istore 4), 0, 0, .null, [5]), (5, (.iload 4), 0, 0, .null, []), (7, (.aload_n 0), 0, 0, .null, []), (8, (.getfield 25), 3, 4, .null, []), (11, (.iload_n 1), 0, 0, .null, []), (12, .iaload, 0, 0, .null, []), (13, (.if_icmp .ge 43), 56, 0, .null, []), (16, (.aload_n 0), 0, 0, .null, []), (17, (.getfield 28), 3, 5, .null, []), (20, (.iload_n 1), 0, 0, .null, []), (21, (.iconst 4), 0, 0, .int (4), []), (22, .imul, 0, 0, .null, []), (23, (.iload 4), 0, 0, .null, []), (25, .iadd, 0, 0, .null, []), (26, .iaload, 0, 0, .null, []), (27, (.istore 5), 0, 0, .null, []), (29, (.iload 5), 0, 0, .null, []), (31, (.iload_n 2), 0, 0, .null, []), (32, (.if_icmp .eq 18), 50, 0, .null, []), (35, (.aload_n 0), 0, 0, .null, []), (36, (.getfield 28), 3, 5, .null, []), (39, (.iload_n 1), 0, 0, .null, []), (40, (.iconst 4), 0, 0, .int (4), []), (41, .imul, 0, 0, .null, []), (42, (.iload_n 3), 0, 0, .null, []), (43, .iadd, 0, 0, .null, []), (44, (.iload 5), 0, 0, .null, []), (46, .iastore, 0, 0, .null, []), (47, (.iinc 3 1), 0, 0, .null, [5]), (50, (.iinc 4 1), 0, 0, .null, [5]), (53, (.goto (-48)), 5, 0, .null, [5]), (56, (.aload_n 0), 0, 0, .null, []), (57, (.getfield 25), 3, 4, .null, []), (60, (.iload_n 1), 0, 0, .null, []), (61, (.iload_n 3), 0, 0, .null, []), (62, .iastore, 0, 0, .null, []), (63, .return_, 0, 0, .null, [])]
-- 42: X3_property (II)I
def cd_42 : List (Nat × hx_CE) := [(0, (.iload_n 2), 0, 0, .null, []), (1, (.ifCond .ne 10), 11, 0, .null, []), (4, (.aload_n 0), 0, 0, .null, []), (5, (.getfield 18), 3, 2, .null, []), (8, (.iload_n 1), 0, 0, .null, []), (9, .iaload, 0, 0, .null, []), (10, .ireturn, 0, 0, .null, []), (11, (.iload_n 2), 0, 0, .null, []), (12, (.bipush 10), 0, 0, .int (10), []), (14, (.if_icmp .gt 17), 31, 0, .null, []), (17, (.aload_n 0), 0, 0, .null, []), (18, (.getfield 22), 3, 3, .null, []), (21, (.iload_n 1), 0, 0, .null, []), (22, (.bipush 10), 0, 0, .int (10), []), (24, .imul, 0, 0, .null, []), (25, (.iload_n 2), 0, 0, .null, []), (26, .iadd, 0, 0, .null, []), (27, (.iconst 1), 0, 0, .int (1), []), (28, .isub, 0, 0, .null, []), (29, .iaload, 0, 0, .null, []), (30, .ireturn, 0, 0, .null, []), (31, (.iload_n 2), 0, 0, .null, []), (32, (.bipush 11), 0, 0, .int (11), []), (34, (.if_icmp .ne 10), 44, 0, .null, []), (37, (.aload_n 0), 0, 0, .null, []), (38, (.getfield 25), 3, 4, .null, []), (41, (.iload_n 1), 0, 0, .null, []), (42, .iaload, 0, 0, .null, []), (43, .ireturn, 0, 0, .null, []), (44, (.aload_n 0), 0, 0, .null, []), (45, (.iload_n 1), 0, 0, .null, []), (46, (.invokevirtual 47), 43, 2, .null, [3]), (49, (.istore_n 3), 0, 0, .null, [1]), (50, (.iload_n 2), 0, 0, .null, []), (51, (.bipush 12), 0, 0, .int (12), []), (53, (.if_icmp .ne 7), 60, 0, .null, []), (56, (.iload_n 3), 0, 0, .null, []), (57, (.goto 8), 65, 0, .null, [0, 1, 2, 3]), (60, (.aload_n 0), 0, 0, .null, []), (61, (.iload_n 3), 0, 0, .null, []), (62, (.invokevirtual 51), 44, 2, .null, [3]), (65, .ireturn, 0, 0, .null, [])]
-- 43: X3_placeOf (I)I
def cd_43 : List (Nat × hx_CE) := [(0, (.iconst 0), 0, 0, .int (0), []), (1, (.istore_n 2), 0, 0, .null, []), (2, (.iload_n 2), 0, 0, .null, []), (3, (.aload_n 0), 0, 0, .null, []), (4, (.getfield 9), 3, 0, .null, []), (7, (.if_icmp .ge 21), 28, 0, .null, []), (10, (.aload_n 0), 0, 0, .null, []), (11, (.getfield 31), 3, 6, .null, []), (14, (.iload_n 2), 0, 0, .null, []), (15, .iaload, 0, 0, .null, []), (16, (.iload_n 1), 0, 0, .null, []), (17, (.if_icmp .ne 5), 22, 0, .null, []), (20, (.iload_n 2), 0, 0, .null, []), (21, .ireturn, 0, 0, .null, []), (22, (.iinc 2 1), 0, 0, .null, []), (25, (.goto (-23)), 2, 0, .null, []), (28, (.iconst (-1)), 0, 0, .int (-1), []), (29, .ireturn, 0, 0, .null, [])]
-- 44: X3_beginAt (I)I
def cd_44 : List (Nat × hx_CE) := [(0, (.iconst 0), 0, 0, .int (0), []), (1, (.istore_n 2), 0, 0, .null, [3]), (2, (.iconst 0), 0, 0, .int (0), []), (3, (.istore_n 3), 0, 0, .null, []), (4, (.iload_n 3), 0, 0, .null, []), (5, (.iload_n 1), 0, 0, .null, []), (6, (.if_icmp .ge 23), 29, 0, .null, []), (9, (.iload_n 2), 0, 0, .null, []), (10, (.aload_n 0), 0, 0, .null, []), (11, (.getfield 18), 3, 2, .null, []), (14, (.aload_n 0), 0, 0, .null, []), (15, (.getfield 31), 3, 6, .null, []), (18, (.iload_n 3), 0, 0, .null, []), (19, .iaload, 0, 0, .null, []), (20, .iaload, 0, 0, .null, []), (21, .iadd, 0, 0, .null, []), (22, (.istore_n 2), 0, 0, .null, []), (23, (.iinc 3 1), 0, 0, .null, []), (26, (.goto (-22)), 4, 0, .null, []), (29, (.iload_n 2), 0, 0, .null, []), (30, .ireturn, 0, 0, .null, [])]
-- 45: X3_widthOfRow ()I
def cd_45 : List (Nat × hx_CE) := [(0, (.aload_n 0), 0, 0, .null, []), (1, (.aload_n 0), 0, 0, .null, []), (2, (.getfield 9), 3, 0, .null, []), (5, (.invokevirtual 51), 44, 2, .null, [3]), (8, .ireturn, 0, 0, .null, [])]
-- 46: X3_costOfJoin (II)I
def cd_46 : List (Nat × hx_CE) := [(0, (.iload_n 1), 0, 0, .null, []), (1, (.bipush 10), 0, 0, .int (10), []), (3, .imul, 0, 0, .null, []), (4, (.iconst 5), 0, 0, .int (5), []), (5, .iadd, 0, 0, .null, []), (6, (.istore_n 3), 0, 0, .null, [1, 4, 5, 6]), (7, (.iload_n 2), 0, 0, .null, []), (8, (.bipush 10), 0, 0, .int (10), []), (10, .imul, 0, 0, .null, []), (11, (.istore 4), 0, 0, .null, [1, 2, 5, 6]), (13, (.iconst 2), 0, 0, .int (2), []), (14, (.aload_n 0), 0, 0, .null, []), (15, (.getfield 22), 3, 3, .null, []), (18, (.iload_n 3), 0, 0, .null, []), (19, (.iconst 4), 0, 0, .int (4), []), (20, .iadd, 0, 0, .null, []), (21, .iaload, 0, 0, .null, []), (22, (.aload_n 0), 0, 0, .null, []), (23, (.getfield 22), 3, 3, .null, []), (26, (.iload 4), 0, 0, .null, []), (28, (.iconst 4), 0, 0, .int (4), []), (29, .iadd, 0, 0, .null, []), (30, .iaload, 0, 0, .null, []), (31, .isub, 0, 0, .null, []), (32, (.invokestatic 54), 0, 0, .null, [1]), (35, .imul, 0, 0, .null, []), (36, (.istore 5), 0, 0, .null, [1, 2, 6]), (38, (.iconst 0), 0, 0, .int (0), []), (39, (.istore 6), 0, 0, .null, [1, 2]), (41, (.iload 6), 0, 0, .null, []), (43, (.iconst 4), 0, 0, .int (4), []), (44, (.if_icmp .ge 39), 83, 0, .null, []), (47, (.iload 5), 0, 0, .null, []), (49, (.aload_n 0), 0, 0, .null, []), (50, (.getfield 22), 3, 3, .null, []), (53, (.iload_n 3), 0, 0, .null, []), (54, (.iload 6), 0, 0, .null, []), (56, .iadd, 0, 0, .null, []), (57, .iaload, 0, 0, .null, []), (58, (.aload_n 0), 0, 0, .null, []), (59, (.getfield 22), 3, 3, .null, []), (62, (.iload 4), 0, 0, .null, []), (64, (.iload 6), 0, 0, .null, []), (66, .iadd, 0, 0, .null, []), (67, .iaload, 0, 0, .null, []), (68, .iadd, 0, 0, .null, []), (69, (.iconst 5), 0, 0, .int (5), []), (70, .isub, 0, 0, .null, []), (71, (.invokestatic 54), 0, 0, .null, [1]), (74, .iadd, 0, 0, .null, []), (75, (.istore 5), 0, 0, .null, [1, 2]), (77, (.iinc 6 1), 0, 0, .null, [1, 2]), (80, (.goto (-39)), 41, 0, .null, [1, 2]), (83, (.iload 5), 0, 0, .null, []), (85, .ireturn, 0, 0, .null, [])]
-- 47: X3_costOfRow ([I)I
def cd_47 : List (Nat × hx_CE) := [(0, (.iconst 0), 0, 0, .int (0), []), (1, (.istore_n 2), 0, 0, .null, [3]), (2, (.iconst 1), 0, 0, .int (1), []), (3, (.istore_n 3), 0, 0, .null, []), (4, (.iload_n 3), 0, 0, .null, []), (5, (.aload_n 0), 0, 0, .null, []), (6, (.getfield 9), 3, 0, .null, []), (9, (.if_icmp .ge 24), 33, 0, .null, []), (12, (.iload_n 2), 0, 0, .null, []), (13, (.aload_n 0), 0, 0, .null, []), (14, (.aload_n 1), 0, 0, .null, []), (15, (.iload_n 3), 0, 0, .null, []), (16, (.iconst 1), 0, 0, .int (1), []), (17, .isub, 0, 0, .null, []), (18, .iaload, 0, 0, .null, []), (19, (.aload_n 1), 0, 0, .null, []), (20, (.iload_n 3), 0, 0, .null, []), (21, .iaload, 0, 0, .null, []), (22, (.invokevirtual 59), 46, 3, .null, [3]), (25, .iadd, 0, 0, .null, []), (26, (.istore_n 2), 0, 0, .null, []), (27, (.iinc 3 1), 0, 0, .null, []), (30, (.goto (-26)), 4, 0, .null, []), (33, (.iload_n 2), 0, 0, .null, []), (34, .ireturn, 0, 0, .null, [])]
-- 48: X3_cheapestBehind (I)I
def cd_48 : List (Nat × hx_CE) := [(0, (.iconst (-1)), 0, 0, .int (-1), []), (1, (.istore_n 2), 0, 0, .null, [3, 4, 5]), (2, (.sipush 1000), 0, 0, .int (1000), []), (5, (.istore_n 3), 0, 0, .null, [4, 5]), (6, (.iconst 0), 0, 0, .int (0), []), (7, (.istore 4), 0, 0, .null, [5]), (9, (.iload 4), 0, 0, .null, []), (11, (.aload_n 0), 0, 0, .null, []), (12, (.getfield 9), 3, 0, .null, []), (15, (.if_icmp .ge 36), 51, 0, .null, []), (18, (.aload_n 0), 0, 0, .null, []), (19, (.iload_n 1), 0, 0, .null, []), (20, (.iload 4), 0, 0, .null, []), (22, (.invokevirtual 59), 46, 3, .null, [3]), (25, (.istore 5), 0, 0, .null, []), (27, (.iload 4), 0, 0, .null, []), (29, (.iload_n 1), 0, 0, .null, []), (30, (.if_icmp .eq 15), 45, 0, .null, []), (33, (.iload 5), 0, 0, .null, []), (35, (.iload_n 3), 0, 0, .null, []), (36, (.if_icmp .ge 9), 45, 0, .null, []), (39, (.iload 5), 0, 0, .null, []), (41, (.istore_n 3), 0, 0, .null, [2, 5]), (42, (.iload 4), 0, 0, .null, []), (44, (.istore_n 2), 0, 0, .null, [5]), (45, (.iinc 4 1), 0, 0, .null, [5]), (48, (.goto (-39)), 9, 0, .null, [5]), (51, (.iload_n 2), 0, 0, .null, []), (52, .ireturn, 0, 0, .null, [])]
-- 49: X3_leadOfCheapest (I)I
def cd_49 : List (Nat × hx_CE) := [(0, (.aload_n 0), 0, 0, .null, []), (1, (.getfield 9), 3, 0, .null, []), (4, (.iconst 3), 0, 0, .int (3), []), (5, (.if_icmp .ge 5), 10, 0, .null, []), (8, (.iconst (-1)), 0, 0, .int (-1), []), (9, .ireturn, 0, 0, .null, []), (10, (.aload_n 0), 0, 0, .null, []), (11, (.iload_n 1), 0, 0, .null, []), (12, (.invokevirtual 63), 48, 2, .null, [3]), (15, (.istore_n 2), 0, 0, .null, [3, 4]), (16, (.sipush 1000), 0, 0, .int (1000), []), (19, (.istore_n 3), 0, 0, .null, [4]), (20, (.iconst 0), 0, 0, .int (0), []), (21, (.istore 4), 0, 0, .null, []), (23, (.iload 4), 0, 0, .null, []), (25, (.aload_n 0), 0, 0, .null, []), (26, (.getfield 9), 3, 0, .null, []), (29, (.if_icmp .ge 33), 62, 0, .null, []), (32, (.iload 4), 0, 0, .null, []), (34, (.iload_n 1), 0, 0, .null, []), (35, (.if_icmp .eq 21), 56, 0, .null, []), (38, (.iload 4), 0, 0, .null, []), (40, (.iload_n 2), 0, 0, .null, []), (41, (.if_icmp .eq 15), 56, 0, .null, []), (44, (.iload_n 3), 0, 0, .null, []), (45, (.aload_n 0), 0, 0, .null, []), (46, (.iload_n 1), 0, 0, .null, []), (47, (.iload 4), 0, 0, .null, []), (49, (.invokevirtual 59), 46, 3, .null, [3]), (52, (.invokestatic 66), 0, 0, .null, [2]), (55, (.istore_n 3), 0, 0, .null, []), (56, (.iinc 4 1), 0, 0, .null, []), (59, (.goto (-36)), 23, 0, .null, []), (62, (.iload_n 3), 0, 0, .null, []), (63, (.aload_n 0), 0, 0, .null, []), (64, (.iload_n 1), 0, 0, .null, []), (65, (.iload_n 2), 0, 0, .null, []), (66, (.invokevirtual 59), 46, 3, .null, [3]), (69, .isub, 0, 0, .null, []), (70, .ireturn, 0, 0, .null, [])]
-- 50: X4_init ()V
def cd_50 : List (Nat × hx_CE) := [(0, (.aload_n 0), 0, 0, .null, []), (1, (.invokespecial 3), 0, 0, .null, [0, 0]), (4, (.aload_n 0), 0, 0, .null, []), (5, (.new 9), 3, 0, .null, []), (8, .dup, 0, 0, .null, []), (9, (.invokespecial 11), 33, 1, .long 0, [3]), (12, (.putfield 12), 4, 0, .null, []), (15, (.aload_n 0), 0, 0, .null, []), (16, (.bipush 6), 0, 0, .int (6), []), (18, (.anewarray 9), 0, 0, .null, []), (21, (.putfield 16), 4, 1, .null, []), (24, (.aload_n 0), 0, 0, .null, []), (25, (.iconst 0), 0, 0, .int (0), []), (26, (.putfield 20), 4, 2, .null, []), (29, (.aload_n 0), 0, 0, .null, []), (30, (.iconst 0), 0, 0, .int (0), []), (31, (.putfield 24), 4, 3, .null, []), (34, (.aload_n 0), 0, 0, .null, []), (35, (.iconst 2), 0, 0, .int (2), []), (36, (.anewarray 9), 0, 0, .null, []), (39, (.putfield 27), 4, 4, .null, []), (42, (.aload_n 0), 0, 0, .null, []), (43, (.iconst 2), 0, 0, .int (2), []), (44, (.newarray .boolean), 0, 0, .null, []), (46, (.putfield 30), 4, 5, .null, []), (49, (.aload_n 0), 0, 0, .null, []), (50, (.bipush 60), 0, 0, .int (60), []), (52, (.newarray .char), 0, 0, .null, []), (54, (.putfield 34), 4, 6, .null, []), (57, (.aload_n 0), 0, 0, .null, []), (58, (.iconst 0), 0, 0, .int (0), []), (59, (.putfield 38), 4, 7, .null, []), (62, (.aload_n 0), 0, 0, .null, []), (63, (.new 41), 2, 0, .null, []), (66, .dup, 0, 0, .null, []), (67, (.invokespecial 43), 19, 1, .long 0, [2]), (70, (.putfield 44), 4, 8, .null, []), (73, (.aload_n 0), 0, 0, .null, []), (74, (.new 48), 0, 0, .null, []), (77, .dup, 0, 0, .null, []), (78, (.invokespecial 50), 0, 1, .long 0, [0]), (81, (.putfield 51), 4, 9, .null, []), (84, (.aload_n 0), 0, 0, .null, []), (85, (.new 55), 1, 0, .null, []), (88, .dup, 0, 0, .null, []), (89, (.invokespecial 57), 9, 1, .long 0, [1]), (92, (.putfield 58), 4, 10, .null, []), (95, (.aload_n 0), 0, 0, .null, []), (96, (.bipush 7), 0, 0, .int (7), []), (98, (.newarray .int), 0, 0, .null, []), (100, (.putfield 62), 4, 11, .null, []), (103, (.iconst 0), 0, 0, .int (0), []), (104, (.istore_n 1), 0, 0, .null, []), (105, (.iload_n 1), 0, 0, .null, []), (106, (.bipush 6), 0, 0, .int (6), []), (108, (.if_icmp .ge 22), 130, 0, .null, []), (111, (.aload_n 0), 0, 0, .null, []), (112, (.getfield 16), 4, 1, .null, []), (115, (.iload_n 1), 0, 0, .null, []), (116, (.new 9), 3, 0, .null, []), (119, .dup, 0, 0, .null, []), (120, (.invokespecial 11), 33, 1, .long 0, [3]), (123, .aastore, 0, 0, .null, []), (124, (.iinc 1 1), 0, 0, .null, []), (127, (.goto (-22)), 105, 0, .null, []), (130, (.iconst 0), 0, 0, .int (0), []), (131, (.istore_n 1), 0, 0, .null, []), (132, (.iload_n 1), 0, 0, .null, []), (133, (.iconst 2), 0, 0, .int (2), []), (134, (.if_icmp .ge 22), 156, 0, .null, []), (137, (.aload_n 0), 0, 0, .null, []), (138, (.getfield 27), 4, 4, .null, []), (141, (.iload_n 1), 0, 0, .null, []), (142, (.new 9), 3, 0, .null, []), (145, .dup, 0, 0, .null, []), (146, (.invokespecial 11), 33, 1, .long 0, [3]), (149, .aastore, 0, 0, .null, []), (150, (.iinc 1 1), 0, 0, .null, []), (153, (.goto (-21)), 132, 0, .null, []), (156, .return_, 0, 0, .null, [])]
-- 51: X4_add (I)I
def cd_51 : List (Nat × hx_CE) := [(0, (.iload_n 1), 0, 0, .null, []), (1, (.iconst 1), 0, 0, .int (1), []), (2, (.if_icmp .lt 9), 11, 0, .null, []), (5, (.iload_n 1), 0, 0, .null, []), (6, (.bipush 60), 0, 0, .int (60), []), (8, (.if_icmp .le 13), 21, 0, .null, []), (11, (.new 66), 0, 0, .null, [68, 70, 2]), (14, .dup, 0, 0, .null, []), (20, .athrow, 0, 0, .null, []), (21, (.aload_n 0), 0, 0, .null, []), (22, (.getfield 12), 4, 0, .null, []), (25, (.getfield 73), 3, 0, .null, []), (28, (.bipush 7), 0, 0, .int (7), []), (30, (.if_icmp .lt 13), 43, 0, .null, []), (33, (.new 76), 1, 1, .null, [78, 80, 2]), (36, .dup, 0, 0, .null, []), (42, .athrow, 0, 0, .null, []), (43, (.aload_n 0), 0, 0, .null, []), (44, (.invokevirtual 81), 85, 1, .null, [4]), (47, (.aload_n 0), 0, 0, .null, []), (48, (.getfield 12), 4, 0, .null, []), (51, (.iload_n 1), 0, 0, .null, []), (52, (.invokevirtual 84), 35, 2, .null, [3]), (55, .ireturn, 0, 0, .null, [])]
-- 52: X4_tear (IIII)I
def cd_52 : List (Nat × hx_CE) := [(0, (.aload_n 0), 0, 0, .null, []), (1, (.iload_n 1), 0, 0, .null, []), (2, (.invokevirtual 88), 80, 2, .null, [4]), (5, (.iload_n 3), 0, 0, .null, []), (6, (.ifCond .lt 8), 14, 0, .null, []), (9, (.iload_n 3), 0, 0, .null, []), (10, (.iconst 4), 0, 0, .int (4), []), (11, (.if_icmp .lt 13), 24, 0, .null, []), (14, (.new 66), 0, 2, .null, [92, 70, 2]), (17, .dup, 0, 0, .null, []), (23, .athrow, 0, 0, .null, []), (24, (.aload_n 0), 0, 0, .null, []), (25, (.iload_n 1), 0, 0, .null, []), (26, (.iload_n 2), 0, 0, .null, []), (27, (.iload_n 3), 0, 0, .null, []), (28, (.iload 4), 0, 0, .null, []), (30, (.iconst 5), 0, 0, .int (5), []), (31, (.invokevirtual 94), 84, 6, .null, [4]), (34, .ireturn, 0, 0, .null, [])]
-- 53: X4_fibre (III)I
def cd_53 : List (Nat × hx_CE) := [(0, (.aload_n 0), 0, 0, .null, []), (1, (.iload_n 1), 0, 0, .null, []), (2, (.invokevirtual 88), 80, 2, .null, [4]), (5, (.aload_n 0), 0, 0, .null, []), (6, (.iload_n 1), 0, 0, .null, []), (7, (.iload_n 2), 0, 0, .null, []), (8, (.iconst 4), 0, 0, .int (4), []), (9, (.iload_n 3), 0, 0, .null, []), (10, (.bipush 9), 0, 0, .int (9), []), (12, (.invokevirtual 94), 84, 6, .null, [4]), (15, .ireturn, 0, 0, .null, [])]
-- 54: X4_hole (II)I
def cd_54 : List (Nat × hx_CE) := [(0, (.aload_n 0), 0, 0, .null, []), (1, (.iload_n 1), 0, 0, .null, []), (2, (.invokevirtual 88), 80, 2, .null, [4]), (5, (.aload_n 0), 0, 0, .null, []), (6, (.iload_n 1), 0, 0, .null, []), (7, (.iload_n 2), 0, 0, .null, []), (8, (.invokevirtual 98), 81, 3, .null, [4]), (11, (.aload_n 0), 0, 0, .null, []), (12, (.getfield 12), 4, 0, .null, []), (15, (.iload_n 1), 0, 0, .null, []), (16, (.iload_n 2), 0, 0, .null, []), (17, (.invokevirtual 102), 39, 3, .null, [3]), (20, (.istore_n 3), 0, 0, .null, []), (21, (.iload_n 3), 0, 0, .null, []), (22, (.ifCond .ne 26), 48, 0, .null, []), (25, (.aload_n 0), 0, 0, .null, []), (26, (.getfield 12), 4, 0, .null, []), (29, (.getfield 106), 3, 4, .null, []), (32, (.iload_n 1), 0, 0, .null, []), (33, .iaload, 0, 0, .null, []), (34, (.iconst 4), 0, 0, .int (4), []), (35, (.if_icmp .lt 13), 48, 0, .null, []), (38, (.new 76), 1, 3, .null, [109, 80, 2]), (41, .dup, 0, 0, .null, []), (47, .athrow, 0, 0, .null, []), (48, (.aload_n 0), 0, 0, .null, []), (49, (.invokevirtual 81), 85, 1, .null, [4]), (52, (.iload_n 3), 0, 0, .null, []), (53, (.ifCond .eq 15), 68, 0, .null, []), (56, (.aload_n 0), 0, 0, .null, []), (57, (.getfield 12), 4, 0, .null, []), (60, (.iload_n 1), 0, 0, .null, []), (61, (.iload_n 2), 0, 0, .null, []), (62, (.invokevirtual 111), 41, 3, .null, [3]), (65, (.goto 12), 77, 0, .null, [2, 3]), (68, (.aload_n 0), 0, 0, .null, []), (69, (.getfield 12), 4, 0, .null, []), (72, (.iload_n 1), 0, 0, .null, []), (73, (.iload_n 2), 0, 0, .null, []), (74, (.invokevirtual 114), 40, 3, .null, [3]), (77, (.aload_n 0), 0, 0, .null, []), (78, (.getfield 12), 4, 0, .null, []), (81, (.getfield 106), 3, 4, .null, []), (84, (.iload_n 1), 0, 0, .null, []), (85, .iaload, 0, 0, .null, []), (86, .ireturn, 0, 0, .null, [])]
-- 55: X4_remove (I)I
def cd_55 : List (Nat × hx_CE) := [(0, (.aload_n 0), 0, 0, .null, []), (1, (.iload_n 1), 0, 0, .null, []), (2, (.invokevirtual 88), 80, 2, .null, [4]), (5, (.aload_n 0), 0, 0, .null, []), (6, (.invokevirtual 81), 85, 1, .null, [4]), (9, (.aload_n 0), 0, 0, .null, []), (10, (.getfield 12), 4, 0, .null, []), (13, (.iload_n 1), 0, 0, .null, []), (14, (.invokevirtual 117), 36, 2, .null, [3]), (17, (.aload_n 0), 0, 0, .null, []), (18, (.getfield 12), 4, 0, .null, []), (21, (.getfield 73), 3, 0, .null, []), (24, .ireturn, 0, 0, .null, [])]
-- 56: X4_move (II)I
def cd_56 : List (Nat × hx_CE) := [(0, (.aload_n 0), 0, 0, .null, []), (1, (.iload_n 1), 0, 0, .null, []), (2, (.invokevirtual 88), 80, 2, .null, [4]), (5, (.iload_n 2), 0, 0, .null, []), (6, (.ifCond .lt 14), 20, 0, .null, []), (9, (.iload_n 2), 0, 0, .null, []), (10, (.aload_n 0), 0, 0, .null, []), (11, (.getfield 12), 4, 0, .null, []), (14, (.getfield 73), 3, 0, .null, []), (17, (.if_icmp .lt 13), 30, 0, .null, []), (20, (.new 66), 0, 4, .null, [120, 70, 2]), (23, .dup, 0, 0, .null, []), (29, .athrow, 0, 0, .null, []), (30, (.aload_n 0), 0, 0, .null, []), (31, (.invokevirtual 81), 85, 1, .null, [4]), (34, (.aload_n 0), 0, 0, .null, []), (35, (.getfield 12), 4, 0, .null, []), (38, (.iload_n 1), 0, 0, .null, []), (39, (.iload_n 2), 0, 0, .null, []), (40, (.aload_n 0), 0, 0, .null, []), (41, (.getfield 62), 4, 11, .null, []), (44, (.invokevirtual 122), 38, 4, .null, [3]), (47, (.aload_n 0), 0, 0, .null, []), (48, (.getfield 62), 4, 11, .null, []), (51, (.iconst 0), 0, 0, .int (0), []), (52, (.aload_n 0), 0, 0, .null, []), (53, (.getfield 12), 4, 0, .null, []), (56, (.getfield 126), 3, 6, .null, []), (59, (.iconst 0), 0, 0, .int (0), []), (60, (.aload_n 0), 0, 0, .null, []), (61, (.getfield 12), 4, 0, .null, []), (64, (.getfield 73), 3, 0, .null, []), (67, (.invokestatic 129), 0, 0, .null, [3]), (70, (.aload_n 0), 0, 0, .null, []), (71, (.getfield 12), 4, 0, .null, []), (74, .dup, 0, 0, .null, []), (75, (.getfield 135), 3, 1, .null, []), (78, (.iconst 1), 0, 0, .int (1), []), (79, .iadd, 0, 0, .null, []), (80, (.putfield 135), 3, 1, .null, []), (83, (.aload_n 0), 0, 0, .null, []), (84, (.getfield 12), 4, 0, .null, []), (87, (.aload_n 0), 0, 0, .null, []), (88, (.getfield 12), 4, 0, .null, []), (91, (.getfield 126), 3, 6, .null, []), (94, (.invokevirtual 138), 47, 2, .null, [3]), (97, .ireturn, 0, 0, .null, [])]
-- 57: X4_order ()I
def cd_57 : List (Nat × hx_CE) := [(0, (.aload_n 0), 0, 0, .null, []), (1, (.invokevirtual 81), 85, 1, .null, [4]), (4, (.aload_n 0), 0, 0, .null, []), (5, (.getfield 51), 4, 9, .null, []), (8, (.aload_n 0), 0, 0, .null, []), (9, (.getfield 12), 4, 0, .null, []), (12, (.invokevirtual 142), 3, 2, .null, [0]), (15, (.aload_n 0), 0, 0, .null, []), (16, (.getfield 51), 4, 9, .null, []), (19, (.getfield 146), 0, 2, .null, []), (22, (.iconst 0), 0, 0, .int (0), []), (23, (.aload_n 0), 0, 0, .null, []), (24, (.getfield 12), 4, 0, .null, []), (27, (.getfield 126), 3, 6, .null, []), (30, (.iconst 0), 0, 0, .int (0), []), (31, (.aload_n 0), 0, 0, .null, []), (32, (.getfield 12), 4, 0, .null, []), (35, (.getfield 73), 3, 0, .null, []), (38, (.invokestatic 129), 0, 0, .null, [3]), (41, (.aload_n 0), 0, 0, .null, []), (42, (.getfield 12), 4, 0, .null, []), (45, .dup, 0, 0, .null, []), (46, (.getfield 135), 3, 1, .null, []), (49, (.iconst 1), 0, 0, .int (1), []), (50, .iadd, 0, 0, .null, []), (51, (.putfield 135), 3, 1, .null, []), (54, (.aload_n 0), 0, 0, .null, []), (55, (.getfield 12), 4, 0, .null, []), (58, (.aload_n 0), 0, 0, .null, []), (59, (.getfield 12), 4, 0, .null, []), (62, (.getfield 126), 3, 6, .null, []), (65, (.invokevirtual 138), 47, 2, .null, [3]), (68, .ireturn, 0, 0, .null, [])]
-- 58: X4_set (II)I
def cd_58 : List (Nat × hx_CE) := [(0, (.iload_n 1), 0, 0, .null, []), (1, (.invokestatic 147), 82, 1, .null, []), (4, (.iload_n 2), 0, 0, .null, []), (5, (.ifCond .lt 9), 14, 0, .null, []), (8, (.iload_n 2), 0, 0, .null, []), (9, (.bipush 9), 0, 0, .int (9), []), (11, (.if_icmp .le 13), 24, 0, .null, []), (14, (.new 66), 0, 5, .null, [150, 70, 2]), (17, .dup, 0, 0, .null, []), (23, .athrow, 0, 0, .null, []), (24, (.aload_n 0), 0, 0, .null, []), (25, (.invokevirtual 81), 85, 1, .null, [4]), (28, (.aload_n 0), 0, 0, .null, []), (29, (.getfield 12), 4, 0, .null, []), (32, (.getfield 152), 3, 7, .null, []), (35, (.iload_n 1), 0, 0, .null, []), (36, .iaload, 0, 0, .null, []), (37, (.istore_n 3), 0, 0, .null, []), (38, (.aload_n 0), 0, 0, .null, []), (39, (.getfield 12), 4, 0, .null, []), (42, (.getfield 152), 3, 7, .null, []), (45, (.iload_n 1), 0, 0, .null, []), (46, (.iload_n 2), 0, 0, .null, []), (47, .iastore, 0, 0, .null, []), (48, (.iload_n 3), 0, 0, .null, []), (49, .ireturn, 0, 0, .null, [])]
-- 59: X4_append (I)I
def cd_59 : List (Nat × hx_CE) := [(0, (.iload_n 1), 0, 0, .null, []), (1, (.bipush 33), 0, 0, .int (33), []), (3, (.if_icmp .lt 9), 12, 0, .null, []), (6, (.iload_n 1), 0, 0, .null, []), (7, (.bipush 126), 0, 0, .int (126), []), (9, (.if_icmp .le 13), 22, 0, .null, []), (12, (.new 66), 0, 6, .null, [155, 70, 2]), (15, .dup, 0, 0, .null, []), (21, .athrow, 0, 0, .null, []), (22, (.aload_n 0), 0, 0, .null, []), (23, (.getfield 38), 4, 7, .null, []), (26, (.bipush 60), 0, 0, .int (60), []), (28, (.if_icmp .lt 13), 41, 0, .null, []), (31, (.new 76), 1, 7, .null, [157, 80, 2]), (34, .dup, 0, 0, .null, []), (40, .athrow, 0, 0, .null, []), (41, (.aload_n 0), 0, 0, .null, []), (42, (.getfield 34), 4, 6, .null, []), (45, (.aload_n 0), 0, 0, .null, []), (46, (.getfield 38), 4, 7, .null, []), (49, (.iload_n 1), 0, 0, .null, []), (50, .i2c, 0, 0, .null, []), (51, .castore, 0, 0, .null, []), (52, (.aload_n 0), 0, 0, .null, []), (53, .dup, 0, 0, .null, []), (54, (.getfield 38), 4, 7, .null, []), (57, (.iconst 1), 0, 0, .int (1), []), (58, .iadd, 0, 0, .null, []), (59, (.putfield 38), 4, 7, .null, []), (62, (.aload_n 0), 0, 0, .null, []), (63, (.getfield 38), 4, 7, .null, []), (66, .ireturn, 0, 0, .null, [])]
-- 60: X4_clearBuffer ()I
def cd_60 : List (Nat × hx_CE) := [(0, (.aload_n 0), 0, 0, .null, []), (1, (.getfield 38), 4, 7, .null, []), (4, (.istore_n 1), 0, 0, .null, []), (5, (.aload_n 0), 0, 0, .null, []), (6, (.iconst 0), 0, 0, .int (0), []), (7, (.putfield 38), 4, 7, .null, []), (10, (.iload_n 1), 0, 0, .null, []), (11, .ireturn, 0, 0, .null, [])]
-- 61: X4_firstError ()I
def cd_61 : List (Nat × hx_CE) := [(0, (.aload_n 0), 0, 0, .null, []), (1, (.invokevirtual 159), 86, 1, .null, [4]), (4, .ireturn, 0, 0, .null, [])]
-- 62: X4_load ()I
def cd_62 : List (Nat × hx_CE) := [(0, (.aload_n 0), 0, 0, .null, []), (1, (.invokevirtual 159), 86, 1, .null, [4]), (4, (.aload_n 0), 0, 0, .null, []), (5, (.getfield 38), 4, 7, .null, []), (8, (.if_icmp .lt 13), 21, 0, .null, []), (11, (.aload_n 0), 0, 0, .null, []), (12, (.getfield 44), 4, 8, .null, []), (15, (.invokevirtual 163), 23, 1, .null, [2]), (18, (.ifCond .ne 13), 31, 0, .null, []), (21, (.new 66), 0, 8, .null, [167, 70, 2]), (24, .dup, 0, 0, .null, []), (30, .athrow, 0, 0, .null, []), (31, (.aload_n 0), 0, 0, .null, []), (32, (.getfield 12), 4, 0, .null, []), (35, (.getfield 73), 3, 0, .null, []), (38, (.aload_n 0), 0, 0, .null, []), (39, (.getfield 44), 4, 8, .null, []), (42, (.getfield 169), 2, 0, .null, []), (45, .iadd, 0, 0, .null, []), (46, (.bipush 7), 0, 0, .int (7), []), (48, (.if_icmp .le 13), 61, 0, .null, []), (51, (.new 76), 1, 9, .null, [172, 80, 2]), (54, .dup, 0, 0, .null, []), (60, .athrow, 0, 0, .null, []), (61, (.aload_n 0), 0, 0, .null, []), (62, (.invokevirtual 81), 85, 1, .null, [4]), (65, (.aload_n 0), 0, 0, .null, []), (66, (.invokevirtual 174), 87, 1, .null, [4]), (69, (.aload_n 0), 0, 0, .null, []), (70, (.iconst 0), 0, 0, .int (0), []), (71, (.putfield 38), 4, 7, .null, []), (74, (.aload_n 0), 0, 0, .null, []), (75, (.getfield 12), 4, 0, .null, []), (78, (.getfield 73), 3, 0, .null, []), (81, .ireturn, 0, 0, .null, [])]
-- 63: X4_keep (I)I
def cd_63 : List (Nat × hx_CE) := [(0, (.iload_n 1), 0, 0, .null, []), (1, (.invokestatic 177), 83, 1, .null, []), (4, (.aload_n 0), 0, 0, .null, []), (5, (.getfield 27), 4, 4, .null, []), (8, (.iload_n 1), 0, 0, .null, []), (9, .aaload, 0, 0, .null, []), (10, (.aload_n 0), 0, 0, .null, []), (11, (.getfield 12), 4, 0, .null, []), (14, (.invokevirtual 180), 34, 2, .null, [3]), (17, (.aload_n 0), 0, 0, .null, []), (18, (.getfield 30), 4, 5, .null, []), (21, (.iload_n 1), 0, 0, .null, []), (22, (.iconst 1), 0, 0, .int (1), []), (23, .bastore, 0, 0, .null, []), (24, (.aload_n 0), 0, 0, .null, []), (25, (.getfield 12), 4, 0, .null, []), (28, (.getfield 73), 3, 0, .null, []), (31, .ireturn, 0, 0, .null, [])]
-- 64: X4_goBack (I)I
def cd_64 : List (Nat × hx_CE) := [(0, (.iload_n 1), 0, 0, .null, []), (1, (.invokestatic 177), 83, 1, .null, []), (4, (.aload_n 0), 0, 0, .null, []), (5, (.getfield 30), 4, 5, .null, []), (8, (.iload_n 1), 0, 0, .null, []), (9, .baload, 0, 0, .null, []), (10, (.ifCond .ne 13), 23, 0, .null, []), (13, (.new 76), 1, 10, .null, [183, 80, 2]), (16, .dup, 0, 0, .null, []), (22, .athrow, 0, 0, .null, []), (23, (.aload_n 0), 0, 0, .null, []), (24, (.invokevirtual 81), 85, 1, .null, [4]), (27, (.aload_n 0), 0, 0, .null, []), (28, (.getfield 12), 4, 0, .null, []), (31, (.aload_n 0), 0, 0, .null, []), (32, (.getfield 27), 4, 4, .null, []), (35, (.iload_n 1), 0, 0, .null, []), (36, .aaload, 0, 0, .null, []), (37, (.invokevirtual 180), 34, 2, .null, [3]), (40, (.aload_n 0), 0, 0, .null, []), (41, (.getfield 12), 4, 0, .null, []), (44, (.getfield 73), 3, 0, .null, []), (47, .ireturn, 0, 0, .null, [])]
-- 65: X4_undo ()I
def cd_65 : List (Nat × hx_CE) := [(0, (.aload_n 0), 0, 0, .null, []), (1, (.getfield 24), 4, 3, .null, []), (4, (.iconst 1), 0, 0, .int (1), []), (5, (.if_icmp .ge 13), 18, 0, .null, []), (8, (.new 76), 1, 11, .null, [185, 80, 2]), (11, .dup, 0, 0, .null, []), (17, .athrow, 0, 0, .null, []), (18, (.aload_n 0), 0, 0, .null, []), (19, .dup, 0, 0, .null, []), (20, (.getfield 24), 4, 3, .null, []), (23, (.iconst 1), 0, 0, .int (1), []), (24, .isub, 0, 0, .null, []), (25, (.putfield 24), 4, 3, .null, []), (28, (.aload_n 0), 0, 0, .null, []), (29, (.getfield 12), 4, 0, .null, []), (32, (.aload_n 0), 0, 0, .null, []), (33, (.getfield 16), 4, 1, .null, []), (36, (.aload_n 0), 0, 0, .null, []), (37, (.getfield 20), 4, 2, .null, []), (40, (.aload_n 0), 0, 0, .null, []), (41, (.getfield 24), 4, 3, .null, []), (44, .iadd, 0, 0, .null, []), (45, (.bipush 6), 0, 0, .int (6), []), (47, .irem, 0, 0, .null, []), (48, .aaload, 0, 0, .null, []), (49, (.invokevirtual 180), 34, 2, .null, [3]), (52, (.aload_n 0), 0, 0, .null, []), (53, (.getfield 24), 4, 3, .null, []), (56, .ireturn, 0, 0, .null, [])]
-- 66: X4_pieceOf (II)I
def cd_66 : List (Nat × hx_CE) := [(0, (.aload_n 0), 0, 0, .null, []), (1, (.iload_n 1), 0, 0, .null, []), (2, (.invokevirtual 88), 80, 2, .null, [4]), (5, (.iload_n 2), 0, 0, .null, []), (6, (.ifCond .lt 9), 15, 0, .null, []), (9, (.iload_n 2), 0, 0, .null, []), (10, (.bipush 14), 0, 0, .int (14), []), (12, (.if_icmp .lt 13), 25, 0, .null, []), (15, (.new 66), 0, 12, .null, [187, 70, 2]), (18, .dup, 0, 0, .null, []), (24, .athrow, 0, 0, .null, []), (25, (.aload_n 0), 0, 0, .null, []), (26, (.getfield 12), 4, 0, .null, []), (29, (.iload_n 1), 0, 0, .null, []), (30, (.iload_n 2), 0, 0, .null, []), (31, (.invokevirtual 189), 42, 3, .null, [3]), (34, .ireturn, 0, 0, .null, [])]
-- 67: X4_isHole (II)I
def cd_67 : List (Nat × hx_CE) := [(0, (.aload_n 0), 0, 0, .null, []), (1, (.iload_n 1), 0, 0, .null, []), (2, (.invokevirtual 88), 80, 2, .null, [4]), (5, (.aload_n 0), 0, 0, .null, []), (6, (.iload_n 1), 0, 0, .null, []), (7, (.iload_n 2), 0, 0, .null, []), (8, (.invokevirtual 98), 81, 3, .null, [4]), (11, (.aload_n 0), 0, 0, .null, []), (12, (.getfield 12), 4, 0, .null, []), (15, (.iload_n 1), 0, 0, .null, []), (16, (.iload_n 2), 0, 0, .null, []), (17, (.invokevirtual 102), 39, 3, .null, [3]), (20, (.ifCond .eq 7), 27, 0, .null, []), (23, (.iconst 1), 0, 0, .int (1), []), (24, (.goto 4), 28, 0, .null, [0, 1, 2]), (27, (.iconst 0), 0, 0, .int (0), []), (28, .ireturn, 0, 0, .null, [])]
-- 68: X4_at (I)I
def cd_68 : List (Nat × hx_CE) := [(0, (.iload_n 1), 0, 0, .null, []), (1, (.ifCond .ge 13), 14, 0, .null, []), (4, (.new 66), 0, 13, .null, [193, 70, 2]), (7, .dup, 0, 0, .null, []), (13, .athrow, 0, 0, .null, []), (14, (.iload_n 1), 0, 0, .null, []), (15, (.aload_n 0), 0, 0, .null, []), (16, (.getfield 12), 4, 0, .null, []), (19, (.getfield 73), 3, 0, .null, []), (22, (.if_icmp .ge 15), 37, 0, .null, []), (25, (.aload_n 0), 0, 0, .null, []), (26, (.getfield 12), 4, 0, .null, []), (29, (.getfield 126), 3, 6, .null, []), (32, (.iload_n 1), 0, 0, .null, []), (33, .iaload, 0, 0, .null, []), (34, (.goto 4), 38, 0, .null, [0, 1]), (37, (.iconst (-1)), 0, 0, .int (-1), []), (38, .ireturn, 0, 0, .null, [])]
-- 69: X4_cost (II)I
def cd_69 : List (Nat × hx_CE) := [(0, (.aload_n 0), 0, 0, .null, []), (1, (.iload_n 1), 0, 0, .null, []), (2, (.invokevirtual 88), 80, 2, .null, [4]), (5, (.aload_n 0), 0, 0, .null, []), (6, (.iload_n 2), 0, 0, .null, []), (7, (.invokevirtual 88), 80, 2, .null, [4]), (10, (.iload_n 1), 0, 0, .null, []), (11, (.iload_n 2), 0, 0, .null, []), (12, (.if_icmp .ne 13), 25, 0, .null, []), (15, (.new 66), 0, 14, .null, [195, 70, 2]), (18, .dup, 0, 0, .null, []), (24, .athrow, 0, 0, .null, []), (25, (.aload_n 0), 0, 0, .null, []), (26, (.getfield 12), 4, 0, .null, []), (29, (.iload_n 1), 0, 0, .null, []), (30, (.iload_n 2), 0, 0, .null, []), (31, (.invokevirtual 197), 46, 3, .null, [3]), (34, .ireturn, 0, 0, .null, [])]
-- 70: X4_holeOf (II)I
def cd_70 : List (Nat × hx_CE) := [(0, (.iload_n 1), 0, 0, .null, []), (1, (.ifCond .ge 13), 14, 0, .null, []), (4, (.new 66), 0, 15, .null, [200, 70, 2]), (7, .dup, 0, 0, .null, []), (13, .athrow, 0, 0, .null, []), (14, (.iload_n 2), 0, 0, .null, []), (15, (.ifCond .lt 8), 23, 0, .null, []), (18, (.iload_n 2), 0, 0, .null, []), (19, (.iconst 5), 0, 0, .int (5), []), (20, (.if_icmp .lt 13), 33, 0, .null, []), (23, (.new 66), 0, 16, .null, [202, 70, 2]), (26, .dup, 0, 0, .null, []), (32, .athrow, 0, 0, .null, []), (33, (.aload_n 0), 0, 0, .null, []), (34, (.invokevirtual 204), 90, 1, .null, [4]), (37, (.iload_n 1), 0, 0, .null, []), (38, (.iload_n 2), 0, 0, .null, []), (39, (.invokevirtual 208), 11, 3, .null, [1]), (42, .ireturn, 0, 0, .null, [])]
-- 71: X4_count (I)I
def cd_71 : List (Nat × hx_CE) := [(0, (.iload_n 1), 0, 0, .null, []), (1, (.ifCond .lt 9), 10, 0, .null, []), (4, (.iload_n 1), 0, 0, .null, []), (5, (.bipush 10), 0, 0, .int (10), []), (7, (.if_icmp .lt 13), 20, 0, .null, []), (10, (.new 66), 0, 17, .null, [209, 70, 2]), (13, .dup, 0, 0, .null, []), (19, .athrow, 0, 0, .null, []), (20, (.aload_n 0), 0, 0, .null, []), (21, (.iload_n 1), 0, 0, .null, []), (22, (.invokevirtual 211), 89, 2, .null, [4]), (25, .ireturn, 0, 0, .null, [])]
-- 72: X4_setting (I)I
def cd_72 : List (Nat × hx_CE) := [(0, (.iload_n 1), 0, 0, .null, []), (1, (.invokestatic 147), 82, 1, .null, []), (4, (.aload_n 0), 0, 0, .null, []), (5, (.getfield 12), 4, 0, .null, []), (8, (.getfield 152), 3, 7, .null, []), (11, (.iload_n 1), 0, 0, .null, []), (12, .iaload, 0, 0, .null, []), (13, .ireturn, 0, 0, .null, [])]
-- 73: X4_bestBehind (I)I
def cd_73 : List (Nat × hx_CE) := [(0, (.aload_n 0), 0, 0, .null, []), (1, (.iload_n 1), 0, 0, .null, []), (2, (.invokevirtual 88), 80, 2, .null, [4]), (5, (.aload_n 0), 0, 0, .null, []), (6, (.getfield 12), 4, 0, .null, []), (9, (.iload_n 1), 0, 0, .null, []), (10, (.invokevirtual 214), 48, 2, .null, [3]), (13, .ireturn, 0, 0, .null, [])]
-- 74: X4_sureness (I)I
def cd_74 : List (Nat × hx_CE) := [(0, (.aload_n 0), 0, 0, .null, []), (1, (.iload_n 1), 0, 0, .null, []), (2, (.invokevirtual 88), 80, 2, .null, [4]), (5, (.aload_n 0), 0, 0, .null, []), (6, (.getfield 12), 4, 0, .null, []), (9, (.iload_n 1), 0, 0, .null, []), (10, (.invokevirtual 217), 49, 2, .null, [3]), (13, .ireturn, 0, 0, .null, [])]
-- 75: X4_bestPlace (I)I
def cd_75 : List (Nat × hx_CE) := [(0, (.aload_n 0), 0, 0, .null, []), (1, (.iload_n 1), 0, 0, .null, []), (2, (.invokevirtual 88), 80, 2, .null, [4]), (5, (.aload_n 0), 0, 0, .null, []), (6, (.iload_n 1), 0, 0, .null, []), (7, (.invokevirtual 220), 91, 2, .null, [4]), (10, .ireturn, 0, 0, .null, [])]
-- 76: X4_ifOrdered ()I
def cd_76 : List (Nat × hx_CE) := [(0, (.aload_n 0), 0, 0, .null, []), (1, (.invokevirtual 223), 92, 1, .null, [4]), (4, .ireturn, 0, 0, .null, [])]
-- 77: X4_meanShrink ()F
def cd_77 : List (Nat × hx_CE) := [(0, (.aload_n 0), 0, 0, .null, []), (1, (.invokevirtual 204), 90, 1, .null, [4]), (4, (.invokevirtual 226), 18, 1, .null, [1]), (7, .freturn, 0, 0, .null, [])]
-- 78: X4_meanCost ()D
def cd_78 : List (Nat × hx_CE) := [(0, (.aload_n 0), 0, 0, .null, []), (1, (.invokevirtual 230), 93, 1, .null, [4]), (4, .dreturn, 0, 0, .null, [])]
-- 79: X4_digest ()J
def cd_79 : List (Nat × hx_CE) := [(0, (.ldc2_w 234), 0, 0, .long (3541), []), (3, (.lstore_n 1), 0, 0, .null, [2, 3]), (4, (.iconst 0), 0, 0, .int (0), []), (5, (.istore_n 3), 0, 0, .null, [2]), (6, (.iload_n 3), 0, 0, .null, []), (7, (.bipush 10), 0, 0, .int (10), []), (9, (.if_icmp .ge 20), 29, 0, .null, []), (12, (.lload_n 1), 0, 0, .null, []), (13, (.aload_n 0), 0, 0, .null, []), (14, (.iload_n 3), 0, 0, .null, []), (15, (.invokevirtual 211), 89, 2, .null, [4]), (18, .i2l, 0, 0, .null, []), (19, (.invokestatic 236), 94, 2, .null, []), (22, (.lstore_n 1), 0, 0, .null, [2]), (23, (.iinc 3 1), 0, 0, .null, [2]), (26, (.goto (-20)), 6, 0, .null, [2]), (29, (.lload_n 1), 0, 0, .null, []), (30, (.aload_n 0), 0, 0, .null, []), (31, (.getfield 12), 4, 0, .null, []), (34, (.getfield 152), 3, 7, .null, []), (37, (.iconst 0), 0, 0, .int (0), []), (38, .iaload, 0, 0, .null, []), (39, .i2l, 0, 0, .null, []), (40, (.invokestatic 236), 94, 2, .null, []), (43, (.lstore_n 1), 0, 0, .null, [2, 3]), (44, (.lload_n 1), 0, 0, .null, []), (45, (.aload_n 0), 0, 0, .null, []), (46, (.getfield 12), 4, 0, .null, []), (49, (.getfield 152), 3, 7, .null, []), (52, (.iconst 1), 0, 0, .int (1), []), (53, .iaload, 0, 0, .null, []), (54, .i2l, 0, 0, .null, []), (55, (.invokestatic 236), 94, 2, .null, []), (58, (.lstore_n 1), 0, 0, .null, [2, 3]), (59, (.aload_n 0), 0, 0, .null, []), (60, (.lload_n 1), 0, 0, .null, []), (61, (.invokevirtual 240), 95, 2, .null, [4]), (64, (.lstore_n 1), 0, 0, .null, [2, 3]), (65, (.aload_n 0), 0, 0, .null, []), (66, (.lload_n 1), 0, 0, .null, []), (67, (.invokevirtual 244), 96, 2, .null, [4]), (70, (.lstore_n 1), 0, 0, .null, [2, 3]), (71, (.lload_n 1), 0, 0, .null, []), (72, (.aload_n 0), 0, 0, .null, []), (73, (.invokevirtual 223), 92, 1, .null, [4]), (76, .i2l, 0, 0, .null, []), (77, (.invokestatic 236), 94, 2, .null, []), (80, (.lstore_n 1), 0, 0, .null, [2, 3]), (81, (.lload_n 1), 0, 0, .null, []), (82, (.aload_n 0), 0, 0, .null, []), (83, (.invokevirtual 204), 90, 1, .null, [4]), (86, (.invokevirtual 226), 18, 1, .null, [1]), (89, (.invokestatic 247), 98, 1, .null, []), (92, .i2l, 0, 0, .null, []), (93, (.invokestatic 236), 94, 2, .null, []), (96, (.lstore_n 1), 0, 0, .null, [2, 3]), (97, (.lload_n 1), 0, 0, .null, []), (98, (.aload_n 0), 0, 0, .null, []), (99, (.invokevirtual 230), 93, 1, .null, [4]), (102, (.invokestatic 251), 99, 1, .null, []), (105, (.invokestatic 236), 94, 2, .null, []), (108, (.lstore_n 1), 0, 0, .null, [2, 3]), (109, (.aload_n 0), 0, 0, .null, []), (110, (.lload_n 1), 0, 0, .null, []), (111, (.invokevirtual 255), 97, 2, .null, [4]), (114, .lreturn, 0, 0, .null, [])]
-- 80: X4_needPiece (I)V
def cd_80 : List (Nat × hx_CE) := [(0, (.iload_n 1), 0, 0, .null, []), (1, (.ifCond .lt 14), 15, 0, .null, []), (4, (.iload_n 1), 0, 0, .null, []), (5, (.aload_n 0), 0, 0, .null, []), (6, (.getfield 12), 4, 0, .null, []), (9, (.getfield 73), 3, 0, .null, []), (12, (.if_icmp .lt 14), 26, 0, .null, []), (15, (.new 258), 2, 18, .null, [260, 262, 3]), (18, .dup, 0, 0, .null, []), (25, .athrow, 0, 0, .null, []), (26, .return_, 0, 0, .null, [])]
-- 81: X4_needPlaceIn (II)V
def cd_81 : List (Nat × hx_CE) := [(0, (.iload_n 2), 0, 0, .null, []), (1, (.ifCond .lt 16), 17, 0, .null, []), (4, (.iload_n 2), 0, 0, .null, []), (5, (.aload_n 0), 0, 0, .null, []), (6, (.getfield 12), 4, 0, .null, []), (9, (.getfield 263), 3, 2, .null, []), (12, (.iload_n 1), 0, 0, .null, []), (13, .iaload, 0, 0, .null, []), (14, (.if_icmp .lt 14), 28, 0, .null, []), (17, (.new 66), 0, 19, .null, [266, 70, 3]), (20, .dup, 0, 0, .null, []), (27, .athrow, 0, 0, .null, []), (28, .return_, 0, 0, .null, [])]
-- 82: X4_needSetting (I)V
def cd_82 : List (Nat × hx_CE) := [(0, (.iload_n 0), 0, 0, .null, []), (1, (.ifCond .lt 8), 9, 0, .null, []), (4, (.iload_n 0), 0, 0, .null, []), (5, (.iconst 2), 0, 0, .int (2), []), (6, (.if_icmp .lt 14), 20, 0, .null, []), (9, (.new 258), 2, 20, .null, [268, 262, 3]), (12, .dup, 0, 0, .null, []), (19, .athrow, 0, 0, .null, []), (20, .return_, 0, 0, .null, [])]
-- 83: X4_needSlot (I)V
def cd_83 : List (Nat × hx_CE) := [(0, (.iload_n 0), 0, 0, .null, []), (1, (.ifCond .lt 8), 9, 0, .null, []), (4, (.iload_n 0), 0, 0, .null, []), (5, (.iconst 2), 0, 0, .int (2), []), (6, (.if_icmp .lt 14), 20, 0, .null, []), (9, (.new 66), 0, 21, .null, [270, 70, 3]), (12, .dup, 0, 0, .null, []), (19, .athrow, 0, 0, .null, []), (20, .return_, 0, 0, .null, [])]
-- 84: X4_changeEdge (IIIII)I
def cd_84 : List (Nat × hx_CE) := [(0, (.iload_n 2), 0, 0, .null, []), (1, (.ifCond .lt 8), 9, 0, .null, []), (4, (.iload_n 2), 0, 0, .null, []), (5, (.iconst 1), 0, 0, .int (1), []), (6, (.if_icmp .le 14), 20, 0, .null, []), (9, (.new 66), 0, 22, .null, [272, 70, 3]), (12, .dup, 0, 0, .null, []), (19, .athrow, 0, 0, .null, []), (20, (.iload 4), 0, 0, .null, []), (22, (.ifCond .lt 10), 32, 0, .null, []), (25, (.iload 4), 0, 0, .null, []), (27, (.iload 5), 0, 0, .null, []), (29, (.if_icmp .le 14), 43, 0, .null, []), (32, (.new 66), 0, 23, .null, [274, 70, 3]), (35, .dup, 0, 0, .null, []), (42, .athrow, 0, 0, .null, []), (43, (.aload_n 0), 0, 0, .null, []), (44, (.invokevirtual 81), 85, 1, .null, [4]), (47, (.iload_n 1), 0, 0, .null, []), (48, (.bipush 10), 0, 0, .int (10), []), (50, .imul, 0, 0, .null, []), (51, (.iload_n 2), 0, 0, .null, []), (52, (.iconst 5), 0, 0, .int (5), []), (53, .imul, 0, 0, .null, []), (54, .iadd, 0, 0, .null, []), (55, (.iload_n 3), 0, 0, .null, []), (56, .iadd, 0, 0, .null, []), (57, (.istore 6), 0, 0, .null, [1, 2, 3, 5, 7]), (59, (.aload_n 0), 0, 0, .null, []), (60, (.getfield 12), 4, 0, .null, []), (63, (.getfield 276), 3, 3, .null, []), (66, (.iload 6), 0, 0, .null, []), (68, .iaload, 0, 0, .null, []), (69, (.istore 7), 0, 0, .null, [1, 2, 3, 5]), (71, (.aload_n 0), 0, 0, .null, []), (72, (.getfield 12), 4, 0, .null, []), (75, (.getfield 276), 3, 3, .null, []), (78, (.iload 6), 0, 0, .null, []), (80, (.iload 4), 0, 0, .null, []), (82, .iastore, 0, 0, .null, []), (83, (.iload 7), 0, 0, .null, []), (85, .ireturn, 0, 0, .null, [])]
-- 85: X4_saveState ()V
def cd_85 : List (Nat × hx_CE) := [(0, (.aload_n 0), 0, 0, .null, []), (1, (.getfield 24), 4, 3, .null, []), (4, (.bipush 6), 0, 0, .int (6), []), (6, (.if_icmp .ge 16), 22, 0, .null, []), (9, (.aload_n 0), 0, 0, .null, []), (10, .dup, 0, 0, .null, []), (11, (.getfield 24), 4, 3, .null, []), (14, (.iconst 1), 0, 0, .int (1), []), (15, .iadd, 0, 0, .null, []), (16, (.putfield 24), 4, 3, .null, []), (19, (.goto 16), 35, 0, .null, []), (22, (.aload_n 0), 0, 0, .null, []), (23, (.aload_n 0), 0, 0, .null, []), (24, (.getfield 20), 4, 2, .null, []), (27, (.iconst 1), 0, 0, .int (1), []), (28, .iadd, 0, 0, .null, []), (29, (.bipush 6), 0, 0, .int (6), []), (31, .irem, 0, 0, .null, []), (32, (.putfield 20), 4, 2, .null, []), (35, (.aload_n 0), 0, 0, .null, []), (36, (.getfield 16), 4, 1, .null, []), (39, (.aload_n 0), 0, 0, .null, []), (40, (.getfield 20), 4, 2, .null, []), (43, (.aload_n 0), 0, 0, .null, []), (44, (.getfield 24), 4, 3, .null, []), (47, .iadd, 0, 0, .null, []), (48, (.iconst 1), 0, 0, .int (1), []), (49, .isub, 0, 0, .null, []), (50, (.bipush 6), 0, 0, .int (6), []), (52, .irem, 0, 0, .null, []), (53, .aaload, 0, 0, .null, []), (54, (.aload_n 0), 0, 0, .null, []), (55, (.getfield 12), 4, 0, .null, []), (58, (.invokevirtual 180), 34, 2, .null, [3]), (61, .return_, 0, 0, .null, [])]
-- 86: X4_readBuffer ()I
def cd_86 : List (Nat × hx_CE) := [(0, (.aload_n 0), 0, 0, .null, []), (1, (.getfield 44), 4, 8, .null, []), (4, (.invokevirtual 279), 20, 1, .null, [2]), (7, (.iconst 0), 0, 0, .int (0), []), (8, (.istore_n 1), 0, 0, .null, []), (9, (.iload_n 1), 0, 0, .null, []), (10, (.aload_n 0), 0, 0, .null, []), (11, (.getfield 38), 4, 7, .null, []), (14, (.if_icmp .ge 27), 41, 0, .null, []), (17, (.aload_n 0), 0, 0, .null, []), (18, (.getfield 44), 4, 8, .null, []), (21, (.aload_n 0), 0, 0, .null, []), (22, (.getfield 34), 4, 6, .null, []), (25, (.iload_n 1), 0, 0, .null, []), (26, .caload, 0, 0, .null, []), (27, (.invokevirtual 282), 22, 2, .null, [2]), (30, (.ifCond .ne 5), 35, 0, .null, []), (33, (.iload_n 1), 0, 0, .null, []), (34, .ireturn, 0, 0, .null, []), (35, (.iinc 1 1), 0, 0, .null, []), (38, (.goto (-29)), 9, 0, .null, []), (41, (.aload_n 0), 0, 0, .null, []), (42, (.getfield 38), 4, 7, .null, []), (45, .ireturn, 0, 0, .null, [])]
-- 87: X4_addFromBuffer ()V
def cd_87 : List (Nat × hx_CE) := [(0, (.aload_n 0), 0, 0, .null, []), (1, (.getfield 44), 4, 8, .null, []), (4, (.invokevirtual 279), 20, 1, .null, [2]), (7, (.iconst 0), 0, 0, .int (0), []), (8, (.istore_n 1), 0, 0, .null, [2]), (9, (.iload_n 1), 0, 0, .null, []), (10, (.aload_n 0), 0, 0, .null, []), (11, (.getfield 38), 4, 7, .null, []), (14, (.if_icmp .gt 55), 69, 0, .null, []), (17, (.iload_n 1), 0, 0, .null, []), (18, (.aload_n 0), 0, 0, .null, []), (19, (.getfield 38), 4, 7, .null, []), (22, (.if_icmp .ge 12), 34, 0, .null, []), (25, (.aload_n 0), 0, 0, .null, []), (26, (.getfield 34), 4, 6, .null, []), (29, (.iload_n 1), 0, 0, .null, []), (30, .caload, 0, 0, .null, []), (31, (.goto 5), 36, 0, .null, [2]), (34, (.bipush 59), 0, 0, .int (59), []), (36, (.istore_n 2), 0, 0, .null, []), (37, (.iload_n 2), 0, 0, .null, []), (38, (.bipush 59), 0, 0, .int (59), []), (40, (.if_icmp .ne 14), 54, 0, .null, []), (43, (.aload_n 0), 0, 0, .null, []), (44, (.getfield 44), 4, 8, .null, []), (47, (.invokevirtual 286), 24, 1, .null, [2]), (50, (.aload_n 0), 0, 0, .null, []), (51, (.invokevirtual 289), 88, 1, .null, [4]), (54, (.aload_n 0), 0, 0, .null, []), (55, (.getfield 44), 4, 8, .null, []), (58, (.iload_n 2), 0, 0, .null, []), (59, (.invokevirtual 282), 22, 2, .null, [2]), (62, .pop, 0, 0, .null, []), (63, (.iinc 1 1), 0, 0, .null, [2]), (66, (.goto (-57)), 9, 0, .null, [2]), (69, .return_, 0, 0, .null, [])]
-- 88: X4_addRead ()V
def cd_88 : List (Nat × hx_CE) := [(0, (.aload_n 0), 0, 0, .null, []), (1, (.getfield 12), 4, 0, .null, []), (4, (.getfield 73), 3, 0, .null, []), (7, (.bipush 7), 0, 0, .int (7), []), (9, (.if_icmp .lt 4), 13, 0, .null, []), (12, .return_, 0, 0, .null, []), (13, (.aload_n 0), 0, 0, .null, []), (14, (.getfield 12), 4, 0, .null, []), (17, (.aload_n 0), 0, 0, .null, []), (18, (.getfield 44), 4, 8, .null, []), (21, (.getfield 292), 2, 1, .null, []), (24, (.invokevirtual 84), 35, 2, .null, [3]), (27, (.istore_n 1), 0, 0, .null, []), (28, (.aload_n 0), 0, 0, .null, []), (29, (.getfield 44), 4, 8, .null, []), (32, (.getfield 295), 2, 2, .null, []), (35, (.iconst 0), 0, 0, .int (0), []), (36, (.aload_n 0), 0, 0, .null, []), (37, (.getfield 12), 4, 0, .null, []), (40, (.getfield 276), 3, 3, .null, []), (43, (.iload_n 1), 0, 0, .null, []), (44, (.bipush 10), 0, 0, .int (10), []), (46, .imul, 0, 0, .null, []), (47, (.bipush 10), 0, 0, .int (10), []), (49, (.invokestatic 129), 0, 0, .null, [3]), (52, (.aload_n 0), 0, 0, .null, []), (53, (.getfield 44), 4, 8, .null, []), (56, (.getfield 296), 2, 4, .null, []), (59, (.iconst 0), 0, 0, .int (0), []), (60, (.aload_n 0), 0, 0, .null, []), (61, (.getfield 12), 4, 0, .null, []), (64, (.getfield 299), 3, 5, .null, []), (67, (.iload_n 1), 0, 0, .null, []), (68, (.iconst 4), 0, 0, .int (4), []), (69, .imul, 0, 0, .null, []), (70, (.aload_n 0), 0, 0, .null, []), (71, (.getfield 44), 4, 8, .null, []), (74, (.getfield 300), 2, 3, .null, []), (77, (.invokestatic 129), 0, 0, .null, [3]), (80, (.aload_n 0), 0, 0, .null, []), (81, (.getfield 12), 4, 0, .null, []), (84, (.getfield 106), 3, 4, .null, []), (87, (.iload_n 1), 0, 0, .null, []), (88, (.aload_n 0), 0, 0, .null, []), (89, (.getfield 44), 4, 8, .null, []), (92, (.getfield 300), 2, 3, .null, []), (95, .iastore, 0, 0, .null, []), (96, .return_, 0, 0, .null, [])]
-- 89: X4_number (I)I
def cd_89 : List (Nat × hx_CE) := [(0, (.iload_n 1), 0, 0, .null, []), (1, (.tableswitch 138 0 8 #[51, 59, 67, 82, 94, 106, 114, 122, 130]), 139, 0, .retAddr 51, [52, 60, 68, 83, 95, 107, 115, 123, 131]), (52, (.aload_n 0), 0, 0, .null, []), (53, (.getfield 12), 4, 0, .null, []), (56, (.getfield 73), 3, 0, .null, []), (59, .ireturn, 0, 0, .null, []), (60, (.aload_n 0), 0, 0, .null, []), (61, (.getfield 12), 4, 0, .null, []), (64, (.invokevirtual 303), 45, 1, .null, [3]), (67, .ireturn, 0, 0, .null, []), (68, (.aload_n 0), 0, 0, .null, []), (69, (.getfield 12), 4, 0, .null, []), (72, (.aload_n 0), 0, 0, .null, []), (73, (.getfield 12), 4, 0, .null, []), (76, (.getfield 126), 3, 6, .null, []), (79, (.invokevirtual 138), 47, 2, .null, [3]), (82, .ireturn, 0, 0, .null, []), (83, (.aload_n 0), 0, 0, .null, []), (84, (.getfield 51), 4, 9, .null, []), (87, (.aload_n 0), 0, 0, .null, []), (88, (.getfield 12), 4, 0, .null, []), (91, (.invokevirtual 306), 1, 2, .null, [0]), (94, .ireturn, 0, 0, .null, []), (95, (.aload_n 0), 0, 0, .null, []), (96, (.getfield 51), 4, 9, .null, []), (99, (.aload_n 0), 0, 0, .null, []), (100, (.getfield 12), 4, 0, .null, []), (103, (.invokevirtual 310), 2, 2, .null, [0]), (106, .ireturn, 0, 0, .null, []), (107, (.aload_n 0), 0, 0, .null, []), (108, (.invokevirtual 204), 90, 1, .null, [4]), (111, (.getfield 313), 1, 2, .null, []), (114, .ireturn, 0, 0, .null, []), (115, (.aload_n 0), 0, 0, .null, []), (116, (.invokevirtual 204), 90, 1, .null, [4]), (119, (.invokevirtual 315), 16, 1, .null, [1]), (122, .ireturn, 0, 0, .null, []), (123, (.aload_n 0), 0, 0, .null, []), (124, (.invokevirtual 204), 90, 1, .null, [4]), (127, (.invokevirtual 318), 17, 1, .null, [1]), (130, .ireturn, 0, 0, .null, []), (131, (.aload_n 0), 0, 0, .null, []), (132, (.getfield 12), 4, 0, .null, []), (135, (.getfield 135), 3, 1, .null, []), (138, .ireturn, 0, 0, .null, []), (139, (.aload_n 0), 0, 0, .null, []), (140, (.getfield 24), 4, 3, .null, []), (143, .ireturn, 0, 0, .null, [])]
-- 90: X4_holesNow ()LScrollPieces$HoleLine;
def cd_90 : List (Nat × hx_CE) := [(0, (.aload_n 0), 0, 0, .null, []), (1, (.getfield 58), 4, 10, .null, []), (4, (.aload_n 0), 0, 0, .null, []), (5, (.getfield 12), 4, 0, .null, []), (8, (.aload_n 0), 0, 0, .null, []), (9, (.getfield 12), 4, 0, .null, []), (12, (.getfield 126), 3, 6, .null, []), (15, (.invokevirtual 321), 10, 3, .null, [1]), (18, (.aload_n 0), 0, 0, .null, []), (19, (.getfield 58), 4, 10, .null, []), (22, .areturn, 0, 0, .null, [])]
-- 91: X4_cheapestPlace (I)I
def cd_91 : List (Nat × hx_CE) := [(0, (.iconst 0), 0, 0, .int (0), []), (1, (.istore_n 2), 0, 0, .null, [3, 4, 5]), (2, (.sipush 1000), 0, 0, .int (1000), []), (5, (.istore_n 3), 0, 0, .null, [4, 5]), (6, (.iconst 0), 0, 0, .int (0), []), (7, (.istore 4), 0, 0, .null, [5]), (9, (.iload 4), 0, 0, .null, []), (11, (.aload_n 0), 0, 0, .null, []), (12, (.getfield 12), 4, 0, .null, []), (15, (.getfield 73), 3, 0, .null, []), (18, (.if_icmp .ge 48), 66, 0, .null, []), (21, (.aload_n 0), 0, 0, .null, []), (22, (.getfield 12), 4, 0, .null, []), (25, (.iload_n 1), 0, 0, .null, []), (26, (.iload 4), 0, 0, .null, []), (28, (.aload_n 0), 0, 0, .null, []), (29, (.getfield 62), 4, 11, .null, []), (32, (.invokevirtual 122), 38, 4, .null, [3]), (35, (.aload_n 0), 0, 0, .null, []), (36, (.getfield 12), 4, 0, .null, []), (39, (.aload_n 0), 0, 0, .null, []), (40, (.getfield 62), 4, 11, .null, []), (43, (.invokevirtual 138), 47, 2, .null, [3]), (46, (.istore 5), 0, 0, .null, []), (48, (.iload 5), 0, 0, .null, []), (50, (.iload_n 3), 0, 0, .null, []), (51, (.if_icmp .ge 9), 60, 0, .null, []), (54, (.iload 5), 0, 0, .null, []), (56, (.istore_n 3), 0, 0, .null, [2, 5]), (57, (.iload 4), 0, 0, .null, []), (59, (.istore_n 2), 0, 0, .null, [5]), (60, (.iinc 4 1), 0, 0, .null, [5]), (63, (.goto (-54)), 9, 0, .null, [5]), (66, (.iload_n 2), 0, 0, .null, []), (67, .ireturn, 0, 0, .null, [])]
-- 92: X4_wrongIfOrdered ()I
def cd_92 : List (Nat × hx_CE) := [(0, (.aload_n 0), 0, 0, .null, []), (1, (.getfield 51), 4, 9, .null, []), (4, (.aload_n 0), 0, 0, .null, []), (5, (.getfield 12), 4, 0, .null, []), (8, (.invokevirtual 142), 3, 2, .null, [0]), (11, (.aload_n 0), 0, 0, .null, []), (12, (.getfield 58), 4, 10, .null, []), (15, (.aload_n 0), 0, 0, .null, []), (16, (.getfield 12), 4, 0, .null, []), (19, (.aload_n 0), 0, 0, .null, []), (20, (.getfield 51), 4, 9, .null, []), (23, (.getfield 146), 0, 2, .null, []), (26, (.invokevirtual 321), 10, 3, .null, [1]), (29, (.aload_n 0), 0, 0, .null, []), (30, (.getfield 58), 4, 10, .null, []), (33, (.invokevirtual 315), 16, 1, .null, [1]), (36, .ireturn, 0, 0, .null, [])]
-- 93: X4_costByMean ()D
def cd_93 : List (Nat × hx_CE) := [(0, (.aload_n 0), 0, 0, .null, []), (1, (.getfield 12), 4, 0, .null, []), (4, (.getfield 73), 3, 0, .null, []), (7, (.iconst 2), 0, 0, .int (2), []), (8, (.if_icmp .ge 5), 13, 0, .null, []), (11, (.dconst 0), 0, 0, .double FP.dconst0, []), (12, .dreturn, 0, 0, .null, []), (13, (.aload_n 0), 0, 0, .null, []), (14, (.getfield 12), 4, 0, .null, []), (17, (.aload_n 0), 0, 0, .null, []), (18, (.getfield 12), 4, 0, .null, []), (21, (.getfield 126), 3, 6, .null, []), (24, (.invokevirtual 138), 47, 2, .null, [3]), (27, .i2d, 0, 0, .null, []), (28, (.aload_n 0), 0, 0, .null, []), (29, (.getfield 12), 4, 0, .null, []), (32, (.getfield 73), 3, 0, .null, []), (35, (.iconst 1), 0, 0, .int (1), []), (36, .isub, 0, 0, .null, []), (37, .i2d, 0, 0, .null, []), (38, .ddiv, 0, 0, .null, []), (39, .dreturn, 0, 0, .null, [])]
-- 94: X4_mixed (JJ)J
def cd_94 : List (Nat × hx_CE) := [(0, (.ldc2_w 325), 0, 0, .long (31), []), (3, (.lload_n 0), 0, 0, .null, []), (4, .lmul, 0, 0, .null, []), (5, (.lload_n 2), 0, 0, .null, []), (6, .ladd, 0, 0, .null, []), (7, .lreturn, 0, 0, .null, [])]
-- 95: X4_withPieces (J)J
def cd_95 : List (Nat × hx_CE) := [(0, (.lload_n 1), 0, 0, .null, []), (1, (.lstore_n 3), 0, 0, .null, [1, 2, 4, 5, 6]), (2, (.iconst 0), 0, 0, .int (0), []), (3, (.istore 5), 0, 0, .null, [1, 2, 4, 6]), (5, (.iload 5), 0, 0, .null, []), (7, (.aload_n 0), 0, 0, .null, []), (8, (.getfield 12), 4, 0, .null, []), (11, (.getfield 73), 3, 0, .null, []), (14, (.if_icmp .ge 84), 98, 0, .null, []), (17, (.iconst 0), 0, 0, .int (0), []), (18, (.istore 6), 0, 0, .null, [1, 2, 4]), (20, (.iload 6), 0, 0, .null, []), (22, (.bipush 14), 0, 0, .int (14), []), (24, (.if_icmp .ge 26), 50, 0, .null, []), (27, (.lload_n 3), 0, 0, .null, []), (28, (.aload_n 0), 0, 0, .null, []), (29, (.getfield 12), 4, 0, .null, []), (32, (.iload 5), 0, 0, .null, []), (34, (.iload 6), 0, 0, .null, []), (36, (.invokevirtual 189), 42, 3, .null, [3]), (39, .i2l, 0, 0, .null, []), (40, (.invokestatic 236), 94, 2, .null, []), (43, (.lstore_n 3), 0, 0, .null, [1, 2, 4]), (44, (.iinc 6 1), 0, 0, .null, [1, 2, 4]), (47, (.goto (-27)), 20, 0, .null, [1, 2, 4]), (50, (.lload_n 3), 0, 0, .null, []), (51, (.aload_n 0), 0, 0, .null, []), (52, (.getfield 12), 4, 0, .null, []), (55, (.iload 5), 0, 0, .null, []), (57, (.invokevirtual 214), 48, 2, .null, [3]), (60, .i2l, 0, 0, .null, []), (61, (.invokestatic 236), 94, 2, .null, []), (64, (.lstore_n 3), 0, 0, .null, [1, 2, 4, 6]), (65, (.lload_n 3), 0, 0, .null, []), (66, (.aload_n 0), 0, 0, .null, []), (67, (.getfield 12), 4, 0, .null, []), (70, (.iload 5), 0, 0, .null, []), (72, (.invokevirtual 217), 49, 2, .null, [3]), (75, .i2l, 0, 0, .null, []), (76, (.invokestatic 236), 94, 2, .null, []), (79, (.lstore_n 3), 0, 0, .null, [1, 2, 4, 6]), (80, (.lload_n 3), 0, 0, .null, []), (81, (.aload_n 0), 0, 0, .null, []), (82, (.iload 5), 0, 0, .null, []), (84, (.invokevirtual 220), 91, 2, .null, [4]), (87, .i2l, 0, 0, .null, []), (88, (.invokestatic 236), 94, 2, .null, []), (91, (.lstore_n 3), 0, 0, .null, [1, 2, 4, 6]), (92, (.iinc 5 1), 0, 0, .null, [1, 2, 4, 6]), (95, (.goto (-90)), 5, 0, .null, [1, 2, 4, 6]), (98, (.iconst 0), 0, 0, .int (0), []), (99, (.istore 5), 0, 0, .null, [1, 2, 4, 6]), (101, (.iload 5), 0, 0, .null, []), (103, (.aload_n 0), 0, 0, .null, []), (104, (.getfield 12), 4, 0, .null, []), (107, (.getfield 73), 3, 0, .null, []), (110, (.if_icmp .ge 25), 135, 0, .null, []), (113, (.lload_n 3), 0, 0, .null, []), (114, (.aload_n 0), 0, 0, .null, []), (115, (.getfield 12), 4, 0, .null, []), (118, (.getfield 126), 3, 6, .null, []), (121, (.iload 5), 0, 0, .null, []), (123, .iaload, 0, 0, .null, []), (124, .i2l, 0, 0, .null, []), (125, (.invokestatic 236), 94, 2, .null, []), (128, (.lstore_n 3), 0, 0, .null, [1, 2, 4, 6]), (129, (.iinc 5 1), 0, 0, .null, [1, 2, 4, 6]), (132, (.goto (-31)), 101, 0, .null, [1, 2, 4, 6]), (135, (.lload_n 3), 0, 0, .null, []), (136, .lreturn, 0, 0, .null, [])]
-- 96: X4_withHoles (J)J
def cd_96 : List (Nat × hx_CE) := [(0, (.lload_n 1), 0, 0, .null, []), (1, (.lstore_n 3), 0, 0, .null, [1, 2, 4, 5, 6, 7]), (2, (.aload_n 0), 0, 0, .null, []), (3, (.invokevirtual 204), 90, 1, .null, [4]), (6, (.astore 5), 0, 0, .null, [0, 1, 2, 4, 6, 7]), (8, (.iconst 0), 0, 0, .int (0), []), (9, (.istore 6), 0, 0, .null, [0, 1, 2, 4, 7]), (11, (.iload 6), 0, 0, .null, []), (13, (.aload 5), 0, 0, .null, []), (15, (.getfield 313), 1, 2, .null, []), (18, (.if_icmp .ge 39), 57, 0, .null, []), (21, (.iconst 0), 0, 0, .int (0), []), (22, (.istore 7), 0, 0, .null, [0, 1, 2, 4]), (24, (.iload 7), 0, 0, .null, []), (26, (.iconst 5), 0, 0, .int (5), []), (27, (.if_icmp .ge 24), 51, 0, .null, []), (30, (.lload_n 3), 0, 0, .null, []), (31, (.aload 5), 0, 0, .null, []), (33, (.iload 6), 0, 0, .null, []), (35, (.iload 7), 0, 0, .null, []), (37, (.invokevirtual 208), 11, 3, .null, [1]), (40, .i2l, 0, 0, .null, []), (41, (.invokestatic 236), 94, 2, .null, []), (44, (.lstore_n 3), 0, 0, .null, [0, 1, 2, 4]), (45, (.iinc 7 1), 0, 0, .null, [0, 1, 2, 4]), (48, (.goto (-24)), 24, 0, .null, [0, 1, 2, 4]), (51, (.iinc 6 1), 0, 0, .null, [0, 1, 2, 4, 7]), (54, (.goto (-43)), 11, 0, .null, [0, 1, 2, 4, 7]), (57, (.lload_n 3), 0, 0, .null, []), (58, .lreturn, 0, 0, .null, [])]
-- 97: X4_withSlotsAndBuffer (J)J
def cd_97 : List (Nat × hx_CE) := [(0, (.lload_n 1), 0, 0, .null, []), (1, (.lstore_n 3), 0, 0, .null, [1, 2, 4, 5]), (2, (.iconst 0), 0, 0, .int (0), []), (3, (.istore 5), 0, 0, .null, [1, 2, 4]), (5, (.iload 5), 0, 0, .null, []), (7, (.iconst 2), 0, 0, .int (2), []), (8, (.if_icmp .ge 29), 37, 0, .null, []), (11, (.lload_n 3), 0, 0, .null, []), (12, (.aload_n 0), 0, 0, .null, []), (13, (.getfield 30), 4, 5, .null, []), (16, (.iload 5), 0, 0, .null, []), (18, .baload, 0, 0, .null, []), (19, (.ifCond .eq 7), 26, 0, .null, []), (22, (.lconst 1), 0, 0, .long 1, []), (23, (.goto 4), 27, 0, .null, [1, 2, 3, 4]), (26, (.lconst 0), 0, 0, .long 0, []), (27, (.invokestatic 236), 94, 2, .null, []), (30, (.lstore_n 3), 0, 0, .null, [1, 2, 4]), (31, (.iinc 5 1), 0, 0, .null, [1, 2, 4]), (34, (.goto (-29)), 5, 0, .null, [1, 2, 4]), (37, (.lload_n 3), 0, 0, .null, []), (38, (.aload_n 0), 0, 0, .null, []), (39, (.getfield 38), 4, 7, .null, []), (42, .i2l, 0, 0, .null, []), (43, (.invokestatic 236), 94, 2, .null, []), (46, (.lstore_n 3), 0, 0, .null, [1, 2, 4, 5]), (47, (.iconst 0), 0, 0, .int (0), []), (48, (.istore 5), 0, 0, .null, [1, 2, 4]), (50, (.iload 5), 0, 0, .null, []), (52, (.aload_n 0), 0, 0, .null, []), (53, (.getfield 38), 4, 7, .null, []), (56, (.if_icmp .ge 22), 78, 0, .null, []), (59, (.lload_n 3), 0, 0, .null, []), (60, (.aload_n 0), 0, 0, .null, []), (61, (.getfield 34), 4, 6, .null, []), (64, (.iload 5), 0, 0, .null, []), (66, .caload, 0, 0, .null, []), (67, .i2l, 0, 0, .null, []), (68, (.invokestatic 236), 94, 2, .null, []), (71, (.lstore_n 3), 0, 0, .null, [1, 2, 4]), (72, (.iinc 5 1), 0, 0, .null, [1, 2, 4]), (75, (.goto (-25)), 50, 0, .null, [1, 2, 4]), (78, (.lload_n 3), 0, 0, .null, []), (79, .lreturn, 0, 0, .null, [])]
-- 98: X4_bitsOfFloat (F)I
def cd_98 : List (Nat × hx_CE) := [(0, (.fload_n 0), 0, 0, .null, []), (1, (.fconst 0), 0, 0, .float FP.fconst0, []), (2, (.fcmp .l), 0, 0, .null, []), (3, (.ifCond .ne 5), 8, 0, .null, []), (6, (.iconst 0), 0, 0, .int (0), []), (7, .ireturn, 0, 0, .null, []), (8, (.fload_n 0), 0, 0, .null, []), (9, (.fconst 0), 0, 0, .float FP.fconst0, []), (10, (.fcmp .g), 0, 0, .null, []), (11, (.ifCond .ge 8), 19, 0, .null, []), (14, (.fload_n 0), 0, 0, .null, []), (15, .fneg, 0, 0, .null, []), (16, (.goto 4), 20, 0, .null, [1, 2, 3]), (19, (.fload_n 0), 0, 0, .null, []), (20, (.fstore_n 1), 0, 0, .null, [2, 3]), (21, (.bipush 127), 0, 0, .int (127), []), (23, (.istore_n 2), 0, 0, .null, [3]), (24, (.iconst 0), 0, 0, .int (0), []), (25, (.istore_n 3), 0, 0, .null, []), (26, (.iload_n 3), 0, 0, .null, []), (27, (.bipush 127), 0, 0, .int (127), []), (29, (.if_icmp .ge 22), 51, 0, .null, []), (32, (.fload_n 1), 0, 0, .null, []), (33, (.fconst 2), 0, 0, .float FP.fconst2, []), (34, (.fcmp .l), 0, 0, .null, []), (35, (.ifCond .lt 16), 51, 0, .null, []), (38, (.fload_n 1), 0, 0, .null, []), (39, (.fconst 2), 0, 0, .float FP.fconst2, []), (40, .fdiv, 0, 0, .null, []), (41, (.fstore_n 1), 0, 0, .null, []), (42, (.iinc 2 1), 0, 0, .null, []), (45, (.iinc 3 1), 0, 0, .null, []), (48, (.goto (-22)), 26, 0, .null, []), (51, (.iconst 0), 0, 0, .int (0), []), (52, (.istore_n 3), 0, 0, .null, []), (53, (.iload_n 3), 0, 0, .null, []), (54, (.bipush 126), 0, 0, .int (126), []), (56, (.if_icmp .ge 22), 78, 0, .null, []), (59, (.fload_n 1), 0, 0, .null, []), (60, (.fconst 1), 0, 0, .float FP.fconst1, []), (61, (.fcmp .g), 0, 0, .null, []), (62, (.ifCond .ge 16), 78, 0, .null, []), (65, (.fload_n 1), 0, 0, .null, []), (66, (.fconst 2), 0, 0, .float FP.fconst2, []), (67, .fmul, 0, 0, .null, []), (68, (.fstore_n 1), 0, 0, .null, []), (69, (.iinc 2 (-1)), 0, 0, .null, []), (72, (.iinc 3 1), 0, 0, .null, []), (75, (.goto (-22)), 53, 0, .null, []), (78, (.fload_n 0), 0, 0, .null, []), (79, (.fconst 0), 0, 0, .float FP.fconst0, []), (80, (.fcmp .g), 0, 0, .null, []), (81, (.ifCond .ge 9), 90, 0, .null, []), (84, (.ldc_w 327), 0, 0, .int (-2147483648), []), (87, (.goto 4), 91, 0, .null, [0, 3]), (90, (.iconst 0), 0, 0, .int (0), []), (91, (.istore_n 3), 0, 0, .null, [0]), (92, (.iload_n 3), 0, 0, .null, []), (93, (.iload_n 2), 0, 0, .null, []), (94, (.bipush 23), 0, 0, .int (23), []), (96, .ishl, 0, 0, .null, []), (97, .ior, 0, 0, .null, []), (98, (.fload_n 1), 0, 0, .null, []), (99, (.fconst 1), 0, 0, .float FP.fconst1, []), (100, .fsub, 0, 0, .null, []), (101, (.ldc_w 328), 0, 0, .float (1258291200), []), (104, .fmul, 0, 0, .null, []), (105, .f2i, 0, 0, .null, []), (106, .ior, 0, 0, .null, []), (107, .ireturn, 0, 0, .null, [])]
-- 99: X4_bitsOfDouble (D)J
def cd_99 : List (Nat × hx_CE) := [(0, (.dload_n 0), 0, 0, .null, []), (1, (.dconst 0), 0, 0, .double FP.dconst0, []), (2, (.dcmp .g), 0, 0, .null, []), (3, (.ifCond .gt 5), 8, 0, .null, []), (6, (.lconst 0), 0, 0, .long 0, []), (7, .lreturn, 0, 0, .null, []), (8, (.dload_n 0), 0, 0, .null, []), (9, (.dstore_n 2), 0, 0, .null, [0, 1, 3, 4, 5, 6]), (10, (.ldc2_w 329), 0, 0, .long (1023), []), (13, (.lstore 4), 0, 0, .null, [0, 1, 3, 5, 6]), (15, (.iconst 0), 0, 0, .int (0), []), (16, (.istore 6), 0, 0, .null, [0, 1, 3, 5]), (18, (.iload 6), 0, 0, .null, []), (20, (.sipush 1023), 0, 0, .int (1023), []), (23, (.if_icmp .ge 29), 52, 0, .null, []), (26, (.dload_n 2), 0, 0, .null, []), (27, (.ldc2_w 331), 0, 0, .double (4611686018427387904), []), (30, (.dcmp .l), 0, 0, .null, []), (31, (.ifCond .lt 21), 52, 0, .null, []), (34, (.dload_n 2), 0, 0, .null, []), (35, (.ldc2_w 331), 0, 0, .double (4611686018427387904), []), (38, .ddiv, 0, 0, .null, []), (39, (.dstore_n 2), 0, 0, .null, [0, 1, 3, 5]), (40, (.lload 4), 0, 0, .null, []), (42, (.lconst 1), 0, 0, .long 1, []), (43, .ladd, 0, 0, .null, []), (44, (.lstore 4), 0, 0, .null, [0, 1, 3, 5]), (46, (.iinc 6 1), 0, 0, .null, [0, 1, 3, 5]), (49, (.goto (-31)), 18, 0, .null, [0, 1, 3, 5]), (52, (.iconst 0), 0, 0, .int (0), []), (53, (.istore 6), 0, 0, .null, [0, 1, 3, 5]), (55, (.iload 6), 0, 0, .null, []), (57, (.sipush 1022), 0, 0, .int (1022), []), (60, (.if_icmp .ge 27), 87, 0, .null, []), (63, (.dload_n 2), 0, 0, .null, []), (64, (.dconst 1), 0, 0, .double FP.dconst1, []), (65, (.dcmp .g), 0, 0, .null, []), (66, (.ifCond .ge 21), 87, 0, .null, []), (69, (.dload_n 2), 0, 0, .null, []), (70, (.ldc2_w 331), 0, 0, .double (4611686018427387904), []), (73, .dmul, 0, 0, .null, []), (74, (.dstore_n 2), 0, 0, .null, [0, 1, 3, 5]), (75, (.lload 4), 0, 0, .null, []), (77, (.lconst 1), 0, 0, .long 1, []), (78, .lsub, 0, 0, .null, []), (79, (.lstore 4), 0, 0, .null, [0, 1, 3, 5]), (81, (.iinc 6 1), 0, 0, .null, [0, 1, 3, 5]), (84, (.goto (-29)), 55, 0, .null, [0, 1, 3, 5]), (87, (.lload 4), 0, 0, .null, []), (89, (.bipush 52), 0, 0, .int (52), []), (91, .lshl, 0, 0, .null, []), (92, (.dload_n 2), 0, 0, .null, []), (93, (.dconst 1), 0, 0, .double FP.dconst1, []), (94, .dsub, 0, 0, .null, []), (95, (.ldc2_w 333), 0, 0, .double (4841369599423283200), []), (98, .dmul, 0, 0, .null, []), (99, .d2l, 0, 0, .null, []), (100, .lor, 0, 0, .null, []), (101, .lreturn, 0, 0, .null, [])]
-- 100: X5_init ()V
def cd_100 : List (Nat × hx_CE) := [(0, (.aload_n 0), 0, 0, .null, []), (1, (.invokespecial 1), 0, 0, .null, [0, 0]), (4, (.aload_n 0), 0, 0, .null, []), (5, (.bipush 102), 0, 0, .int (102), []), (7, (.newarray .int), 0, 0, .null, []), (9, (.putfield 7), 5, 1, .null, []), (12, (.aload_n 0), 0, 0, .null, []), (13, (.bipush 102), 0, 0, .int (102), []), (15, (.newarray .int), 0, 0, .null, []), (17, (.putfield 13), 5, 2, .null, []), (20, (.aload_n 0), 0, 0, .null, []), (21, (.sipush 612), 0, 0, .int (612), []), (24, (.newarray .int), 0, 0, .null, []), (26, (.putfield 16), 5, 3, .null, []), (29, (.aload_n 0), 0, 0, .null, []), (30, (.sipush 204), 0, 0, .int (204), []), (33, (.newarray .int), 0, 0, .null, []), (35, (.putfield 19), 5, 5, .null, []), (38, (.aload_n 0), 0, 0, .null, []), (39, (.bipush 60), 0, 0, .int (60), []), (41, (.newarray .int), 0, 0, .null, []), (43, (.putfield 22), 5, 7, .null, []), (46, (.aload_n 0), 0, 0, .null, []), (47, (.sipush 896), 0, 0, .int (896), []), (50, (.newarray .int), 0, 0, .null, []), (52, (.putfield 25), 5, 9, .null, []), (55, (.aload_n 0), 0, 0, .null, []), (56, (.bipush 28), 0, 0, .int (28), []), (58, (.newarray .int), 0, 0, .null, []), (60, (.putfield 28), 5, 11, .null, []), (63, (.aload_n 0), 0, 0, .null, []), (64, (.bipush 28), 0, 0, .int (28), []), (66, (.newarray .int), 0, 0, .null, []), (68, (.putfield 31), 5, 12, .null, []), (71, (.aload_n 0), 0, 0, .null, []), (72, (.bipush 13), 0, 0, .int (13), []), (74, (.newarray .int), 0, 0, .null, []), (76, (.putfield 34), 5, 15, .null, []), (79, (.aload_n 0), 0, 0, .null, []), (80, (.getfield 7), 5, 1, .null, []), (83, (.bipush 100), 0, 0, .int (100), []), (85, (.iconst 1), 0, 0, .int (1), []), (86, .iastore, 0, 0, .null, []), (87, .return_, 0, 0, .null, [])]
-- 101: X5_thrown ()I
def cd_101 : List (Nat × hx_CE) := [(0, (.aload_n 0), 0, 0, .null, []), (1, (.getfield 37), 5, 0, .null, []), (4, .ireturn, 0, 0, .null, [])]
-- 102: X5_in (III)Z
def cd_102 : List (Nat × hx_CE) := [(0, (.iload_n 0), 0, 0, .null, []), (1, (.iload_n 1), 0, 0, .null, []), (2, (.if_icmp .lt 12), 14, 0, .null, []), (5, (.iload_n 0), 0, 0, .null, []), (6, (.iload_n 2), 0, 0, .null, []), (7, (.if_icmp .gt 7), 14, 0, .null, []), (10, (.iconst 1), 0, 0, .int (1), []), (11, (.goto 4), 15, 0, .null, [0, 1, 2]), (14, (.iconst 0), 0, 0, .int (0), []), (15, .ireturn, 0, 0, .null, [])]
-- 103: X5_holds (I)Z
def cd_103 : List (Nat × hx_CE) := [(0, (.aload_n 0), 0, 0, .null, []), (1, (.iload_n 1), 0, 0, .null, []), (2, (.putfield 37), 5, 0, .null, []), (5, (.iload_n 1), 0, 0, .null, []), (6, (.ifCond .ne 7), 13, 0, .null, []), (9, (.iconst 1), 0, 0, .int (1), []), (10, (.goto 4), 14, 0, .null, [0, 1]), (13, (.iconst 0), 0, 0, .int (0), []), (14, .ireturn, 0, 0, .null, [])]
-- 104: X5_isPiece (I)Z
def cd_104 : List (Nat × hx_CE) := [(0, (.iload_n 1), 0, 0, .null, []), (1, (.iconst 0), 0, 0, .int (0), []), (2, (.aload_n 0), 0, 0, .null, []), (3, (.getfield 7), 5, 1, .null, []), (6, (.bipush 98), 0, 0, .int (98), []), (8, .iaload, 0, 0, .null, []), (9, (.iconst 1), 0, 0, .int (1), []), (10, .isub, 0, 0, .null, []), (11, (.invokestatic 41), 102, 3, .null, []), (14, .ireturn, 0, 0, .null, [])]
-- 105: X5_of (II)I
def cd_105 : List (Nat × hx_CE) := [(0, (.iconst 0), 0, 0, .int (0), []), (1, (.bipush 13), 0, 0, .int (13), []), (3, (.iload_n 0), 0, 0, .null, []), (4, .imul, 0, 0, .null, []), (5, .iadd, 0, 0, .null, []), (6, (.iload_n 1), 0, 0, .null, []), (7, .iadd, 0, 0, .null, []), (8, .ireturn, 0, 0, .null, [])]
-- 106: X5_save ()V
def cd_106 : List (Nat × hx_CE) := [(0, (.aload_n 0), 0, 0, .null, []), (1, (.getfield 45), 5, 4, .null, []), (4, (.bipush 6), 0, 0, .int (6), []), (6, (.if_icmp .ne 43), 49, 0, .null, []), (9, (.iconst 0), 0, 0, .int (0), []), (10, (.istore_n 1), 0, 0, .null, []), (11, (.iload_n 1), 0, 0, .null, []), (12, (.sipush 510), 0, 0, .int (510), []), (15, (.if_icmp .ge 24), 39, 0, .null, []), (18, (.aload_n 0), 0, 0, .null, []), (19, (.getfield 16), 5, 3, .null, []), (22, (.iload_n 1), 0, 0, .null, []), (23, (.aload_n 0), 0, 0, .null, []), (24, (.getfield 16), 5, 3, .null, []), (27, (.iload_n 1), 0, 0, .null, []), (28, (.bipush 102), 0, 0, .int (102), []), (30, .iadd, 0, 0, .null, []), (31, .iaload, 0, 0, .null, []), (32, .iastore, 0, 0, .null, []), (33, (.iinc 1 1), 0, 0, .null, []), (36, (.goto (-25)), 11, 0, .null, []), (39, (.aload_n 0), 0, 0, .null, []), (40, .dup, 0, 0, .null, []), (41, (.getfield 45), 5, 4, .null, []), (44, (.iconst 1), 0, 0, .int (1), []), (45, .isub, 0, 0, .null, []), (46, (.putfield 45), 5, 4, .null, []), (49, (.iconst 0), 0, 0, .int (0), []), (50, (.istore_n 1), 0, 0, .null, []), (51, (.iload_n 1), 0, 0, .null, []), (52, (.bipush 102), 0, 0, .int (102), []), (54, (.if_icmp .ge 29), 83, 0, .null, []), (57, (.aload_n 0), 0, 0, .null, []), (58, (.getfield 16), 5, 3, .null, []), (61, (.bipush 102), 0, 0, .int (102), []), (63, (.aload_n 0), 0, 0, .null, []), (64, (.getfield 45), 5, 4, .null, []), (67, .imul, 0, 0, .null, []), (68, (.iload_n 1), 0, 0, .null, []), (69, .iadd, 0, 0, .null, []), (70, (.aload_n 0), 0, 0, .null, []), (71, (.getfield 7), 5, 1, .null, []), (74, (.iload_n 1), 0, 0, .null, []), (75, .iaload, 0, 0, .null, []), (76, .iastore, 0, 0, .null, []), (77, (.iinc 1 1), 0, 0, .null, []), (80, (.goto (-29)), 51, 0, .null, []), (83, (.aload_n 0), 0, 0, .null, []), (84, .dup, 0, 0, .null, []), (85, (.getfield 45), 5, 4, .null, []), (88, (.iconst 1), 0, 0, .int (1), []), (89, .iadd, 0, 0, .null, []), (90, (.putfield 45), 5, 4, .null, []), (93, .return_, 0, 0, .null, [])]
-- 107: X5_putAside ()V
def cd_107 : List (Nat × hx_CE) := [(0, (.iconst 0), 0, 0, .int (0), []), (1, (.istore_n 1), 0, 0, .null, []), (2, (.iload_n 1), 0, 0, .null, []), (3, (.bipush 102), 0, 0, .int (102), []), (5, (.if_icmp .ge 21), 26, 0, .null, []), (8, (.aload_n 0), 0, 0, .null, []), (9, (.getfield 13), 5, 2, .null, []), (12, (.iload_n 1), 0, 0, .null, []), (13, (.aload_n 0), 0, 0, .null, []), (14, (.getfield 7), 5, 1, .null, []), (17, (.iload_n 1), 0, 0, .null, []), (18, .iaload, 0, 0, .null, []), (19, .iastore, 0, 0, .null, []), (20, (.iinc 1 1), 0, 0, .null, []), (23, (.goto (-21)), 2, 0, .null, []), (26, .return_, 0, 0, .null, [])]
-- 108: X5_putBack ()V
def cd_108 : List (Nat × hx_CE) := [(0, (.iconst 0), 0, 0, .int (0), []), (1, (.istore_n 1), 0, 0, .null, []), (2, (.iload_n 1), 0, 0, .null, []), (3, (.bipush 102), 0, 0, .int (102), []), (5, (.if_icmp .ge 21), 26, 0, .null, []), (8, (.aload_n 0), 0, 0, .null, []), (9, (.getfield 7), 5, 1, .null, []), (12, (.iload_n 1), 0, 0, .null, []), (13, (.aload_n 0), 0, 0, .null, []), (14, (.getfield 13), 5, 2, .null, []), (17, (.iload_n 1), 0, 0, .null, []), (18, .iaload, 0, 0, .null, []), (19, .iastore, 0, 0, .null, []), (20, (.iinc 1 1), 0, 0, .null, []), (23, (.goto (-21)), 2, 0, .null, []), (26, .return_, 0, 0, .null, [])]
-- 109: X5_size (I)I
def cd_109 : List (Nat × hx_CE) := [(0, (.iload_n 0), 0, 0, .null, []), (1, (.ifCond .ge 8), 9, 0, .null, []), (4, (.iload_n 0), 0, 0, .null, []), (5, .ineg, 0, 0, .null, []), (6, (.goto 4), 10, 0, .null, [0]), (9, (.iload_n 0), 0, 0, .null, []), (10, .ireturn, 0, 0, .null, [])]
-- 110: X5_joinOf (II)I
def cd_110 : List (Nat × hx_CE) := [(0, (.iconst 0), 0, 0, .int (0), []), (1, (.istore_n 3), 0, 0, .null, [4]), (2, (.iconst 0), 0, 0, .int (0), []), (3, (.istore 4), 0, 0, .null, []), (5, (.iload 4), 0, 0, .null, []), (7, (.iconst 4), 0, 0, .int (4), []), (8, (.if_icmp .ge 45), 53, 0, .null, []), (11, (.iload_n 3), 0, 0, .null, []), (12, (.aload_n 0), 0, 0, .null, []), (13, (.getfield 7), 5, 1, .null, []), (16, (.iload_n 1), 0, 0, .null, []), (17, (.bipush 6), 0, 0, .int (6), []), (19, (.iload 4), 0, 0, .null, []), (21, .iadd, 0, 0, .null, []), (22, (.invokestatic 48), 105, 2, .null, []), (25, .iaload, 0, 0, .null, []), (26, (.aload_n 0), 0, 0, .null, []), (27, (.getfield 7), 5, 1, .null, []), (30, (.iload_n 2), 0, 0, .null, []), (31, (.iconst 1), 0, 0, .int (1), []), (32, (.iload 4), 0, 0, .null, []), (34, .iadd, 0, 0, .null, []), (35, (.invokestatic 48), 105, 2, .null, []), (38, .iaload, 0, 0, .null, []), (39, .iadd, 0, 0, .null, []), (40, (.iconst 5), 0, 0, .int (5), []), (41, .isub, 0, 0, .null, []), (42, (.invokestatic 52), 109, 1, .null, []), (45, .iadd, 0, 0, .null, []), (46, (.istore_n 3), 0, 0, .null, []), (47, (.iinc 4 1), 0, 0, .null, []), (50, (.goto (-45)), 5, 0, .null, []), (53, (.iload_n 3), 0, 0, .null, []), (54, (.iconst 2), 0, 0, .int (2), []), (55, (.aload_n 0), 0, 0, .null, []), (56, (.getfield 7), 5, 1, .null, []), (59, (.iload_n 1), 0, 0, .null, []), (60, (.bipush 10), 0, 0, .int (10), []), (62, (.invokestatic 48), 105, 2, .null, []), (65, .iaload, 0, 0, .null, []), (66, (.aload_n 0), 0, 0, .null, []), (67, (.getfield 7), 5, 1, .null, []), (70, (.iload_n 2), 0, 0, .null, []), (71, (.iconst 5), 0, 0, .int (5), []), (72, (.invokestatic 48), 105, 2, .null, []), (75, .iaload, 0, 0, .null, []), (76, .isub, 0, 0, .null, []), (77, (.invokestatic 52), 109, 1, .null, []), (80, .imul, 0, 0, .null, []), (81, .iadd, 0, 0, .null, []), (82, .ireturn, 0, 0, .null, [])]
-- 111: X5_rowCost ()I
def cd_111 : List (Nat × hx_CE) := [(0, (.iconst 0), 0, 0, .int (0), []), (1, (.istore_n 1), 0, 0, .null, [2]), (2, (.iconst 1), 0, 0, .int (1), []), (3, (.istore_n 2), 0, 0, .null, []), (4, (.iload_n 2), 0, 0, .null, []), (5, (.aload_n 0), 0, 0, .null, []), (6, (.getfield 7), 5, 1, .null, []), (9, (.bipush 98), 0, 0, .int (98), []), (11, .iaload, 0, 0, .null, []), (12, (.if_icmp .ge 36), 48, 0, .null, []), (15, (.iload_n 1), 0, 0, .null, []), (16, (.aload_n 0), 0, 0, .null, []), (17, (.aload_n 0), 0, 0, .null, []), (18, (.getfield 7), 5, 1, .null, []), (21, (.bipush 91), 0, 0, .int (91), []), (23, (.iload_n 2), 0, 0, .null, []), (24, .iadd, 0, 0, .null, []), (25, (.iconst 1), 0, 0, .int (1), []), (26, .isub, 0, 0, .null, []), (27, .iaload, 0, 0, .null, []), (28, (.aload_n 0), 0, 0, .null, []), (29, (.getfield 7), 5, 1, .null, []), (32, (.bipush 91), 0, 0, .int (91), []), (34, (.iload_n 2), 0, 0, .null, []), (35, .iadd, 0, 0, .null, []), (36, .iaload, 0, 0, .null, []), (37, (.invokevirtual 56), 110, 3, .null, [5]), (40, .iadd, 0, 0, .null, []), (41, (.istore_n 1), 0, 0, .null, []), (42, (.iinc 2 1), 0, 0, .null, []), (45, (.goto (-41)), 4, 0, .null, []), (48, (.iload_n 1), 0, 0, .null, []), (49, .ireturn, 0, 0, .null, [])]
-- 112: X5_placeOf (I)I
def cd_112 : List (Nat × hx_CE) := [(0, (.iconst 0), 0, 0, .int (0), []), (1, (.istore_n 2), 0, 0, .null, []), (2, (.aload_n 0), 0, 0, .null, []), (3, (.getfield 7), 5, 1, .null, []), (6, (.bipush 91), 0, 0, .int (91), []), (8, (.iload_n 2), 0, 0, .null, []), (9, .iadd, 0, 0, .null, []), (10, .iaload, 0, 0, .null, []), (11, (.iload_n 1), 0, 0, .null, []), (12, (.if_icmp .eq 9), 21, 0, .null, []), (15, (.iinc 2 1), 0, 0, .null, []), (18, (.goto (-16)), 2, 0, .null, []), (21, (.iload_n 2), 0, 0, .null, []), (22, .ireturn, 0, 0, .null, [])]
-- 113: X5_beginOf (I)I
def cd_113 : List (Nat × hx_CE) := [(0, (.iconst 0), 0, 0, .int (0), []), (1, (.istore_n 2), 0, 0, .null, [3]), (2, (.iconst 0), 0, 0, .int (0), []), (3, (.istore_n 3), 0, 0, .null, []), (4, (.iload_n 3), 0, 0, .null, []), (5, (.aload_n 0), 0, 0, .null, []), (6, (.iload_n 1), 0, 0, .null, []), (7, (.invokevirtual 59), 112, 2, .null, [5]), (10, (.if_icmp .ge 30), 40, 0, .null, []), (13, (.iload_n 2), 0, 0, .null, []), (14, (.aload_n 0), 0, 0, .null, []), (15, (.getfield 7), 5, 1, .null, []), (18, (.aload_n 0), 0, 0, .null, []), (19, (.getfield 7), 5, 1, .null, []), (22, (.bipush 91), 0, 0, .int (91), []), (24, (.iload_n 3), 0, 0, .null, []), (25, .iadd, 0, 0, .null, []), (26, .iaload, 0, 0, .null, []), (27, (.iconst 0), 0, 0, .int (0), []), (28, (.invokestatic 48), 105, 2, .null, []), (31, .iaload, 0, 0, .null, []), (32, .iadd, 0, 0, .null, []), (33, (.istore_n 2), 0, 0, .null, []), (34, (.iinc 3 1), 0, 0, .null, []), (37, (.goto (-33)), 4, 0, .null, []), (40, (.iload_n 2), 0, 0, .null, []), (41, .ireturn, 0, 0, .null, [])]
-- 114: X5_worksOut ()I
def cd_114 : List (Nat × hx_CE) := [(0, (.aload_n 0), 0, 0, .null, []), (1, (.getfield 7), 5, 1, .null, []), (4, (.bipush 98), 0, 0, .int (98), []), (6, .iaload, 0, 0, .null, []), (7, (.istore_n 1), 0, 0, .null, [2, 3, 4, 5]), (8, (.iconst 1), 0, 0, .int (1), []), (9, (.iload_n 1), 0, 0, .null, []), (10, .ishl, 0, 0, .null, []), (11, (.iconst 1), 0, 0, .int (1), []), (12, .isub, 0, 0, .null, []), (13, (.istore_n 2), 0, 0, .null, [3, 4, 5]), (14, (.iload_n 2), 0, 0, .null, []), (15, (.istore_n 3), 0, 0, .null, [4, 5]), (16, (.iload_n 3), 0, 0, .null, []), (17, (.ifCond .le 52), 69, 0, .null, []), (20, (.iconst 0), 0, 0, .int (0), []), (21, (.istore 4), 0, 0, .null, [5]), (23, (.iload 4), 0, 0, .null, []), (25, (.iload_n 1), 0, 0, .null, []), (26, (.if_icmp .ge 37), 63, 0, .null, []), (29, (.aload_n 0), 0, 0, .null, []), (30, (.getfield 25), 5, 9, .null, []), (33, (.bipush 7), 0, 0, .int (7), []), (35, (.iload_n 3), 0, 0, .null, []), (36, .imul, 0, 0, .null, []), (37, (.iload 4), 0, 0, .null, []), (39, .iadd, 0, 0, .null, []), (40, (.iload_n 3), 0, 0, .null, []), (41, (.iload_n 2), 0, 0, .null, []), (42, (.if_icmp .ne 7), 49, 0, .null, []), (45, (.iconst 0), 0, 0, .int (0), []), (46, (.goto 10), 56, 0, .null, [5]), (49, (.aload_n 0), 0, 0, .null, []), (50, (.iload_n 3), 0, 0, .null, []), (51, (.iload 4), 0, 0, .null, []), (53, (.invokevirtual 62), 115, 3, .null, [5]), (56, .iastore, 0, 0, .null, []), (57, (.iinc 4 1), 0, 0, .null, [5]), (60, (.goto (-37)), 23, 0, .null, [5]), (63, (.iinc 3 (-1)), 0, 0, .null, [4, 5]), (66, (.goto (-50)), 16, 0, .null, [4, 5]), (69, (.iconst 0), 0, 0, .int (0), []), (70, (.istore_n 3), 0, 0, .null, [2, 4, 5]), (71, (.iconst 0), 0, 0, .int (0), []), (72, (.istore 4), 0, 0, .null, [2, 5]), (74, (.iload 4), 0, 0, .null, []), (76, (.iload_n 1), 0, 0, .null, []), (77, (.if_icmp .ge 44), 121, 0, .null, []), (80, (.aload_n 0), 0, 0, .null, []), (81, (.getfield 25), 5, 9, .null, []), (84, (.bipush 7), 0, 0, .int (7), []), (86, (.iconst 1), 0, 0, .int (1), []), (87, (.iload 4), 0, 0, .null, []), (89, .ishl, 0, 0, .null, []), (90, .imul, 0, 0, .null, []), (91, (.iload 4), 0, 0, .null, []), (93, .iadd, 0, 0, .null, []), (94, .iaload, 0, 0, .null, []), (95, (.istore 5), 0, 0, .null, [2]), (97, (.iload 4), 0, 0, .null, []), (99, (.ifCond .eq 9), 108, 0, .null, []), (102, (.iload 5), 0, 0, .null, []), (104, (.iload_n 3), 0, 0, .null, []), (105, (.if_icmp .ge 8), 113, 0, .null, []), (108, (.iload 5), 0, 0, .null, []), (110, (.goto 4), 114, 0, .null, [2, 3, 5]), (113, (.iload_n 3), 0, 0, .null, []), (114, (.istore_n 3), 0, 0, .null, [2, 5]), (115, (.iinc 4 1), 0, 0, .null, [2, 5]), (118, (.goto (-44)), 74, 0, .null, [2, 5]), (121, (.iload_n 3), 0, 0, .null, []), (122, .ireturn, 0, 0, .null, [])]
-- 115: X5_restOf (II)I
def cd_115 : List (Nat × hx_CE) := [(0, (.ldc 65), 0, 0, .int (1000000), []), (2, (.istore_n 3), 0, 0, .null, [4, 5]), (3, (.iconst 0), 0, 0, .int (0), []), (4, (.istore 4), 0, 0, .null, [5]), (6, (.iload 4), 0, 0, .null, []), (8, (.aload_n 0), 0, 0, .null, []), (9, (.getfield 7), 5, 1, .null, []), (12, (.bipush 98), 0, 0, .int (98), []), (14, .iaload, 0, 0, .null, []), (15, (.if_icmp .ge 64), 79, 0, .null, []), (18, (.iload_n 1), 0, 0, .null, []), (19, (.iload 4), 0, 0, .null, []), (21, .ishr, 0, 0, .null, []), (22, (.iconst 1), 0, 0, .int (1), []), (23, .iand, 0, 0, .null, []), (24, (.iconst 1), 0, 0, .int (1), []), (25, (.if_icmp .ne 8), 33, 0, .null, []), (28, (.ldc 65), 0, 0, .int (1000000), []), (30, (.goto 28), 58, 0, .null, [5]), (33, (.aload_n 0), 0, 0, .null, []), (34, (.iload_n 2), 0, 0, .null, []), (35, (.iload 4), 0, 0, .null, []), (37, (.invokevirtual 56), 110, 3, .null, [5]), (40, (.aload_n 0), 0, 0, .null, []), (41, (.getfield 25), 5, 9, .null, []), (44, (.bipush 7), 0, 0, .int (7), []), (46, (.iload_n 1), 0, 0, .null, []), (47, (.iconst 1), 0, 0, .int (1), []), (48, (.iload 4), 0, 0, .null, []), (50, .ishl, 0, 0, .null, []), (51, .ior, 0, 0, .null, []), (52, .imul, 0, 0, .null, []), (53, (.iload 4), 0, 0, .null, []), (55, .iadd, 0, 0, .null, []), (56, .iaload, 0, 0, .null, []), (57, .iadd, 0, 0, .null, []), (58, (.istore 5), 0, 0, .null, []), (60, (.iload 5), 0, 0, .null, []), (62, (.iload_n 3), 0, 0, .null, []), (63, (.if_icmp .ge 8), 71, 0, .null, []), (66, (.iload 5), 0, 0, .null, []), (68, (.goto 4), 72, 0, .null, [3, 5]), (71, (.iload_n 3), 0, 0, .null, []), (72, (.istore_n 3), 0, 0, .null, [5]), (73, (.iinc 4 1), 0, 0, .null, [5]), (76, (.goto (-70)), 6, 0, .null, [5]), (79, (.iload_n 3), 0, 0, .null, []), (80, .ireturn, 0, 0, .null, [])]
-- 116: X5_sorts ()V
def cd_116 : List (Nat × hx_CE) := [(0, (.aload_n 0), 0, 0, .null, []), (1, (.invokevirtual 66), 114, 1, .null, [5]), (4, (.istore_n 1), 0, 0, .null, [2, 3, 4, 5, 6, 7]), (5, (.iconst 0), 0, 0, .int (0), []), (6, (.istore_n 2), 0, 0, .null, [3, 4, 5, 6, 7]), (7, (.iconst 0), 0, 0, .int (0), []), (8, (.istore_n 3), 0, 0, .null, [4, 5, 6, 7]), (9, (.iload_n 3), 0, 0, .null, []), (10, (.aload_n 0), 0, 0, .null, []), (11, (.getfield 7), 5, 1, .null, []), (14, (.bipush 98), 0, 0, .int (98), []), (16, .iaload, 0, 0, .null, []), (17, (.if_icmp .ge 161), 178, 0, .null, []), (20, (.iconst (-1)), 0, 0, .int (-1), []), (21, (.istore 4), 0, 0, .null, [5, 6, 7]), (23, (.aload_n 0), 0, 0, .null, []), (24, (.getfield 7), 5, 1, .null, []), (27, (.bipush 98), 0, 0, .int (98), []), (29, .iaload, 0, 0, .null, []), (30, (.iconst 1), 0, 0, .int (1), []), (31, .isub, 0, 0, .null, []), (32, (.istore 5), 0, 0, .null, [6, 7]), (34, (.iload 5), 0, 0, .null, []), (36, (.ifCond .lt 90), 126, 0, .null, []), (39, (.iload_n 3), 0, 0, .null, []), (40, (.ifCond .ne 7), 47, 0, .null, []), (43, (.iconst 0), 0, 0, .int (0), []), (44, (.goto 20), 64, 0, .null, [6, 7]), (47, (.aload_n 0), 0, 0, .null, []), (48, (.aload_n 0), 0, 0, .null, []), (49, (.getfield 7), 5, 1, .null, []), (52, (.bipush 91), 0, 0, .int (91), []), (54, (.iload_n 3), 0, 0, .null, []), (55, .iadd, 0, 0, .null, []), (56, (.iconst 1), 0, 0, .int (1), []), (57, .isub, 0, 0, .null, []), (58, .iaload, 0, 0, .null, []), (59, (.iload 5), 0, 0, .null, []), (61, (.invokevirtual 56), 110, 3, .null, [5]), (64, (.istore 6), 0, 0, .null, [7]), (66, (.iload_n 2), 0, 0, .null, []), (67, (.iload 5), 0, 0, .null, []), (69, .ishr, 0, 0, .null, []), (70, (.iconst 1), 0, 0, .int (1), []), (71, .iand, 0, 0, .null, []), (72, (.ifCond .ne 31), 103, 0, .null, []), (75, (.iload 6), 0, 0, .null, []), (77, (.aload_n 0), 0, 0, .null, []), (78, (.getfield 25), 5, 9, .null, []), (81, (.bipush 7), 0, 0, .int (7), []), (83, (.iload_n 2), 0, 0, .null, []), (84, (.iconst 1), 0, 0, .int (1), []), (85, (.iload 5), 0, 0, .null, []), (87, .ishl, 0, 0, .null, []), (88, .ior, 0, 0, .null, []), (89, .imul, 0, 0, .null, []), (90, (.iload 5), 0, 0, .null, []), (92, .iadd, 0, 0, .null, []), (93, .iaload, 0, 0, .null, []), (94, .iadd, 0, 0, .null, []), (95, (.iload_n 1), 0, 0, .null, []), (96, (.if_icmp .ne 7), 103, 0, .null, []), (99, (.iconst 1), 0, 0, .int (1), []), (100, (.goto 4), 104, 0, .null, [6, 7]), (103, (.iconst 0), 0, 0, .int (0), []), (104, (.istore 7), 0, 0, .null, [6]), (106, (.iload 7), 0, 0, .null, []), (108, (.ifCond .eq 8), 116, 0, .null, []), (111, (.iload 5), 0, 0, .null, []), (113, (.goto 5), 118, 0, .null, [4, 6, 7]), (116, (.iload 4), 0, 0, .null, []), (118, (.istore 4), 0, 0, .null, [6, 7]), (120, (.iinc 5 (-1)), 0, 0, .null, [6, 7]), (123, (.goto (-89)), 34, 0, .null, [6, 7]), (126, (.iload_n 1), 0, 0, .null, []), (127, (.iload_n 3), 0, 0, .null, []), (128, (.ifCond .ne 7), 135, 0, .null, []), (131, (.iconst 0), 0, 0, .int (0), []), (132, (.goto 20), 152, 0, .null, [1, 5, 6, 7]), (135, (.aload_n 0), 0, 0, .null, []), (136, (.aload_n 0), 0, 0, .null, []), (137, (.getfield 7), 5, 1, .null, []), (140, (.bipush 91), 0, 0, .int (91), []), (142, (.iload_n 3), 0, 0, .null, []), (143, .iadd, 0, 0, .null, []), (144, (.iconst 1), 0, 0, .int (1), []), (145, .isub, 0, 0, .null, []), (146, .iaload, 0, 0, .null, []), (147, (.iload 4), 0, 0, .null, []), (149, (.invokevirtual 56), 110, 3, .null, [5]), (152, .isub, 0, 0, .null, []), (153, (.istore_n 1), 0, 0, .null, [5, 6, 7]), (154, (.aload_n 0), 0, 0, .null, []), (155, (.getfield 7), 5, 1, .null, []), (158, (.bipush 91), 0, 0, .int (91), []), (160, (.iload_n 3), 0, 0, .null, []), (161, .iadd, 0, 0, .null, []), (162, (.iload 4), 0, 0, .null, []), (164, .iastore, 0, 0, .null, []), (165, (.iload_n 2), 0, 0, .null, []), (166, (.iconst 1), 0, 0, .int (1), []), (167, (.iload 4), 0, 0, .null, []), (169, .ishl, 0, 0, .null, []), (170, .ior, 0, 0, .null, []), (171, (.istore_n 2), 0, 0, .null, [4, 5, 6, 7]), (172, (.iinc 3 1), 0, 0, .null, [4, 5, 6, 7]), (175, (.goto (-166)), 9, 0, .null, [4, 5, 6, 7]), (178, .return_, 0, 0, .null, [])]
-- 117: X5_moves (II)V
def cd_117 : List (Nat × hx_CE) := [(0, (.aload_n 0), 0, 0, .null, []), (1, (.iload_n 1), 0, 0, .null, []), (2, (.invokevirtual 59), 112, 2, .null, [5]), (5, (.istore_n 3), 0, 0, .null, [4]), (6, (.iload_n 3), 0, 0, .null, []), (7, (.iload_n 2), 0, 0, .null, []), (8, (.if_icmp .eq 44), 52, 0, .null, []), (11, (.iload_n 3), 0, 0, .null, []), (12, (.iload_n 2), 0, 0, .null, []), (13, (.if_icmp .ge 9), 22, 0, .null, []), (16, (.iload_n 3), 0, 0, .null, []), (17, (.iconst 1), 0, 0, .int (1), []), (18, .iadd, 0, 0, .null, []), (19, (.goto 6), 25, 0, .null, [4]), (22, (.iload_n 3), 0, 0, .null, []), (23, (.iconst 1), 0, 0, .int (1), []), (24, .isub, 0, 0, .null, []), (25, (.istore 4), 0, 0, .null, []), (27, (.aload_n 0), 0, 0, .null, []), (28, (.getfield 7), 5, 1, .null, []), (31, (.bipush 91), 0, 0, .int (91), []), (33, (.iload_n 3), 0, 0, .null, []), (34, .iadd, 0, 0, .null, []), (35, (.aload_n 0), 0, 0, .null, []), (36, (.getfield 7), 5, 1, .null, []), (39, (.bipush 91), 0, 0, .int (91), []), (41, (.iload 4), 0, 0, .null, []), (43, .iadd, 0, 0, .null, []), (44, .iaload, 0, 0, .null, []), (45, .iastore, 0, 0, .null, []), (46, (.iload 4), 0, 0, .null, []), (48, (.istore_n 3), 0, 0, .null, [4]), (49, (.goto (-43)), 6, 0, .null, [4]), (52, (.aload_n 0), 0, 0, .null, []), (53, (.getfield 7), 5, 1, .null, []), (56, (.bipush 91), 0, 0, .int (91), []), (58, (.iload_n 2), 0, 0, .null, []), (59, .iadd, 0, 0, .null, []), (60, (.iload_n 1), 0, 0, .null, []), (61, .iastore, 0, 0, .null, []), (62, .return_, 0, 0, .null, [])]
-- 118: X5_hasHole (II)Z
def cd_118 : List (Nat × hx_CE) := [(0, (.aload_n 0), 0, 0, .null, []), (1, (.getfield 7), 5, 1, .null, []), (4, (.iload_n 1), 0, 0, .null, []), (5, (.bipush 11), 0, 0, .int (11), []), (7, (.iload_n 2), 0, 0, .null, []), (8, (.bipush 30), 0, 0, .int (30), []), (10, .idiv, 0, 0, .null, []), (11, .iadd, 0, 0, .null, []), (12, (.invokestatic 48), 105, 2, .null, []), (15, .iaload, 0, 0, .null, []), (16, (.iload_n 2), 0, 0, .null, []), (17, (.bipush 30), 0, 0, .int (30), []), (19, .irem, 0, 0, .null, []), (20, .ishr, 0, 0, .null, []), (21, (.iconst 1), 0, 0, .int (1), []), (22, .iand, 0, 0, .null, []), (23, (.iconst 1), 0, 0, .int (1), []), (24, (.if_icmp .ne 7), 31, 0, .null, []), (27, (.iconst 1), 0, 0, .int (1), []), (28, (.goto 4), 32, 0, .null, [0, 1, 2]), (31, (.iconst 0), 0, 0, .int (0), []), (32, .ireturn, 0, 0, .null, [])]
-- 119: X5_holesOf (I)I
def cd_119 : List (Nat × hx_CE) := [(0, (.iconst 0), 0, 0, .int (0), []), (1, (.istore_n 2), 0, 0, .null, [3]), (2, (.iconst 0), 0, 0, .int (0), []), (3, (.istore_n 3), 0, 0, .null, []), (4, (.iload_n 3), 0, 0, .null, []), (5, (.bipush 60), 0, 0, .int (60), []), (7, (.if_icmp .ge 26), 33, 0, .null, []), (10, (.iload_n 2), 0, 0, .null, []), (11, (.aload_n 0), 0, 0, .null, []), (12, (.iload_n 1), 0, 0, .null, []), (13, (.iload_n 3), 0, 0, .null, []), (14, (.invokevirtual 70), 118, 3, .null, [5]), (17, (.ifCond .eq 7), 24, 0, .null, []), (20, (.iconst 1), 0, 0, .int (1), []), (21, (.goto 4), 25, 0, .null, [2]), (24, (.iconst 0), 0, 0, .int (0), []), (25, .iadd, 0, 0, .null, []), (26, (.istore_n 2), 0, 0, .null, []), (27, (.iinc 3 1), 0, 0, .null, []), (30, (.goto (-26)), 4, 0, .null, []), (33, (.iload_n 2), 0, 0, .null, []), (34, .ireturn, 0, 0, .null, [])]
-- 120: X5_findsHoles ()V
def cd_120 : List (Nat × hx_CE) := [(0, (.aload_n 0), 0, 0, .null, []), (1, (.iconst 0), 0, 0, .int (0), []), (2, (.putfield 74), 5, 10, .null, []), (5, (.iconst 0), 0, 0, .int (0), []), (6, (.istore_n 1), 0, 0, .null, [2, 3, 4]), (7, (.iconst 0), 0, 0, .int (0), []), (8, (.istore_n 2), 0, 0, .null, [3, 4]), (9, (.iload_n 2), 0, 0, .null, []), (10, (.aload_n 0), 0, 0, .null, []), (11, (.getfield 7), 5, 1, .null, []), (14, (.bipush 98), 0, 0, .int (98), []), (16, .iaload, 0, 0, .null, []), (17, (.if_icmp .ge 99), 116, 0, .null, []), (20, (.aload_n 0), 0, 0, .null, []), (21, (.getfield 7), 5, 1, .null, []), (24, (.bipush 91), 0, 0, .int (91), []), (26, (.iload_n 2), 0, 0, .null, []), (27, .iadd, 0, 0, .null, []), (28, .iaload, 0, 0, .null, []), (29, (.istore_n 3), 0, 0, .null, [4]), (30, (.iconst 0), 0, 0, .int (0), []), (31, (.istore 4), 0, 0, .null, []), (33, (.iload 4), 0, 0, .null, []), (35, (.aload_n 0), 0, 0, .null, []), (36, (.getfield 7), 5, 1, .null, []), (39, (.iload_n 3), 0, 0, .null, []), (40, (.iconst 0), 0, 0, .int (0), []), (41, (.invokestatic 48), 105, 2, .null, []), (44, .iaload, 0, 0, .null, []), (45, (.if_icmp .ge 52), 97, 0, .null, []), (48, (.aload_n 0), 0, 0, .null, []), (49, (.iload_n 3), 0, 0, .null, []), (50, (.iload 4), 0, 0, .null, []), (52, (.invokevirtual 70), 118, 3, .null, [5]), (55, (.ifCond .eq 36), 91, 0, .null, []), (58, (.aload_n 0), 0, 0, .null, []), (59, (.getfield 28), 5, 11, .null, []), (62, (.aload_n 0), 0, 0, .null, []), (63, (.getfield 74), 5, 10, .null, []), (66, (.iload_n 1), 0, 0, .null, []), (67, (.iload 4), 0, 0, .null, []), (69, .iadd, 0, 0, .null, []), (70, .iastore, 0, 0, .null, []), (71, (.aload_n 0), 0, 0, .null, []), (72, (.getfield 31), 5, 12, .null, []), (75, (.aload_n 0), 0, 0, .null, []), (76, (.getfield 74), 5, 10, .null, []), (79, (.iload_n 3), 0, 0, .null, []), (80, .iastore, 0, 0, .null, []), (81, (.aload_n 0), 0, 0, .null, []), (82, .dup, 0, 0, .null, []), (83, (.getfield 74), 5, 10, .null, []), (86, (.iconst 1), 0, 0, .int (1), []), (87, .iadd, 0, 0, .null, []), (88, (.putfield 74), 5, 10, .null, []), (91, (.iinc 4 1), 0, 0, .null, []), (94, (.goto (-61)), 33, 0, .null, []), (97, (.iload_n 1), 0, 0, .null, []), (98, (.aload_n 0), 0, 0, .null, []), (99, (.getfield 7), 5, 1, .null, []), (102, (.iload_n 3), 0, 0, .null, []), (103, (.iconst 0), 0, 0, .int (0), []), (104, (.invokestatic 48), 105, 2, .null, []), (107, .iaload, 0, 0, .null, []), (108, .iadd, 0, 0, .null, []), (109, (.istore_n 1), 0, 0, .null, [3, 4]), (110, (.iinc 2 1), 0, 0, .null, [3, 4]), (113, (.goto (-104)), 9, 0, .null, [3, 4]), (116, .return_, 0, 0, .null, [])]
-- 121: X5_distance (I)I
def cd_121 : List (Nat × hx_CE) := [(0, (.aload_n 0), 0, 0, .null, []), (1, (.getfield 28), 5, 11, .null, []), (4, (.iload_n 1), 0, 0, .null, []), (5, (.iconst 1), 0, 0, .int (1), []), (6, .iadd, 0, 0, .null, []), (7, .iaload, 0, 0, .null, []), (8, (.aload_n 0), 0, 0, .null, []), (9, (.getfield 28), 5, 11, .null, []), (12, (.iload_n 1), 0, 0, .null, []), (13, .iaload, 0, 0, .null, []), (14, .isub, 0, 0, .null, []), (15, .ireturn, 0, 0, .null, [])]
-- 122: X5_isWrongAt (I)Z
def cd_122 : List (Nat × hx_CE) := [(0, (.iload_n 1), 0, 0, .null, []), (1, (.ifCond .le 51), 52, 0, .null, []), (4, (.iload_n 1), 0, 0, .null, []), (5, (.aload_n 0), 0, 0, .null, []), (6, (.getfield 74), 5, 10, .null, []), (9, (.iconst 1), 0, 0, .int (1), []), (10, .isub, 0, 0, .null, []), (11, (.if_icmp .ge 41), 52, 0, .null, []), (14, (.aload_n 0), 0, 0, .null, []), (15, (.iload_n 1), 0, 0, .null, []), (16, (.invokevirtual 77), 121, 2, .null, [5]), (19, (.aload_n 0), 0, 0, .null, []), (20, (.iload_n 1), 0, 0, .null, []), (21, (.iconst 1), 0, 0, .int (1), []), (22, .isub, 0, 0, .null, []), (23, (.invokevirtual 77), 121, 2, .null, [5]), (26, .isub, 0, 0, .null, []), (27, (.aload_n 0), 0, 0, .null, []), (28, (.getfield 7), 5, 1, .null, []), (31, (.bipush 100), 0, 0, .int (100), []), (33, .iaload, 0, 0, .null, []), (34, .iadd, 0, 0, .null, []), (35, (.invokestatic 52), 109, 1, .null, []), (38, (.aload_n 0), 0, 0, .null, []), (39, (.getfield 7), 5, 1, .null, []), (42, (.bipush 101), 0, 0, .int (101), []), (44, .iaload, 0, 0, .null, []), (45, (.if_icmp .le 7), 52, 0, .null, []), (48, (.iconst 1), 0, 0, .int (1), []), (49, (.goto 4), 53, 0, .null, [0, 1]), (52, (.iconst 0), 0, 0, .int (0), []), (53, .ireturn, 0, 0, .null, [])]
-- 123: X5_lacking (I)I
def cd_123 : List (Nat × hx_CE) := [(0, (.aload_n 0), 0, 0, .null, []), (1, (.iload_n 1), 0, 0, .null, []), (2, (.invokevirtual 80), 122, 2, .null, [5]), (5, (.ifCond .eq 26), 31, 0, .null, []), (8, (.aload_n 0), 0, 0, .null, []), (9, (.iload_n 1), 0, 0, .null, []), (10, (.invokevirtual 77), 121, 2, .null, [5]), (13, (.aload_n 0), 0, 0, .null, []), (14, (.iload_n 1), 0, 0, .null, []), (15, (.iconst 1), 0, 0, .int (1), []), (16, .isub, 0, 0, .null, []), (17, (.invokevirtual 77), 121, 2, .null, [5]), (20, (.aload_n 0), 0, 0, .null, []), (21, (.getfield 7), 5, 1, .null, []), (24, (.bipush 100), 0, 0, .int (100), []), (26, .iaload, 0, 0, .null, []), (27, .isub, 0, 0, .null, []), (28, (.if_icmp .gt 5), 33, 0, .null, []), (31, (.iconst 0), 0, 0, .int (0), []), (32, .ireturn, 0, 0, .null, []), (33, (.aload_n 0), 0, 0, .null, []), (34, (.iload_n 1), 0, 0, .null, []), (35, (.iconst 1), 0, 0, .int (1), []), (36, .isub, 0, 0, .null, []), (37, (.invokevirtual 77), 121, 2, .null, [5]), (40, (.aload_n 0), 0, 0, .null, []), (41, (.getfield 7), 5, 1, .null, []), (44, (.bipush 100), 0, 0, .int (100), []), (46, .iaload, 0, 0, .null, []), (47, .isub, 0, 0, .null, []), (48, (.istore_n 2), 0, 0, .null, [3, 4]), (49, (.iload_n 2), 0, 0, .null, []), (50, (.istore_n 3), 0, 0, .null, [4]), (51, (.iconst 0), 0, 0, .int (0), []), (52, (.istore 4), 0, 0, .null, []), (54, (.iload 4), 0, 0, .null, []), (56, (.iconst 5), 0, 0, .int (5), []), (57, (.if_icmp .ge 36), 93, 0, .null, []), (60, (.iload_n 3), 0, 0, .null, []), (61, (.aload_n 0), 0, 0, .null, []), (62, (.iload_n 1), 0, 0, .null, []), (63, (.invokevirtual 77), 121, 2, .null, [5]), (66, (.if_icmp .ge 27), 93, 0, .null, []), (69, (.iload_n 2), 0, 0, .null, []), (70, (.ifCond .le 23), 93, 0, .null, []), (73, (.iload_n 2), 0, 0, .null, []), (74, (.aload_n 0), 0, 0, .null, []), (75, (.getfield 7), 5, 1, .null, []), (78, (.bipush 100), 0, 0, .int (100), []), (80, .iaload, 0, 0, .null, []), (81, .isub, 0, 0, .null, []), (82, (.istore_n 2), 0, 0, .null, []), (83, (.iload_n 3), 0, 0, .null, []), (84, (.iload_n 2), 0, 0, .null, []), (85, .iadd, 0, 0, .null, []), (86, (.istore_n 3), 0, 0, .null, []), (87, (.iinc 4 1), 0, 0, .null, []), (90, (.goto (-36)), 54, 0, .null, []), (93, (.iload_n 2), 0, 0, .null, []), (94, (.ifCond .le 17), 111, 0, .null, []), (97, (.iload_n 3), 0, 0, .null, []), (98, (.aload_n 0), 0, 0, .null, []), (99, (.iload_n 1), 0, 0, .null, []), (100, (.invokevirtual 77), 121, 2, .null, [5]), (103, (.if_icmp .lt 8), 111, 0, .null, []), (106, (.iload 4), 0, 0, .null, []), (108, (.goto 4), 112, 0, .null, [0, 1, 2, 3, 4]), (111, (.iconst 0), 0, 0, .int (0), []), (112, .ireturn, 0, 0, .null, [])]
-- 124: X5_wrongs (I)I
def cd_124 : List (Nat × hx_CE) := [(0, (.aload_n 0), 0, 0, .null, []), (1, (.invokevirtual 84), 120, 1, .null, [5]), (4, (.iconst 0), 0, 0, .int (0), []), (5, (.istore_n 2), 0, 0, .null, [3]), (6, (.iconst 0), 0, 0, .int (0), []), (7, (.istore_n 3), 0, 0, .null, []), (8, (.iload_n 3), 0, 0, .null, []), (9, (.aload_n 0), 0, 0, .null, []), (10, (.getfield 74), 5, 10, .null, []), (13, (.if_icmp .ge 38), 51, 0, .null, []), (16, (.iload_n 2), 0, 0, .null, []), (17, (.iload_n 1), 0, 0, .null, []), (18, (.iconst 1), 0, 0, .int (1), []), (19, (.if_icmp .ne 11), 30, 0, .null, []), (22, (.aload_n 0), 0, 0, .null, []), (23, (.iload_n 3), 0, 0, .null, []), (24, (.invokevirtual 87), 123, 2, .null, [5]), (27, (.goto 16), 43, 0, .null, [2]), (30, (.aload_n 0), 0, 0, .null, []), (31, (.iload_n 3), 0, 0, .null, []), (32, (.invokevirtual 80), 122, 2, .null, [5]), (35, (.ifCond .eq 7), 42, 0, .null, []), (38, (.iconst 1), 0, 0, .int (1), []), (39, (.goto 4), 43, 0, .null, [2]), (42, (.iconst 0), 0, 0, .int (0), []), (43, .iadd, 0, 0, .null, []), (44, (.istore_n 2), 0, 0, .null, []), (45, (.iinc 3 1), 0, 0, .null, []), (48, (.goto (-40)), 8, 0, .null, []), (51, (.iload_n 2), 0, 0, .null, []), (52, .ireturn, 0, 0, .null, [])]
-- 125: X5_adds (I)I
def cd_125 : List (Nat × hx_CE) := [(0, (.aload_n 0), 0, 0, .null, []), (1, (.getfield 7), 5, 1, .null, []), (4, (.bipush 98), 0, 0, .int (98), []), (6, .iaload, 0, 0, .null, []), (7, (.istore_n 2), 0, 0, .null, [3]), (8, (.aload_n 0), 0, 0, .null, []), (9, (.getfield 7), 5, 1, .null, []), (12, (.bipush 98), 0, 0, .int (98), []), (14, .dup2, 0, 0, .null, []), (15, .iaload, 0, 0, .null, []), (16, (.iconst 1), 0, 0, .int (1), []), (17, .iadd, 0, 0, .null, []), (18, .iastore, 0, 0, .null, []), (19, (.iconst 0), 0, 0, .int (0), []), (20, (.istore_n 3), 0, 0, .null, []), (21, (.iload_n 3), 0, 0, .null, []), (22, (.bipush 13), 0, 0, .int (13), []), (24, (.if_icmp .ge 20), 44, 0, .null, []), (27, (.aload_n 0), 0, 0, .null, []), (28, (.getfield 7), 5, 1, .null, []), (31, (.iload_n 2), 0, 0, .null, []), (32, (.iload_n 3), 0, 0, .null, []), (33, (.invokestatic 48), 105, 2, .null, []), (36, (.iconst 0), 0, 0, .int (0), []), (37, .iastore, 0, 0, .null, []), (38, (.iinc 3 1), 0, 0, .null, []), (41, (.goto (-20)), 21, 0, .null, []), (44, (.aload_n 0), 0, 0, .null, []), (45, (.getfield 7), 5, 1, .null, []), (48, (.iload_n 2), 0, 0, .null, []), (49, (.iconst 0), 0, 0, .int (0), []), (50, (.invokestatic 48), 105, 2, .null, []), (53, (.iload_n 1), 0, 0, .null, []), (54, .iastore, 0, 0, .null, []), (55, (.aload_n 0), 0, 0, .null, []), (56, (.getfield 7), 5, 1, .null, []), (59, (.bipush 91), 0, 0, .int (91), []), (61, (.iload_n 2), 0, 0, .null, []), (62, .iadd, 0, 0, .null, []), (63, (.iload_n 2), 0, 0, .null, []), (64, .iastore, 0, 0, .null, []), (65, (.iload_n 2), 0, 0, .null, []), (66, .ireturn, 0, 0, .null, [])]
-- 126: X5_add (I)I
def cd_126 : List (Nat × hx_CE) := [(0, (.aload_n 0), 0, 0, .null, []), (1, (.iload_n 1), 0, 0, .null, []), (2, (.iconst 1), 0, 0, .int (1), []), (3, (.bipush 60), 0, 0, .int (60), []), (5, (.invokestatic 41), 102, 3, .null, []), (8, (.ifCond .ne 7), 15, 0, .null, []), (11, (.iconst 1), 0, 0, .int (1), []), (12, (.goto 20), 32, 0, .null, []), (15, (.aload_n 0), 0, 0, .null, []), (16, (.getfield 7), 5, 1, .null, []), (19, (.bipush 98), 0, 0, .int (98), []), (21, .iaload, 0, 0, .null, []), (22, (.bipush 7), 0, 0, .int (7), []), (24, (.if_icmp .ne 7), 31, 0, .null, []), (27, (.iconst 2), 0, 0, .int (2), []), (28, (.goto 4), 32, 0, .null, []), (31, (.iconst 0), 0, 0, .int (0), []), (32, (.invokevirtual 90), 103, 2, .null, [5]), (35, (.ifCond .ne 5), 40, 0, .null, []), (38, (.iconst 0), 0, 0, .int (0), []), (39, .ireturn, 0, 0, .null, []), (40, (.aload_n 0), 0, 0, .null, []), (41, (.invokevirtual 93), 106, 1, .null, [5]), (44, (.aload_n 0), 0, 0, .null, []), (45, (.iload_n 1), 0, 0, .null, []), (46, (.invokevirtual 96), 125, 2, .null, [5]), (49, .ireturn, 0, 0, .null, [])]
-- 127: X5_becomes (II)I
def cd_127 : List (Nat × hx_CE) := [(0, (.aload_n 0), 0, 0, .null, []), (1, (.invokevirtual 93), 106, 1, .null, [5]), (4, (.aload_n 0), 0, 0, .null, []), (5, (.getfield 7), 5, 1, .null, []), (8, (.iload_n 1), 0, 0, .null, []), (9, .iaload, 0, 0, .null, []), (10, (.istore_n 3), 0, 0, .null, []), (11, (.aload_n 0), 0, 0, .null, []), (12, (.getfield 7), 5, 1, .null, []), (15, (.iload_n 1), 0, 0, .null, []), (16, (.iload_n 2), 0, 0, .null, []), (17, .iastore, 0, 0, .null, []), (18, (.iload_n 3), 0, 0, .null, []), (19, .ireturn, 0, 0, .null, [])]
-- 128: X5_tear (IIII)I
def cd_128 : List (Nat × hx_CE) := [(0, (.iload_n 2), 0, 0, .null, []), (1, (.iconst 0), 0, 0, .int (0), []), (2, (.iconst 1), 0, 0, .int (1), []), (3, (.invokestatic 41), 102, 3, .null, []), (6, (.ifCond .eq 26), 32, 0, .null, []), (9, (.iload_n 3), 0, 0, .null, []), (10, (.iconst 0), 0, 0, .int (0), []), (11, (.iconst 3), 0, 0, .int (3), []), (12, (.invokestatic 41), 102, 3, .null, []), (15, (.ifCond .eq 17), 32, 0, .null, []), (18, (.iload 4), 0, 0, .null, []), (20, (.iconst 0), 0, 0, .int (0), []), (21, (.iconst 5), 0, 0, .int (5), []), (22, (.invokestatic 41), 102, 3, .null, []), (25, (.ifCond .eq 7), 32, 0, .null, []), (28, (.iconst 1), 0, 0, .int (1), []), (29, (.goto 4), 33, 0, .null, [5]), (32, (.iconst 0), 0, 0, .int (0), []), (33, (.istore 5), 0, 0, .null, []), (35, (.aload_n 0), 0, 0, .null, []), (36, (.aload_n 0), 0, 0, .null, []), (37, (.iload_n 1), 0, 0, .null, []), (38, (.invokevirtual 99), 104, 2, .null, [5]), (41, (.ifCond .ne 7), 48, 0, .null, []), (44, (.iconst 1), 0, 0, .int (1), []), (45, (.goto 13), 58, 0, .null, [5]), (48, (.iload 5), 0, 0, .null, []), (50, (.ifCond .eq 7), 57, 0, .null, []), (53, (.iconst 0), 0, 0, .int (0), []), (54, (.goto 4), 58, 0, .null, [5]), (57, (.iconst 2), 0, 0, .int (2), []), (58, (.invokevirtual 90), 103, 2, .null, [5]), (61, (.ifCond .eq 28), 89, 0, .null, []), (64, (.aload_n 0), 0, 0, .null, []), (65, (.iload_n 1), 0, 0, .null, []), (66, (.iload_n 2), 0, 0, .null, []), (67, (.ifCond .ne 7), 74, 0, .null, []), (70, (.iconst 1), 0, 0, .int (1), []), (71, (.goto 5), 76, 0, .null, [0, 1, 2, 5]), (74, (.bipush 6), 0, 0, .int (6), []), (76, (.iload_n 3), 0, 0, .null, []), (77, .iadd, 0, 0, .null, []), (78, (.invokestatic 48), 105, 2, .null, []), (81, (.iload 4), 0, 0, .null, []), (83, (.invokevirtual 102), 127, 3, .null, [5]), (86, (.goto 4), 90, 0, .null, [0, 1, 2, 3, 4, 5]), (89, (.iconst 0), 0, 0, .int (0), []), (90, .ireturn, 0, 0, .null, [])]
-- 129: X5_fibre (III)I
def cd_129 : List (Nat × hx_CE) := [(0, (.iload_n 2), 0, 0, .null, []), (1, (.iconst 0), 0, 0, .int (0), []), (2, (.iconst 1), 0, 0, .int (1), []), (3, (.invokestatic 41), 102, 3, .null, []), (6, (.ifCond .eq 17), 23, 0, .null, []), (9, (.iload_n 3), 0, 0, .null, []), (10, (.iconst 0), 0, 0, .int (0), []), (11, (.bipush 9), 0, 0, .int (9), []), (13, (.invokestatic 41), 102, 3, .null, []), (16, (.ifCond .eq 7), 23, 0, .null, []), (19, (.iconst 1), 0, 0, .int (1), []), (20, (.goto 4), 24, 0, .null, [4]), (23, (.iconst 0), 0, 0, .int (0), []), (24, (.istore 4), 0, 0, .null, []), (26, (.aload_n 0), 0, 0, .null, []), (27, (.aload_n 0), 0, 0, .null, []), (28, (.iload_n 1), 0, 0, .null, []), (29, (.invokevirtual 99), 104, 2, .null, [5]), (32, (.ifCond .ne 7), 39, 0, .null, []), (35, (.iconst 1), 0, 0, .int (1), []), (36, (.goto 13), 49, 0, .null, [4]), (39, (.iload 4), 0, 0, .null, []), (41, (.ifCond .eq 7), 48, 0, .null, []), (44, (.iconst 0), 0, 0, .int (0), []), (45, (.goto 4), 49, 0, .null, [4]), (48, (.iconst 2), 0, 0, .int (2), []), (49, (.invokevirtual 90), 103, 2, .null, [5]), (52, (.ifCond .eq 27), 79, 0, .null, []), (55, (.aload_n 0), 0, 0, .null, []), (56, (.iload_n 1), 0, 0, .null, []), (57, (.iload_n 2), 0, 0, .null, []), (58, (.ifCond .ne 7), 65, 0, .null, []), (61, (.iconst 1), 0, 0, .int (1), []), (62, (.goto 5), 67, 0, .null, [0, 1, 2, 4]), (65, (.bipush 6), 0, 0, .int (6), []), (67, (.iconst 4), 0, 0, .int (4), []), (68, .iadd, 0, 0, .null, []), (69, (.invokestatic 48), 105, 2, .null, []), (72, (.iload_n 3), 0, 0, .null, []), (73, (.invokevirtual 102), 127, 3, .null, [5]), (76, (.goto 4), 80, 0, .null, [0, 1, 2, 3, 4]), (79, (.iconst 0), 0, 0, .int (0), []), (80, .ireturn, 0, 0, .null, [])]
-- 130: X5_isPlaceIn (II)Z
def cd_130 : List (Nat × hx_CE) := [(0, (.iload_n 2), 0, 0, .null, []), (1, (.iconst 0), 0, 0, .int (0), []), (2, (.aload_n 0), 0, 0, .null, []), (3, (.getfield 7), 5, 1, .null, []), (6, (.iload_n 1), 0, 0, .null, []), (7, (.iconst 0), 0, 0, .int (0), []), (8, (.invokestatic 48), 105, 2, .null, []), (11, .iaload, 0, 0, .null, []), (12, (.iconst 1), 0, 0, .int (1), []), (13, .isub, 0, 0, .null, []), (14, (.invokestatic 41), 102, 3, .null, []), (17, .ireturn, 0, 0, .null, [])]
-- 131: X5_isRoom (II)Z
def cd_131 : List (Nat × hx_CE) := [(0, (.aload_n 0), 0, 0, .null, []), (1, (.iload_n 1), 0, 0, .null, []), (2, (.iload_n 2), 0, 0, .null, []), (3, (.invokevirtual 70), 118, 3, .null, [5]), (6, (.ifCond .ne 12), 18, 0, .null, []), (9, (.aload_n 0), 0, 0, .null, []), (10, (.iload_n 1), 0, 0, .null, []), (11, (.invokevirtual 105), 119, 2, .null, [5]), (14, (.iconst 4), 0, 0, .int (4), []), (15, (.if_icmp .ge 7), 22, 0, .null, []), (18, (.iconst 1), 0, 0, .int (1), []), (19, (.goto 4), 23, 0, .null, [0, 1, 2]), (22, (.iconst 0), 0, 0, .int (0), []), (23, .ireturn, 0, 0, .null, [])]
-- 132: X5_hole (II)I
def cd_132 : List (Nat × hx_CE) := [(0, (.aload_n 0), 0, 0, .null, []), (1, (.aload_n 0), 0, 0, .null, []), (2, (.iload_n 1), 0, 0, .null, []), (3, (.invokevirtual 99), 104, 2, .null, [5]), (6, (.ifCond .ne 7), 13, 0, .null, []), (9, (.iconst 1), 0, 0, .int (1), []), (10, (.goto 30), 40, 0, .null, []), (13, (.aload_n 0), 0, 0, .null, []), (14, (.iload_n 1), 0, 0, .null, []), (15, (.iload_n 2), 0, 0, .null, []), (16, (.invokevirtual 108), 130, 3, .null, [5]), (19, (.ifCond .ne 7), 26, 0, .null, []), (22, (.iconst 2), 0, 0, .int (2), []), (23, (.goto 17), 40, 0, .null, []), (26, (.aload_n 0), 0, 0, .null, []), (27, (.iload_n 1), 0, 0, .null, []), (28, (.iload_n 2), 0, 0, .null, []), (29, (.invokevirtual 111), 131, 3, .null, [5]), (32, (.ifCond .ne 7), 39, 0, .null, []), (35, (.iconst 3), 0, 0, .int (3), []), (36, (.goto 4), 40, 0, .null, []), (39, (.iconst 0), 0, 0, .int (0), []), (40, (.invokevirtual 90), 103, 2, .null, [5]), (43, (.ifCond .ne 5), 48, 0, .null, []), (46, (.iconst 0), 0, 0, .int (0), []), (47, .ireturn, 0, 0, .null, []), (48, (.aload_n 0), 0, 0, .null, []), (49, (.invokevirtual 93), 106, 1, .null, [5]), (52, (.aload_n 0), 0, 0, .null, []), (53, (.getfield 7), 5, 1, .null, []), (56, (.iload_n 1), 0, 0, .null, []), (57, (.bipush 11), 0, 0, .int (11), []), (59, (.iload_n 2), 0, 0, .null, []), (60, (.bipush 30), 0, 0, .int (30), []), (62, .idiv, 0, 0, .null, []), (63, .iadd, 0, 0, .null, []), (64, (.invokestatic 48), 105, 2, .null, []), (67, .dup2, 0, 0, .null, []), (68, .iaload, 0, 0, .null, []), (69, (.iconst 1), 0, 0, .int (1), []), (70, (.iload_n 2), 0, 0, .null, []), (71, (.bipush 30), 0, 0, .int (30), []), (73, .irem, 0, 0, .null, []), (74, .ishl, 0, 0, .null, []), (75, .ixor, 0, 0, .null, []), (76, .iastore, 0, 0, .null, []), (77, (.aload_n 0), 0, 0, .null, []), (78, (.iload_n 1), 0, 0, .null, []), (79, (.invokevirtual 105), 119, 2, .null, [5]), (82, .ireturn, 0, 0, .null, [])]
-- 133: X5_remove (I)I
def cd_133 : List (Nat × hx_CE) := [(0, (.aload_n 0), 0, 0, .null, []), (1, (.aload_n 0), 0, 0, .null, []), (2, (.iload_n 1), 0, 0, .null, []), (3, (.invokevirtual 99), 104, 2, .null, [5]), (6, (.ifCond .eq 7), 13, 0, .null, []), (9, (.iconst 0), 0, 0, .int (0), []), (10, (.goto 4), 14, 0, .null, [2]), (13, (.iconst 1), 0, 0, .int (1), []), (14, (.invokevirtual 90), 103, 2, .null, [5]), (17, (.ifCond .ne 5), 22, 0, .null, []), (20, (.iconst 0), 0, 0, .int (0), []), (21, .ireturn, 0, 0, .null, []), (22, (.aload_n 0), 0, 0, .null, []), (23, (.invokevirtual 93), 106, 1, .null, [5]), (26, (.aload_n 0), 0, 0, .null, []), (27, (.iload_n 1), 0, 0, .null, []), (28, (.aload_n 0), 0, 0, .null, []), (29, (.getfield 7), 5, 1, .null, []), (32, (.bipush 98), 0, 0, .int (98), []), (34, .iaload, 0, 0, .null, []), (35, (.iconst 1), 0, 0, .int (1), []), (36, .isub, 0, 0, .null, []), (37, (.invokevirtual 114), 117, 3, .null, [5]), (40, (.aload_n 0), 0, 0, .null, []), (41, (.getfield 7), 5, 1, .null, []), (44, (.bipush 98), 0, 0, .int (98), []), (46, .dup2, 0, 0, .null, []), (47, .iaload, 0, 0, .null, []), (48, (.iconst 1), 0, 0, .int (1), []), (49, .isub, 0, 0, .null, []), (50, .iastore, 0, 0, .null, []), (51, (.iload_n 1), 0, 0, .null, []), (52, (.iconst 0), 0, 0, .int (0), []), (53, (.invokestatic 48), 105, 2, .null, []), (56, (.istore_n 2), 0, 0, .null, []), (57, (.iload_n 2), 0, 0, .null, []), (58, (.bipush 6), 0, 0, .int (6), []), (60, (.iconst 0), 0, 0, .int (0), []), (61, (.invokestatic 48), 105, 2, .null, []), (64, (.if_icmp .ge 24), 88, 0, .null, []), (67, (.aload_n 0), 0, 0, .null, []), (68, (.getfield 7), 5, 1, .null, []), (71, (.iload_n 2), 0, 0, .null, []), (72, (.aload_n 0), 0, 0, .null, []), (73, (.getfield 7), 5, 1, .null, []), (76, (.iload_n 2), 0, 0, .null, []), (77, (.bipush 13), 0, 0, .int (13), []), (79, .iadd, 0, 0, .null, []), (80, .iaload, 0, 0, .null, []), (81, .iastore, 0, 0, .null, []), (82, (.iinc 2 1), 0, 0, .null, []), (85, (.goto (-28)), 57, 0, .null, []), (88, (.iconst 0), 0, 0, .int (0), []), (89, (.istore_n 2), 0, 0, .null, []), (90, (.iload_n 2), 0, 0, .null, []), (91, (.aload_n 0), 0, 0, .null, []), (92, (.getfield 7), 5, 1, .null, []), (95, (.bipush 98), 0, 0, .int (98), []), (97, .iaload, 0, 0, .null, []), (98, (.if_icmp .ge 39), 137, 0, .null, []), (101, (.aload_n 0), 0, 0, .null, []), (102, (.getfield 7), 5, 1, .null, []), (105, (.bipush 91), 0, 0, .int (91), []), (107, (.iload_n 2), 0, 0, .null, []), (108, .iadd, 0, 0, .null, []), (109, .dup2, 0, 0, .null, []), (110, .iaload, 0, 0, .null, []), (111, (.aload_n 0), 0, 0, .null, []), (112, (.getfield 7), 5, 1, .null, []), (115, (.bipush 91), 0, 0, .int (91), []), (117, (.iload_n 2), 0, 0, .null, []), (118, .iadd, 0, 0, .null, []), (119, .iaload, 0, 0, .null, []), (120, (.iload_n 1), 0, 0, .null, []), (121, (.if_icmp .le 7), 128, 0, .null, []), (124, (.iconst 1), 0, 0, .int (1), []), (125, (.goto 4), 129, 0, .null, []), (128, (.iconst 0), 0, 0, .int (0), []), (129, .isub, 0, 0, .null, []), (130, .iastore, 0, 0, .null, []), (131, (.iinc 2 1), 0, 0, .null, []), (134, (.goto (-44)), 90, 0, .null, []), (137, (.aload_n 0), 0, 0, .null, []), (138, (.getfield 7), 5, 1, .null, []), (141, (.bipush 98), 0, 0, .int (98), []), (143, .iaload, 0, 0, .null, []), (144, .ireturn, 0, 0, .null, [])]
-- 134: X5_move (II)I
def cd_134 : List (Nat × hx_CE) := [(0, (.aload_n 0), 0, 0, .null, []), (1, (.aload_n 0), 0, 0, .null, []), (2, (.iload_n 1), 0, 0, .null, []), (3, (.invokevirtual 99), 104, 2, .null, [5]), (6, (.ifCond .ne 7), 13, 0, .null, []), (9, (.iconst 1), 0, 0, .int (1), []), (10, (.goto 25), 35, 0, .null, []), (13, (.iload_n 2), 0, 0, .null, []), (14, (.iconst 0), 0, 0, .int (0), []), (15, (.aload_n 0), 0, 0, .null, []), (16, (.getfield 7), 5, 1, .null, []), (19, (.bipush 98), 0, 0, .int (98), []), (21, .iaload, 0, 0, .null, []), (22, (.iconst 1), 0, 0, .int (1), []), (23, .isub, 0, 0, .null, []), (24, (.invokestatic 41), 102, 3, .null, []), (27, (.ifCond .eq 7), 34, 0, .null, []), (30, (.iconst 0), 0, 0, .int (0), []), (31, (.goto 4), 35, 0, .null, []), (34, (.iconst 2), 0, 0, .int (2), []), (35, (.invokevirtual 90), 103, 2, .null, [5]), (38, (.ifCond .ne 5), 43, 0, .null, []), (41, (.iconst 0), 0, 0, .int (0), []), (42, .ireturn, 0, 0, .null, []), (43, (.aload_n 0), 0, 0, .null, []), (44, (.invokevirtual 93), 106, 1, .null, [5]), (47, (.aload_n 0), 0, 0, .null, []), (48, (.iload_n 1), 0, 0, .null, []), (49, (.iload_n 2), 0, 0, .null, []), (50, (.invokevirtual 114), 117, 3, .null, [5]), (53, (.aload_n 0), 0, 0, .null, []), (54, (.getfield 7), 5, 1, .null, []), (57, (.bipush 99), 0, 0, .int (99), []), (59, .dup2, 0, 0, .null, []), (60, .iaload, 0, 0, .null, []), (61, (.iconst 1), 0, 0, .int (1), []), (62, .iadd, 0, 0, .null, []), (63, .iastore, 0, 0, .null, []), (64, (.aload_n 0), 0, 0, .null, []), (65, (.invokevirtual 118), 111, 1, .null, [5]), (68, .ireturn, 0, 0, .null, [])]
-- 135: X5_order ()I
def cd_135 : List (Nat × hx_CE) := [(0, (.aload_n 0), 0, 0, .null, []), (1, (.iconst 0), 0, 0, .int (0), []), (2, (.putfield 37), 5, 0, .null, []), (5, (.aload_n 0), 0, 0, .null, []), (6, (.invokevirtual 93), 106, 1, .null, [5]), (9, (.aload_n 0), 0, 0, .null, []), (10, (.invokevirtual 121), 116, 1, .null, [5]), (13, (.aload_n 0), 0, 0, .null, []), (14, (.getfield 7), 5, 1, .null, []), (17, (.bipush 99), 0, 0, .int (99), []), (19, .dup2, 0, 0, .null, []), (20, .iaload, 0, 0, .null, []), (21, (.iconst 1), 0, 0, .int (1), []), (22, .iadd, 0, 0, .null, []), (23, .iastore, 0, 0, .null, []), (24, (.aload_n 0), 0, 0, .null, []), (25, (.invokevirtual 118), 111, 1, .null, [5]), (28, .ireturn, 0, 0, .null, [])]
-- 136: X5_set (II)I
def cd_136 : List (Nat × hx_CE) := [(0, (.aload_n 0), 0, 0, .null, []), (1, (.iload_n 1), 0, 0, .null, []), (2, (.iconst 0), 0, 0, .int (0), []), (3, (.iconst 1), 0, 0, .int (1), []), (4, (.invokestatic 41), 102, 3, .null, []), (7, (.ifCond .ne 7), 14, 0, .null, []), (10, (.iconst 1), 0, 0, .int (1), []), (11, (.goto 18), 29, 0, .null, []), (14, (.iload_n 2), 0, 0, .null, []), (15, (.iconst 0), 0, 0, .int (0), []), (16, (.bipush 9), 0, 0, .int (9), []), (18, (.invokestatic 41), 102, 3, .null, []), (21, (.ifCond .eq 7), 28, 0, .null, []), (24, (.iconst 0), 0, 0, .int (0), []), (25, (.goto 4), 29, 0, .null, []), (28, (.iconst 2), 0, 0, .int (2), []), (29, (.invokevirtual 90), 103, 2, .null, [5]), (32, (.ifCond .eq 15), 47, 0, .null, []), (35, (.aload_n 0), 0, 0, .null, []), (36, (.bipush 100), 0, 0, .int (100), []), (38, (.iload_n 1), 0, 0, .null, []), (39, .iadd, 0, 0, .null, []), (40, (.iload_n 2), 0, 0, .null, []), (41, (.invokevirtual 102), 127, 3, .null, [5]), (44, (.goto 4), 48, 0, .null, [0, 1, 2]), (47, (.iconst 0), 0, 0, .int (0), []), (48, .ireturn, 0, 0, .null, [])]
-- 137: X5_append (I)I
def cd_137 : List (Nat × hx_CE) := [(0, (.aload_n 0), 0, 0, .null, []), (1, (.iload_n 1), 0, 0, .null, []), (2, (.bipush 33), 0, 0, .int (33), []), (4, (.bipush 126), 0, 0, .int (126), []), (6, (.invokestatic 41), 102, 3, .null, []), (9, (.ifCond .ne 7), 16, 0, .null, []), (12, (.iconst 1), 0, 0, .int (1), []), (13, (.goto 17), 30, 0, .null, []), (16, (.aload_n 0), 0, 0, .null, []), (17, (.getfield 124), 5, 8, .null, []), (20, (.bipush 60), 0, 0, .int (60), []), (22, (.if_icmp .ne 7), 29, 0, .null, []), (25, (.iconst 2), 0, 0, .int (2), []), (26, (.goto 4), 30, 0, .null, []), (29, (.iconst 0), 0, 0, .int (0), []), (30, (.invokevirtual 90), 103, 2, .null, [5]), (33, (.ifCond .ne 5), 38, 0, .null, []), (36, (.iconst 0), 0, 0, .int (0), []), (37, .ireturn, 0, 0, .null, []), (38, (.aload_n 0), 0, 0, .null, []), (39, (.getfield 22), 5, 7, .null, []), (42, (.aload_n 0), 0, 0, .null, []), (43, (.getfield 124), 5, 8, .null, []), (46, (.iload_n 1), 0, 0, .null, []), (47, .iastore, 0, 0, .null, []), (48, (.aload_n 0), 0, 0, .null, []), (49, .dup, 0, 0, .null, []), (50, (.getfield 124), 5, 8, .null, []), (53, (.iconst 1), 0, 0, .int (1), []), (54, .iadd, 0, 0, .null, []), (55, (.putfield 124), 5, 8, .null, []), (58, (.aload_n 0), 0, 0, .null, []), (59, (.getfield 124), 5, 8, .null, []), (62, .ireturn, 0, 0, .null, [])]
-- 138: X5_clearBuffer ()I
def cd_138 : List (Nat × hx_CE) := [(0, (.aload_n 0), 0, 0, .null, []), (1, (.iconst 0), 0, 0, .int (0), []), (2, (.putfield 37), 5, 0, .null, []), (5, (.aload_n 0), 0, 0, .null, []), (6, (.getfield 124), 5, 8, .null, []), (9, (.istore_n 1), 0, 0, .null, []), (10, (.aload_n 0), 0, 0, .null, []), (11, (.iconst 0), 0, 0, .int (0), []), (12, (.putfield 124), 5, 8, .null, []), (15, (.iload_n 1), 0, 0, .null, []), (16, .ireturn, 0, 0, .null, [])]
-- 139: X5_isNext (II)Z
def cd_139 : List (Nat × hx_CE) := [(0, (.aload_n 0), 0, 0, .null, []), (1, (.getfield 127), 5, 14, .null, []), (4, (.ifCond .ne 35), 39, 0, .null, []), (7, (.aload_n 0), 0, 0, .null, []), (8, (.getfield 131), 5, 13, .null, []), (11, (.aload_n 0), 0, 0, .null, []), (12, (.getfield 124), 5, 8, .null, []), (15, (.if_icmp .ge 24), 39, 0, .null, []), (18, (.aload_n 0), 0, 0, .null, []), (19, (.getfield 22), 5, 7, .null, []), (22, (.aload_n 0), 0, 0, .null, []), (23, (.getfield 131), 5, 13, .null, []), (26, .iaload, 0, 0, .null, []), (27, (.iload_n 1), 0, 0, .null, []), (28, (.iload_n 2), 0, 0, .null, []), (29, (.invokestatic 41), 102, 3, .null, []), (32, (.ifCond .eq 7), 39, 0, .null, []), (35, (.iconst 1), 0, 0, .int (1), []), (36, (.goto 4), 40, 0, .null, [0, 1, 2]), (39, (.iconst 0), 0, 0, .int (0), []), (40, .ireturn, 0, 0, .null, [])]
-- 140: X5_takes (II)I
def cd_140 : List (Nat × hx_CE) := [(0, (.aload_n 0), 0, 0, .null, []), (1, (.iload_n 1), 0, 0, .null, []), (2, (.iload_n 2), 0, 0, .null, []), (3, (.invokevirtual 134), 139, 3, .null, [5]), (6, (.istore_n 3), 0, 0, .null, [2, 4]), (7, (.iload_n 3), 0, 0, .null, []), (8, (.ifCond .eq 17), 25, 0, .null, []), (11, (.aload_n 0), 0, 0, .null, []), (12, (.getfield 22), 5, 7, .null, []), (15, (.aload_n 0), 0, 0, .null, []), (16, (.getfield 131), 5, 13, .null, []), (19, .iaload, 0, 0, .null, []), (20, (.iload_n 1), 0, 0, .null, []), (21, .isub, 0, 0, .null, []), (22, (.goto 4), 26, 0, .null, [1, 2, 4]), (25, (.iconst 0), 0, 0, .int (0), []), (26, (.istore 4), 0, 0, .null, [1, 2]), (28, (.aload_n 0), 0, 0, .null, []), (29, .dup, 0, 0, .null, []), (30, (.getfield 131), 5, 13, .null, []), (33, (.iload_n 3), 0, 0, .null, []), (34, (.ifCond .eq 7), 41, 0, .null, []), (37, (.iconst 1), 0, 0, .int (1), []), (38, (.goto 4), 42, 0, .null, [1, 2]), (41, (.iconst 0), 0, 0, .int (0), []), (42, .iadd, 0, 0, .null, []), (43, (.putfield 131), 5, 13, .null, []), (46, (.aload_n 0), 0, 0, .null, []), (47, (.aload_n 0), 0, 0, .null, []), (48, (.getfield 127), 5, 14, .null, []), (51, (.ifCond .ne 7), 58, 0, .null, []), (54, (.iload_n 3), 0, 0, .null, []), (55, (.ifCond .ne 7), 62, 0, .null, []), (58, (.iconst 1), 0, 0, .int (1), []), (59, (.goto 4), 63, 0, .null, [0, 1, 2, 3]), (62, (.iconst 0), 0, 0, .int (0), []), (63, (.putfield 127), 5, 14, .null, []), (66, (.iload 4), 0, 0, .null, []), (68, .ireturn, 0, 0, .null, [])]
-- 141: X5_begins (III)Z
def cd_141 : List (Nat × hx_CE) := [(0, (.iload_n 0), 0, 0, .null, []), (1, (.iload_n 1), 0, 0, .null, []), (2, (.iload_n 2), 0, 0, .null, []), (3, (.invokestatic 41), 102, 3, .null, []), (6, (.ifCond .ne 26), 32, 0, .null, []), (9, (.iload_n 0), 0, 0, .null, []), (10, (.ifCond .le 26), 36, 0, .null, []), (13, (.bipush 10), 0, 0, .int (10), []), (15, (.iload_n 0), 0, 0, .null, []), (16, .imul, 0, 0, .null, []), (17, (.iload_n 2), 0, 0, .null, []), (18, (.if_icmp .gt 18), 36, 0, .null, []), (21, (.bipush 10), 0, 0, .int (10), []), (23, (.iload_n 0), 0, 0, .null, []), (24, .imul, 0, 0, .null, []), (25, (.bipush 9), 0, 0, .int (9), []), (27, .iadd, 0, 0, .null, []), (28, (.iload_n 1), 0, 0, .null, []), (29, (.if_icmp .lt 7), 36, 0, .null, []), (32, (.iconst 1), 0, 0, .int (1), []), (33, (.goto 4), 37, 0, .null, [0, 1, 2]), (36, (.iconst 0), 0, 0, .int (0), []), (37, .ireturn, 0, 0, .null, [])]
-- 142: X5_number (II)I
def cd_142 : List (Nat × hx_CE) := [(0, (.aload_n 0), 0, 0, .null, []), (1, (.bipush 48), 0, 0, .int (48), []), (3, (.bipush 57), 0, 0, .int (57), []), (5, (.invokevirtual 134), 139, 3, .null, [5]), (8, (.ifCond .eq 18), 26, 0, .null, []), (11, (.aload_n 0), 0, 0, .null, []), (12, (.getfield 22), 5, 7, .null, []), (15, (.aload_n 0), 0, 0, .null, []), (16, (.getfield 131), 5, 13, .null, []), (19, .iaload, 0, 0, .null, []), (20, (.bipush 48), 0, 0, .int (48), []), (22, .isub, 0, 0, .null, []), (23, (.goto 4), 27, 0, .null, [3]), (26, (.iconst (-1)), 0, 0, .int (-1), []), (27, (.istore_n 3), 0, 0, .null, []), (28, (.aload_n 0), 0, 0, .null, []), (29, (.aload_n 0), 0, 0, .null, []), (30, (.getfield 127), 5, 14, .null, []), (33, (.ifCond .ne 17), 50, 0, .null, []), (36, (.iload_n 3), 0, 0, .null, []), (37, (.iconst (-1)), 0, 0, .int (-1), []), (38, (.if_icmp .eq 12), 50, 0, .null, []), (41, (.iload_n 3), 0, 0, .null, []), (42, (.iload_n 1), 0, 0, .null, []), (43, (.iload_n 2), 0, 0, .null, []), (44, (.invokestatic 137), 141, 3, .null, []), (47, (.ifCond .ne 7), 54, 0, .null, []), (50, (.iconst 1), 0, 0, .int (1), []), (51, (.goto 4), 55, 0, .null, []), (54, (.iconst 0), 0, 0, .int (0), []), (55, (.putfield 127), 5, 14, .null, []), (58, (.aload_n 0), 0, 0, .null, []), (59, .dup, 0, 0, .null, []), (60, (.getfield 131), 5, 13, .null, []), (63, (.aload_n 0), 0, 0, .null, []), (64, (.getfield 127), 5, 14, .null, []), (67, (.ifCond .eq 7), 74, 0, .null, []), (70, (.iconst 0), 0, 0, .int (0), []), (71, (.goto 4), 75, 0, .null, []), (74, (.iconst 1), 0, 0, .int (1), []), (75, .iadd, 0, 0, .null, []), (76, (.putfield 131), 5, 13, .null, []), (79, (.iload_n 3), 0, 0, .null, []), (80, (.ifCond .le 67), 147, 0, .null, []), (83, (.aload_n 0), 0, 0, .null, []), (84, (.bipush 48), 0, 0, .int (48), []), (86, (.bipush 57), 0, 0, .int (57), []), (88, (.invokevirtual 134), 139, 3, .null, [5]), (91, (.ifCond .eq 56), 147, 0, .null, []), (94, (.bipush 10), 0, 0, .int (10), []), (96, (.iload_n 3), 0, 0, .null, []), (97, .imul, 0, 0, .null, []), (98, (.aload_n 0), 0, 0, .null, []), (99, (.getfield 22), 5, 7, .null, []), (102, (.aload_n 0), 0, 0, .null, []), (103, (.getfield 131), 5, 13, .null, []), (106, .iaload, 0, 0, .null, []), (107, .iadd, 0, 0, .null, []), (108, (.bipush 48), 0, 0, .int (48), []), (110, .isub, 0, 0, .null, []), (111, (.iload_n 1), 0, 0, .null, []), (112, (.iload_n 2), 0, 0, .null, []), (113, (.invokestatic 41), 102, 3, .null, []), (116, (.ifCond .eq 31), 147, 0, .null, []), (119, (.bipush 10), 0, 0, .int (10), []), (121, (.iload_n 3), 0, 0, .null, []), (122, .imul, 0, 0, .null, []), (123, (.aload_n 0), 0, 0, .null, []), (124, (.getfield 22), 5, 7, .null, []), (127, (.aload_n 0), 0, 0, .null, []), (128, (.getfield 131), 5, 13, .null, []), (131, .iaload, 0, 0, .null, []), (132, .iadd, 0, 0, .null, []), (133, (.bipush 48), 0, 0, .int (48), []), (135, .isub, 0, 0, .null, []), (136, (.istore_n 3), 0, 0, .null, []), (137, (.aload_n 0), 0, 0, .null, []), (138, .dup, 0, 0, .null, []), (139, (.getfield 131), 5, 13, .null, []), (142, (.iconst 1), 0, 0, .int (1), []), (143, .iadd, 0, 0, .null, []), (144, (.putfield 131), 5, 13, .null, []), (147, (.aload_n 0), 0, 0, .null, []), (148, (.aload_n 0), 0, 0, .null, []), (149, (.getfield 127), 5, 14, .null, []), (152, (.ifCond .ne 12), 164, 0, .null, []), (155, (.iload_n 3), 0, 0, .null, []), (156, (.iload_n 1), 0, 0, .null, []), (157, (.iload_n 2), 0, 0, .null, []), (158, (.invokestatic 41), 102, 3, .null, []), (161, (.ifCond .ne 7), 168, 0, .null, []), (164, (.iconst 1), 0, 0, .int (1), []), (165, (.goto 4), 169, 0, .null, [0, 1, 2]), (168, (.iconst 0), 0, 0, .int (0), []), (169, (.putfield 127), 5, 14, .null, []), (172, (.iload_n 3), 0, 0, .null, []), (173, .ireturn, 0, 0, .null, [])]
-- 143: X5_readEdge (I)V
def cd_143 : List (Nat × hx_CE) := [(0, (.iconst 0), 0, 0, .int (0), []), (1, (.istore_n 2), 0, 0, .null, []), (2, (.iload_n 2), 0, 0, .null, []), (3, (.iconst 4), 0, 0, .int (4), []), (4, (.if_icmp .ge 25), 29, 0, .null, []), (7, (.aload_n 0), 0, 0, .null, []), (8, (.getfield 34), 5, 15, .null, []), (11, (.iload_n 1), 0, 0, .null, []), (12, (.iload_n 2), 0, 0, .null, []), (13, .iadd, 0, 0, .null, []), (14, (.aload_n 0), 0, 0, .null, []), (15, (.bipush 48), 0, 0, .int (48), []), (17, (.bipush 53), 0, 0, .int (53), []), (19, (.invokevirtual 140), 140, 3, .null, [5]), (22, .iastore, 0, 0, .null, []), (23, (.iinc 2 1), 0, 0, .null, []), (26, (.goto (-24)), 2, 0, .null, []), (29, (.aload_n 0), 0, 0, .null, []), (30, (.getfield 34), 5, 15, .null, []), (33, (.iload_n 1), 0, 0, .null, []), (34, (.iconst 4), 0, 0, .int (4), []), (35, .iadd, 0, 0, .null, []), (36, (.aload_n 0), 0, 0, .null, []), (37, (.bipush 48), 0, 0, .int (48), []), (39, (.bipush 57), 0, 0, .int (57), []), (41, (.invokevirtual 140), 140, 3, .null, [5]), (44, .iastore, 0, 0, .null, []), (45, .return_, 0, 0, .null, [])]
-- 144: X5_readHoles ()V
def cd_144 : List (Nat × hx_CE) := [(0, (.iconst 0), 0, 0, .int (0), []), (1, (.istore_n 1), 0, 0, .null, [2, 3]), (2, (.iconst 0), 0, 0, .int (0), []), (3, (.istore_n 2), 0, 0, .null, [3]), (4, (.aload_n 0), 0, 0, .null, []), (5, (.getfield 34), 5, 15, .null, []), (8, (.bipush 11), 0, 0, .int (11), []), (10, (.iconst 0), 0, 0, .int (0), []), (11, .iastore, 0, 0, .null, []), (12, (.aload_n 0), 0, 0, .null, []), (13, (.getfield 34), 5, 15, .null, []), (16, (.bipush 12), 0, 0, .int (12), []), (18, (.iconst 0), 0, 0, .int (0), []), (19, .iastore, 0, 0, .null, []), (20, (.aload_n 0), 0, 0, .null, []), (21, (.bipush 46), 0, 0, .int (46), []), (23, (.bipush 46), 0, 0, .int (46), []), (25, (.invokevirtual 134), 139, 3, .null, [5]), (28, (.ifCond .eq 80), 108, 0, .null, []), (31, (.iload_n 2), 0, 0, .null, []), (32, (.iconst 4), 0, 0, .int (4), []), (33, (.if_icmp .ge 75), 108, 0, .null, []), (36, (.iload_n 1), 0, 0, .null, []), (37, (.aload_n 0), 0, 0, .null, []), (38, (.getfield 34), 5, 15, .null, []), (41, (.iconst 0), 0, 0, .int (0), []), (42, .iaload, 0, 0, .null, []), (43, (.if_icmp .ge 65), 108, 0, .null, []), (46, (.aload_n 0), 0, 0, .null, []), (47, .dup, 0, 0, .null, []), (48, (.getfield 131), 5, 13, .null, []), (51, (.iconst 1), 0, 0, .int (1), []), (52, .iadd, 0, 0, .null, []), (53, (.putfield 131), 5, 13, .null, []), (56, (.aload_n 0), 0, 0, .null, []), (57, (.iload_n 1), 0, 0, .null, []), (58, (.aload_n 0), 0, 0, .null, []), (59, (.getfield 34), 5, 15, .null, []), (62, (.iconst 0), 0, 0, .int (0), []), (63, .iaload, 0, 0, .null, []), (64, (.iconst 1), 0, 0, .int (1), []), (65, .isub, 0, 0, .null, []), (66, (.invokevirtual 143), 142, 3, .null, [5]), (69, (.istore_n 3), 0, 0, .null, []), (70, (.aload_n 0), 0, 0, .null, []), (71, (.getfield 127), 5, 14, .null, []), (74, (.ifCond .ne 31), 105, 0, .null, []), (77, (.aload_n 0), 0, 0, .null, []), (78, (.getfield 34), 5, 15, .null, []), (81, (.bipush 11), 0, 0, .int (11), []), (83, (.iload_n 3), 0, 0, .null, []), (84, (.bipush 30), 0, 0, .int (30), []), (86, .idiv, 0, 0, .null, []), (87, .iadd, 0, 0, .null, []), (88, .dup2, 0, 0, .null, []), (89, .iaload, 0, 0, .null, []), (90, (.iconst 1), 0, 0, .int (1), []), (91, (.iload_n 3), 0, 0, .null, []), (92, (.bipush 30), 0, 0, .int (30), []), (94, .irem, 0, 0, .null, []), (95, .ishl, 0, 0, .null, []), (96, .ior, 0, 0, .null, []), (97, .iastore, 0, 0, .null, []), (98, (.iload_n 3), 0, 0, .null, []), (99, (.iconst 1), 0, 0, .int (1), []), (100, .iadd, 0, 0, .null, []), (101, (.istore_n 1), 0, 0, .null, [3]), (102, (.iinc 2 1), 0, 0, .null, [3]), (105, (.goto (-85)), 20, 0, .null, [3]), (108, .return_, 0, 0, .null, [])]
-- 145: X5_readPiece ()V
def cd_145 : List (Nat × hx_CE) := [(0, (.aload_n 0), 0, 0, .null, []), (1, (.getfield 34), 5, 15, .null, []), (4, (.iconst 0), 0, 0, .int (0), []), (5, (.aload_n 0), 0, 0, .null, []), (6, (.iconst 1), 0, 0, .int (1), []), (7, (.bipush 60), 0, 0, .int (60), []), (9, (.invokevirtual 143), 142, 3, .null, [5]), (12, .iastore, 0, 0, .null, []), (13, (.aload_n 0), 0, 0, .null, []), (14, (.bipush 91), 0, 0, .int (91), []), (16, (.bipush 91), 0, 0, .int (91), []), (18, (.invokevirtual 140), 140, 3, .null, [5]), (21, (.istore_n 1), 0, 0, .null, [1]), (22, (.aload_n 0), 0, 0, .null, []), (23, (.iconst 1), 0, 0, .int (1), []), (24, (.invokevirtual 146), 143, 2, .null, [5]), (27, (.aload_n 0), 0, 0, .null, []), (28, (.bipush 124), 0, 0, .int (124), []), (30, (.bipush 124), 0, 0, .int (124), []), (32, (.invokevirtual 140), 140, 3, .null, [5]), (35, (.istore_n 1), 0, 0, .null, [1]), (36, (.aload_n 0), 0, 0, .null, []), (37, (.bipush 6), 0, 0, .int (6), []), (39, (.invokevirtual 146), 143, 2, .null, [5]), (42, (.aload_n 0), 0, 0, .null, []), (43, (.bipush 93), 0, 0, .int (93), []), (45, (.bipush 93), 0, 0, .int (93), []), (47, (.invokevirtual 140), 140, 3, .null, [5]), (50, (.istore_n 1), 0, 0, .null, [1]), (51, (.aload_n 0), 0, 0, .null, []), (52, (.invokevirtual 150), 144, 1, .null, [5]), (55, .return_, 0, 0, .null, [])]
-- 146: X5_goesThrough (Z)I
def cd_146 : List (Nat × hx_CE) := [(0, (.aload_n 0), 0, 0, .null, []), (1, (.iconst 0), 0, 0, .int (0), []), (2, (.putfield 131), 5, 13, .null, []), (5, (.aload_n 0), 0, 0, .null, []), (6, (.iconst 0), 0, 0, .int (0), []), (7, (.putfield 127), 5, 14, .null, []), (10, (.iconst 0), 0, 0, .int (0), []), (11, (.istore_n 2), 0, 0, .null, [3, 4, 5]), (12, (.iconst 1), 0, 0, .int (1), []), (13, (.istore_n 3), 0, 0, .null, [4, 5]), (14, (.iload_n 3), 0, 0, .null, []), (15, (.ifCond .eq 115), 130, 0, .null, []), (18, (.aload_n 0), 0, 0, .null, []), (19, (.invokevirtual 153), 145, 1, .null, [5]), (22, (.iinc 2 1), 0, 0, .null, [3, 4, 5]), (25, (.iload_n 1), 0, 0, .null, []), (26, (.ifCond .eq 50), 76, 0, .null, []), (29, (.aload_n 0), 0, 0, .null, []), (30, (.aload_n 0), 0, 0, .null, []), (31, (.getfield 34), 5, 15, .null, []), (34, (.iconst 0), 0, 0, .int (0), []), (35, .iaload, 0, 0, .null, []), (36, (.invokevirtual 96), 125, 2, .null, [5]), (39, (.istore 4), 0, 0, .null, [3, 5]), (41, (.iconst 0), 0, 0, .int (0), []), (42, (.istore 5), 0, 0, .null, [3]), (44, (.iload 5), 0, 0, .null, []), (46, (.bipush 13), 0, 0, .int (13), []), (48, (.if_icmp .ge 28), 76, 0, .null, []), (51, (.aload_n 0), 0, 0, .null, []), (52, (.getfield 7), 5, 1, .null, []), (55, (.iload 4), 0, 0, .null, []), (57, (.iload 5), 0, 0, .null, []), (59, (.invokestatic 48), 105, 2, .null, []), (62, (.aload_n 0), 0, 0, .null, []), (63, (.getfield 34), 5, 15, .null, []), (66, (.iload 5), 0, 0, .null, []), (68, .iaload, 0, 0, .null, []), (69, .iastore, 0, 0, .null, []), (70, (.iinc 5 1), 0, 0, .null, [3]), (73, (.goto (-29)), 44, 0, .null, [3]), (76, (.aload_n 0), 0, 0, .null, []), (77, (.getfield 127), 5, 14, .null, []), (80, (.ifCond .ne 18), 98, 0, .null, []), (83, (.aload_n 0), 0, 0, .null, []), (84, (.getfield 131), 5, 13, .null, []), (87, (.aload_n 0), 0, 0, .null, []), (88, (.getfield 124), 5, 8, .null, []), (91, (.if_icmp .ge 7), 98, 0, .null, []), (94, (.iconst 1), 0, 0, .int (1), []), (95, (.goto 4), 99, 0, .null, [3, 4, 5]), (98, (.iconst 0), 0, 0, .int (0), []), (99, (.istore_n 3), 0, 0, .null, [4, 5]), (100, (.iload_n 3), 0, 0, .null, []), (101, (.ifCond .eq (-87)), 14, 0, .null, []), (104, (.aload_n 0), 0, 0, .null, []), (105, (.bipush 59), 0, 0, .int (59), []), (107, (.bipush 59), 0, 0, .int (59), []), (109, (.invokevirtual 140), 140, 3, .null, [5]), (112, (.istore 4), 0, 0, .null, [3, 4, 5]), (114, (.aload_n 0), 0, 0, .null, []), (115, (.getfield 127), 5, 14, .null, []), (118, (.ifCond .ne 7), 125, 0, .null, []), (121, (.iconst 1), 0, 0, .int (1), []), (122, (.goto 4), 126, 0, .null, [3, 4, 5]), (125, (.iconst 0), 0, 0, .int (0), []), (126, (.istore_n 3), 0, 0, .null, [4, 5]), (127, (.goto (-113)), 14, 0, .null, [4, 5]), (130, (.iload_n 2), 0, 0, .null, []), (131, .ireturn, 0, 0, .null, [])]
-- 147: X5_firstError ()I
def cd_147 : List (Nat × hx_CE) := [(0, (.aload_n 0), 0, 0, .null, []), (1, (.iconst 0), 0, 0, .int (0), []), (2, (.putfield 37), 5, 0, .null, []), (5, (.aload_n 0), 0, 0, .null, []), (6, (.iconst 0), 0, 0, .int (0), []), (7, (.invokevirtual 156), 146, 2, .null, [5]), (10, (.istore_n 1), 0, 0, .null, [1]), (11, (.aload_n 0), 0, 0, .null, []), (12, (.getfield 127), 5, 14, .null, []), (15, (.ifCond .eq 10), 25, 0, .null, []), (18, (.aload_n 0), 0, 0, .null, []), (19, (.getfield 131), 5, 13, .null, []), (22, (.goto 7), 29, 0, .null, [0, 1]), (25, (.aload_n 0), 0, 0, .null, []), (26, (.getfield 124), 5, 8, .null, []), (29, .ireturn, 0, 0, .null, [])]
-- 148: X5_load ()I
def cd_148 : List (Nat × hx_CE) := [(0, (.aload_n 0), 0, 0, .null, []), (1, (.iconst 0), 0, 0, .int (0), []), (2, (.invokevirtual 156), 146, 2, .null, [5]), (5, (.istore_n 1), 0, 0, .null, []), (6, (.aload_n 0), 0, 0, .null, []), (7, (.aload_n 0), 0, 0, .null, []), (8, (.getfield 127), 5, 14, .null, []), (11, (.ifCond .eq 7), 18, 0, .null, []), (14, (.iconst 1), 0, 0, .int (1), []), (15, (.goto 22), 37, 0, .null, [1]), (18, (.aload_n 0), 0, 0, .null, []), (19, (.getfield 7), 5, 1, .null, []), (22, (.bipush 98), 0, 0, .int (98), []), (24, .iaload, 0, 0, .null, []), (25, (.iload_n 1), 0, 0, .null, []), (26, .iadd, 0, 0, .null, []), (27, (.bipush 7), 0, 0, .int (7), []), (29, (.if_icmp .le 7), 36, 0, .null, []), (32, (.iconst 2), 0, 0, .int (2), []), (33, (.goto 4), 37, 0, .null, [1]), (36, (.iconst 0), 0, 0, .int (0), []), (37, (.invokevirtual 90), 103, 2, .null, [5]), (40, (.ifCond .ne 5), 45, 0, .null, []), (43, (.iconst 0), 0, 0, .int (0), []), (44, .ireturn, 0, 0, .null, []), (45, (.aload_n 0), 0, 0, .null, []), (46, (.invokevirtual 93), 106, 1, .null, [5]), (49, (.aload_n 0), 0, 0, .null, []), (50, (.iconst 1), 0, 0, .int (1), []), (51, (.invokevirtual 156), 146, 2, .null, [5]), (54, (.istore_n 1), 0, 0, .null, [1]), (55, (.aload_n 0), 0, 0, .null, []), (56, (.iconst 0), 0, 0, .int (0), []), (57, (.putfield 124), 5, 8, .null, []), (60, (.aload_n 0), 0, 0, .null, []), (61, (.getfield 7), 5, 1, .null, []), (64, (.bipush 98), 0, 0, .int (98), []), (66, .iaload, 0, 0, .null, []), (67, .ireturn, 0, 0, .null, [])]
-- 149: X5_keep (I)I
def cd_149 : List (Nat × hx_CE) := [(0, (.aload_n 0), 0, 0, .null, []), (1, (.iload_n 1), 0, 0, .null, []), (2, (.iconst 0), 0, 0, .int (0), []), (3, (.iconst 1), 0, 0, .int (1), []), (4, (.invokestatic 41), 102, 3, .null, []), (7, (.ifCond .eq 7), 14, 0, .null, []), (10, (.iconst 0), 0, 0, .int (0), []), (11, (.goto 4), 15, 0, .null, [2]), (14, (.iconst 1), 0, 0, .int (1), []), (15, (.invokevirtual 90), 103, 2, .null, [5]), (18, (.ifCond .ne 5), 23, 0, .null, []), (21, (.iconst 0), 0, 0, .int (0), []), (22, .ireturn, 0, 0, .null, []), (23, (.iconst 0), 0, 0, .int (0), []), (24, (.istore_n 2), 0, 0, .null, []), (25, (.iload_n 2), 0, 0, .null, []), (26, (.bipush 102), 0, 0, .int (102), []), (28, (.if_icmp .ge 26), 54, 0, .null, []), (31, (.aload_n 0), 0, 0, .null, []), (32, (.getfield 19), 5, 5, .null, []), (35, (.bipush 102), 0, 0, .int (102), []), (37, (.iload_n 1), 0, 0, .null, []), (38, .imul, 0, 0, .null, []), (39, (.iload_n 2), 0, 0, .null, []), (40, .iadd, 0, 0, .null, []), (41, (.aload_n 0), 0, 0, .null, []), (42, (.getfield 7), 5, 1, .null, []), (45, (.iload_n 2), 0, 0, .null, []), (46, .iaload, 0, 0, .null, []), (47, .iastore, 0, 0, .null, []), (48, (.iinc 2 1), 0, 0, .null, []), (51, (.goto (-26)), 25, 0, .null, []), (54, (.aload_n 0), 0, 0, .null, []), (55, .dup, 0, 0, .null, []), (56, (.getfield 160), 5, 6, .null, []), (59, (.iconst 1), 0, 0, .int (1), []), (60, (.iload_n 1), 0, 0, .null, []), (61, .ishl, 0, 0, .null, []), (62, .ior, 0, 0, .null, []), (63, (.putfield 160), 5, 6, .null, []), (66, (.aload_n 0), 0, 0, .null, []), (67, (.getfield 7), 5, 1, .null, []), (70, (.bipush 98), 0, 0, .int (98), []), (72, .iaload, 0, 0, .null, []), (73, .ireturn, 0, 0, .null, [])]
-- 150: X5_goBack (I)I
def cd_150 : List (Nat × hx_CE) := [(0, (.aload_n 0), 0, 0, .null, []), (1, (.iload_n 1), 0, 0, .null, []), (2, (.iconst 0), 0, 0, .int (0), []), (3, (.iconst 1), 0, 0, .int (1), []), (4, (.invokestatic 41), 102, 3, .null, []), (7, (.ifCond .ne 7), 14, 0, .null, []), (10, (.iconst 1), 0, 0, .int (1), []), (11, (.goto 19), 30, 0, .null, [2]), (14, (.aload_n 0), 0, 0, .null, []), (15, (.getfield 160), 5, 6, .null, []), (18, (.iload_n 1), 0, 0, .null, []), (19, .ishr, 0, 0, .null, []), (20, (.iconst 1), 0, 0, .int (1), []), (21, .iand, 0, 0, .null, []), (22, (.ifCond .ne 7), 29, 0, .null, []), (25, (.iconst 2), 0, 0, .int (2), []), (26, (.goto 4), 30, 0, .null, [2]), (29, (.iconst 0), 0, 0, .int (0), []), (30, (.invokevirtual 90), 103, 2, .null, [5]), (33, (.ifCond .ne 5), 38, 0, .null, []), (36, (.iconst 0), 0, 0, .int (0), []), (37, .ireturn, 0, 0, .null, []), (38, (.aload_n 0), 0, 0, .null, []), (39, (.invokevirtual 93), 106, 1, .null, [5]), (42, (.iconst 0), 0, 0, .int (0), []), (43, (.istore_n 2), 0, 0, .null, []), (44, (.iload_n 2), 0, 0, .null, []), (45, (.bipush 102), 0, 0, .int (102), []), (47, (.if_icmp .ge 26), 73, 0, .null, []), (50, (.aload_n 0), 0, 0, .null, []), (51, (.getfield 7), 5, 1, .null, []), (54, (.iload_n 2), 0, 0, .null, []), (55, (.aload_n 0), 0, 0, .null, []), (56, (.getfield 19), 5, 5, .null, []), (59, (.bipush 102), 0, 0, .int (102), []), (61, (.iload_n 1), 0, 0, .null, []), (62, .imul, 0, 0, .null, []), (63, (.iload_n 2), 0, 0, .null, []), (64, .iadd, 0, 0, .null, []), (65, .iaload, 0, 0, .null, []), (66, .iastore, 0, 0, .null, []), (67, (.iinc 2 1), 0, 0, .null, []), (70, (.goto (-26)), 44, 0, .null, []), (73, (.aload_n 0), 0, 0, .null, []), (74, (.getfield 7), 5, 1, .null, []), (77, (.bipush 98), 0, 0, .int (98), []), (79, .iaload, 0, 0, .null, []), (80, .ireturn, 0, 0, .null, [])]
-- 151: X5_undo ()I
def cd_151 : List (Nat × hx_CE) := [(0, (.aload_n 0), 0, 0, .null, []), (1, (.aload_n 0), 0, 0, .null, []), (2, (.getfield 45), 5, 4, .null, []), (5, (.ifCond .le 7), 12, 0, .null, []), (8, (.iconst 0), 0, 0, .int (0), []), (9, (.goto 4), 13, 0, .null, [1]), (12, (.iconst 1), 0, 0, .int (1), []), (13, (.invokevirtual 90), 103, 2, .null, [5]), (16, (.ifCond .ne 5), 21, 0, .null, []), (19, (.iconst 0), 0, 0, .int (0), []), (20, .ireturn, 0, 0, .null, []), (21, (.aload_n 0), 0, 0, .null, []), (22, .dup, 0, 0, .null, []), (23, (.getfield 45), 5, 4, .null, []), (26, (.iconst 1), 0, 0, .int (1), []), (27, .isub, 0, 0, .null, []), (28, (.putfield 45), 5, 4, .null, []), (31, (.iconst 0), 0, 0, .int (0), []), (32, (.istore_n 1), 0, 0, .null, []), (33, (.iload_n 1), 0, 0, .null, []), (34, (.bipush 102), 0, 0, .int (102), []), (36, (.if_icmp .ge 29), 65, 0, .null, []), (39, (.aload_n 0), 0, 0, .null, []), (40, (.getfield 7), 5, 1, .null, []), (43, (.iload_n 1), 0, 0, .null, []), (44, (.aload_n 0), 0, 0, .null, []), (45, (.getfield 16), 5, 3, .null, []), (48, (.bipush 102), 0, 0, .int (102), []), (50, (.aload_n 0), 0, 0, .null, []), (51, (.getfield 45), 5, 4, .null, []), (54, .imul, 0, 0, .null, []), (55, (.iload_n 1), 0, 0, .null, []), (56, .iadd, 0, 0, .null, []), (57, .iaload, 0, 0, .null, []), (58, .iastore, 0, 0, .null, []), (59, (.iinc 1 1), 0, 0, .null, []), (62, (.goto (-29)), 33, 0, .null, []), (65, (.aload_n 0), 0, 0, .null, []), (66, (.getfield 45), 5, 4, .null, []), (69, .ireturn, 0, 0, .null, [])]
-- 152: X5_ofPiece (II)I
def cd_152 : List (Nat × hx_CE) := [(0, (.iload_n 2), 0, 0, .null, []), (1, (.tableswitch 45 11 13 #[27, 33, 39]), 46, 0, .retAddr 27, [28, 34, 40]), (28, (.aload_n 0), 0, 0, .null, []), (29, (.iload_n 1), 0, 0, .null, []), (30, (.invokevirtual 105), 119, 2, .null, [5]), (33, .ireturn, 0, 0, .null, []), (34, (.aload_n 0), 0, 0, .null, []), (35, (.iload_n 1), 0, 0, .null, []), (36, (.invokevirtual 59), 112, 2, .null, [5]), (39, .ireturn, 0, 0, .null, []), (40, (.aload_n 0), 0, 0, .null, []), (41, (.iload_n 1), 0, 0, .null, []), (42, (.invokevirtual 163), 113, 2, .null, [5]), (45, .ireturn, 0, 0, .null, []), (46, (.aload_n 0), 0, 0, .null, []), (47, (.getfield 7), 5, 1, .null, []), (50, (.iload_n 1), 0, 0, .null, []), (51, (.iload_n 2), 0, 0, .null, []), (52, (.invokestatic 48), 105, 2, .null, []), (55, .iaload, 0, 0, .null, []), (56, .ireturn, 0, 0, .null, [])]
-- 153: X5_pieceOf (II)I
def cd_153 : List (Nat × hx_CE) := [(0, (.aload_n 0), 0, 0, .null, []), (1, (.aload_n 0), 0, 0, .null, []), (2, (.iload_n 1), 0, 0, .null, []), (3, (.invokevirtual 99), 104, 2, .null, [5]), (6, (.ifCond .ne 7), 13, 0, .null, []), (9, (.iconst 1), 0, 0, .int (1), []), (10, (.goto 18), 28, 0, .null, []), (13, (.iload_n 2), 0, 0, .null, []), (14, (.iconst 0), 0, 0, .int (0), []), (15, (.bipush 13), 0, 0, .int (13), []), (17, (.invokestatic 41), 102, 3, .null, []), (20, (.ifCond .eq 7), 27, 0, .null, []), (23, (.iconst 0), 0, 0, .int (0), []), (24, (.goto 4), 28, 0, .null, []), (27, (.iconst 2), 0, 0, .int (2), []), (28, (.invokevirtual 90), 103, 2, .null, [5]), (31, (.ifCond .eq 12), 43, 0, .null, []), (34, (.aload_n 0), 0, 0, .null, []), (35, (.iload_n 1), 0, 0, .null, []), (36, (.iload_n 2), 0, 0, .null, []), (37, (.invokevirtual 166), 152, 3, .null, [5]), (40, (.goto 4), 44, 0, .null, [0, 1, 2]), (43, (.iconst 0), 0, 0, .int (0), []), (44, .ireturn, 0, 0, .null, [])]
-- 154: X5_isHole (II)I
def cd_154 : List (Nat × hx_CE) := [(0, (.aload_n 0), 0, 0, .null, []), (1, (.aload_n 0), 0, 0, .null, []), (2, (.iload_n 1), 0, 0, .null, []), (3, (.invokevirtual 99), 104, 2, .null, [5]), (6, (.ifCond .ne 7), 13, 0, .null, []), (9, (.iconst 1), 0, 0, .int (1), []), (10, (.goto 17), 27, 0, .null, []), (13, (.aload_n 0), 0, 0, .null, []), (14, (.iload_n 1), 0, 0, .null, []), (15, (.iload_n 2), 0, 0, .null, []), (16, (.invokevirtual 108), 130, 3, .null, [5]), (19, (.ifCond .eq 7), 26, 0, .null, []), (22, (.iconst 0), 0, 0, .int (0), []), (23, (.goto 4), 27, 0, .null, []), (26, (.iconst 2), 0, 0, .int (2), []), (27, (.invokevirtual 90), 103, 2, .null, [5]), (30, (.ifCond .ne 5), 35, 0, .null, []), (33, (.iconst 0), 0, 0, .int (0), []), (34, .ireturn, 0, 0, .null, []), (35, (.aload_n 0), 0, 0, .null, []), (36, (.iload_n 1), 0, 0, .null, []), (37, (.iload_n 2), 0, 0, .null, []), (38, (.invokevirtual 70), 118, 3, .null, [5]), (41, (.ifCond .eq 7), 48, 0, .null, []), (44, (.iconst 1), 0, 0, .int (1), []), (45, (.goto 4), 49, 0, .null, [0, 1, 2]), (48, (.iconst 0), 0, 0, .int (0), []), (49, .ireturn, 0, 0, .null, [])]
-- 155: X5_at (I)I
def cd_155 : List (Nat × hx_CE) := [(0, (.aload_n 0), 0, 0, .null, []), (1, (.iload_n 1), 0, 0, .null, []), (2, (.ifCond .ge 7), 9, 0, .null, []), (5, (.iconst 1), 0, 0, .int (1), []), (6, (.goto 4), 10, 0, .null, []), (9, (.iconst 0), 0, 0, .int (0), []), (10, (.invokevirtual 90), 103, 2, .null, [5]), (13, (.ifCond .ne 5), 18, 0, .null, []), (16, (.iconst 0), 0, 0, .int (0), []), (17, .ireturn, 0, 0, .null, []), (18, (.iload_n 1), 0, 0, .null, []), (19, (.aload_n 0), 0, 0, .null, []), (20, (.getfield 7), 5, 1, .null, []), (23, (.bipush 98), 0, 0, .int (98), []), (25, .iaload, 0, 0, .null, []), (26, (.if_icmp .ge 15), 41, 0, .null, []), (29, (.aload_n 0), 0, 0, .null, []), (30, (.getfield 7), 5, 1, .null, []), (33, (.bipush 91), 0, 0, .int (91), []), (35, (.iload_n 1), 0, 0, .null, []), (36, .iadd, 0, 0, .null, []), (37, .iaload, 0, 0, .null, []), (38, (.goto 4), 42, 0, .null, [0, 1]), (41, (.iconst (-1)), 0, 0, .int (-1), []), (42, .ireturn, 0, 0, .null, [])]
-- 156: X5_cost (II)I
def cd_156 : List (Nat × hx_CE) := [(0, (.aload_n 0), 0, 0, .null, []), (1, (.aload_n 0), 0, 0, .null, []), (2, (.iload_n 1), 0, 0, .null, []), (3, (.invokevirtual 99), 104, 2, .null, [5]), (6, (.ifCond .eq 11), 17, 0, .null, []), (9, (.aload_n 0), 0, 0, .null, []), (10, (.iload_n 2), 0, 0, .null, []), (11, (.invokevirtual 99), 104, 2, .null, [5]), (14, (.ifCond .ne 7), 21, 0, .null, []), (17, (.iconst 1), 0, 0, .int (1), []), (18, (.goto 13), 31, 0, .null, []), (21, (.iload_n 1), 0, 0, .null, []), (22, (.iload_n 2), 0, 0, .null, []), (23, (.if_icmp .ne 7), 30, 0, .null, []), (26, (.iconst 2), 0, 0, .int (2), []), (27, (.goto 4), 31, 0, .null, []), (30, (.iconst 0), 0, 0, .int (0), []), (31, (.invokevirtual 90), 103, 2, .null, [5]), (34, (.ifCond .eq 12), 46, 0, .null, []), (37, (.aload_n 0), 0, 0, .null, []), (38, (.iload_n 1), 0, 0, .null, []), (39, (.iload_n 2), 0, 0, .null, []), (40, (.invokevirtual 56), 110, 3, .null, [5]), (43, (.goto 4), 47, 0, .null, [0, 1, 2]), (46, (.iconst 0), 0, 0, .int (0), []), (47, .ireturn, 0, 0, .null, [])]
-- 157: X5_ofHole (II)I
def cd_157 : List (Nat × hx_CE) := [(0, (.aload_n 0), 0, 0, .null, []), (1, (.invokevirtual 84), 120, 1, .null, [5]), (4, (.iload_n 1), 0, 0, .null, []), (5, (.aload_n 0), 0, 0, .null, []), (6, (.getfield 74), 5, 10, .null, []), (9, (.if_icmp .lt 5), 14, 0, .null, []), (12, (.iconst (-1)), 0, 0, .int (-1), []), (13, .ireturn, 0, 0, .null, []), (14, (.iload_n 2), 0, 0, .null, []), (15, (.tableswitch 77 0 3 #[29, 36, 43, 63]), 92, 0, .retAddr 29, [44, 51, 58, 78]), (44, (.aload_n 0), 0, 0, .null, []), (45, (.getfield 28), 5, 11, .null, []), (48, (.iload_n 1), 0, 0, .null, []), (49, .iaload, 0, 0, .null, []), (50, .ireturn, 0, 0, .null, []), (51, (.aload_n 0), 0, 0, .null, []), (52, (.getfield 31), 5, 12, .null, []), (55, (.iload_n 1), 0, 0, .null, []), (56, .iaload, 0, 0, .null, []), (57, .ireturn, 0, 0, .null, []), (58, (.iload_n 1), 0, 0, .null, []), (59, (.aload_n 0), 0, 0, .null, []), (60, (.getfield 74), 5, 10, .null, []), (63, (.iconst 1), 0, 0, .int (1), []), (64, .isub, 0, 0, .null, []), (65, (.if_icmp .ne 7), 72, 0, .null, []), (68, (.iconst (-1)), 0, 0, .int (-1), []), (69, (.goto 8), 77, 0, .null, [0, 1, 2]), (72, (.aload_n 0), 0, 0, .null, []), (73, (.iload_n 1), 0, 0, .null, []), (74, (.invokevirtual 77), 121, 2, .null, [5]), (77, .ireturn, 0, 0, .null, []), (78, (.aload_n 0), 0, 0, .null, []), (79, (.iload_n 1), 0, 0, .null, []), (80, (.invokevirtual 80), 122, 2, .null, [5]), (83, (.ifCond .eq 7), 90, 0, .null, []), (86, (.iconst 1), 0, 0, .int (1), []), (87, (.goto 4), 91, 0, .null, [0, 1, 2]), (90, (.iconst 0), 0, 0, .int (0), []), (91, .ireturn, 0, 0, .null, []), (92, (.aload_n 0), 0, 0, .null, []), (93, (.iload_n 1), 0, 0, .null, []), (94, (.invokevirtual 87), 123, 2, .null, [5]), (97, .ireturn, 0, 0, .null, [])]
-- 158: X5_holeOf (II)I
def cd_158 : List (Nat × hx_CE) := [(0, (.aload_n 0), 0, 0, .null, []), (1, (.iload_n 1), 0, 0, .null, []), (2, (.ifCond .lt 12), 14, 0, .null, []), (5, (.iload_n 2), 0, 0, .null, []), (6, (.iconst 0), 0, 0, .int (0), []), (7, (.iconst 4), 0, 0, .int (4), []), (8, (.invokestatic 41), 102, 3, .null, []), (11, (.ifCond .ne 7), 18, 0, .null, []), (14, (.iconst 1), 0, 0, .int (1), []), (15, (.goto 4), 19, 0, .null, []), (18, (.iconst 0), 0, 0, .int (0), []), (19, (.invokevirtual 90), 103, 2, .null, [5]), (22, (.ifCond .eq 12), 34, 0, .null, []), (25, (.aload_n 0), 0, 0, .null, []), (26, (.iload_n 1), 0, 0, .null, []), (27, (.iload_n 2), 0, 0, .null, []), (28, (.invokevirtual 169), 157, 3, .null, [5]), (31, (.goto 4), 35, 0, .null, [0, 1, 2]), (34, (.iconst 0), 0, 0, .int (0), []), (35, .ireturn, 0, 0, .null, [])]
-- 159: X5_sumOf (I)I
def cd_159 : List (Nat × hx_CE) := [(0, (.iconst 0), 0, 0, .int (0), []), (1, (.istore_n 2), 0, 0, .null, [3]), (2, (.iconst 0), 0, 0, .int (0), []), (3, (.istore_n 3), 0, 0, .null, []), (4, (.iload_n 3), 0, 0, .null, []), (5, (.aload_n 0), 0, 0, .null, []), (6, (.getfield 7), 5, 1, .null, []), (9, (.bipush 98), 0, 0, .int (98), []), (11, .iaload, 0, 0, .null, []), (12, (.if_icmp .ge 18), 30, 0, .null, []), (15, (.iload_n 2), 0, 0, .null, []), (16, (.aload_n 0), 0, 0, .null, []), (17, (.iload_n 3), 0, 0, .null, []), (18, (.iload_n 1), 0, 0, .null, []), (19, (.invokevirtual 166), 152, 3, .null, [5]), (22, .iadd, 0, 0, .null, []), (23, (.istore_n 2), 0, 0, .null, []), (24, (.iinc 3 1), 0, 0, .null, []), (27, (.goto (-23)), 4, 0, .null, []), (30, (.iload_n 2), 0, 0, .null, []), (31, .ireturn, 0, 0, .null, [])]
-- 160: X5_counted (I)I
def cd_160 : List (Nat × hx_CE) := [(0, (.iload_n 1), 0, 0, .null, []), (1, (.tableswitch 99 0 8 #[51, 59, 65, 70, 70, 75, 82, 82, 91]), 100, 0, .retAddr 51, [52, 60, 66, 71, 71, 76, 83, 83, 92]), (52, (.aload_n 0), 0, 0, .null, []), (53, (.getfield 7), 5, 1, .null, []), (56, (.bipush 98), 0, 0, .int (98), []), (58, .iaload, 0, 0, .null, []), (59, .ireturn, 0, 0, .null, []), (60, (.aload_n 0), 0, 0, .null, []), (61, (.iconst 0), 0, 0, .int (0), []), (62, (.invokevirtual 172), 159, 2, .null, [5]), (65, .ireturn, 0, 0, .null, []), (66, (.aload_n 0), 0, 0, .null, []), (67, (.invokevirtual 118), 111, 1, .null, [5]), (70, .ireturn, 0, 0, .null, []), (71, (.aload_n 0), 0, 0, .null, []), (72, (.invokevirtual 66), 114, 1, .null, [5]), (75, .ireturn, 0, 0, .null, []), (76, (.aload_n 0), 0, 0, .null, []), (77, (.bipush 11), 0, 0, .int (11), []), (79, (.invokevirtual 172), 159, 2, .null, [5]), (82, .ireturn, 0, 0, .null, []), (83, (.aload_n 0), 0, 0, .null, []), (84, (.iload_n 1), 0, 0, .null, []), (85, (.bipush 6), 0, 0, .int (6), []), (87, .isub, 0, 0, .null, []), (88, (.invokevirtual 175), 124, 2, .null, [5]), (91, .ireturn, 0, 0, .null, []), (92, (.aload_n 0), 0, 0, .null, []), (93, (.getfield 7), 5, 1, .null, []), (96, (.bipush 99), 0, 0, .int (99), []), (98, .iaload, 0, 0, .null, []), (99, .ireturn, 0, 0, .null, []), (100, (.aload_n 0), 0, 0, .null, []), (101, (.getfield 45), 5, 4, .null, []), (104, .ireturn, 0, 0, .null, [])]
-- 161: X5_count (I)I
def cd_161 : List (Nat × hx_CE) := [(0, (.aload_n 0), 0, 0, .null, []), (1, (.iload_n 1), 0, 0, .null, []), (2, (.iconst 0), 0, 0, .int (0), []), (3, (.bipush 9), 0, 0, .int (9), []), (5, (.invokestatic 41), 102, 3, .null, []), (8, (.ifCond .eq 7), 15, 0, .null, []), (11, (.iconst 0), 0, 0, .int (0), []), (12, (.goto 4), 16, 0, .null, []), (15, (.iconst 1), 0, 0, .int (1), []), (16, (.invokevirtual 90), 103, 2, .null, [5]), (19, (.ifCond .eq 11), 30, 0, .null, []), (22, (.aload_n 0), 0, 0, .null, []), (23, (.iload_n 1), 0, 0, .null, []), (24, (.invokevirtual 178), 160, 2, .null, [5]), (27, (.goto 4), 31, 0, .null, [0, 1]), (30, (.iconst 0), 0, 0, .int (0), []), (31, .ireturn, 0, 0, .null, [])]
-- 162: X5_setting (I)I
def cd_162 : List (Nat × hx_CE) := [(0, (.aload_n 0), 0, 0, .null, []), (1, (.iload_n 1), 0, 0, .null, []), (2, (.iconst 0), 0, 0, .int (0), []), (3, (.iconst 1), 0, 0, .int (1), []), (4, (.invokestatic 41), 102, 3, .null, []), (7, (.ifCond .eq 7), 14, 0, .null, []), (10, (.iconst 0), 0, 0, .int (0), []), (11, (.goto 4), 15, 0, .null, []), (14, (.iconst 1), 0, 0, .int (1), []), (15, (.invokevirtual 90), 103, 2, .null, [5]), (18, (.ifCond .eq 15), 33, 0, .null, []), (21, (.aload_n 0), 0, 0, .null, []), (22, (.getfield 7), 5, 1, .null, []), (25, (.bipush 100), 0, 0, .int (100), []), (27, (.iload_n 1), 0, 0, .null, []), (28, .iadd, 0, 0, .null, []), (29, .iaload, 0, 0, .null, []), (30, (.goto 4), 34, 0, .null, [0, 1]), (33, (.iconst 0), 0, 0, .int (0), []), (34, .ireturn, 0, 0, .null, [])]
-- 163: X5_bestBut (II)I
def cd_163 : List (Nat × hx_CE) := [(0, (.iconst (-1)), 0, 0, .int (-1), []), (1, (.istore_n 3), 0, 0, .null, [4, 5]), (2, (.iconst 0), 0, 0, .int (0), []), (3, (.istore 4), 0, 0, .null, [5]), (5, (.iload 4), 0, 0, .null, []), (7, (.aload_n 0), 0, 0, .null, []), (8, (.getfield 7), 5, 1, .null, []), (11, (.bipush 98), 0, 0, .int (98), []), (13, .iaload, 0, 0, .null, []), (14, (.if_icmp .ge 61), 75, 0, .null, []), (17, (.iload 4), 0, 0, .null, []), (19, (.iload_n 1), 0, 0, .null, []), (20, (.if_icmp .eq 13), 33, 0, .null, []), (23, (.iload 4), 0, 0, .null, []), (25, (.iload_n 2), 0, 0, .null, []), (26, (.if_icmp .eq 7), 33, 0, .null, []), (29, (.iconst 1), 0, 0, .int (1), []), (30, (.goto 4), 34, 0, .null, [5]), (33, (.iconst 0), 0, 0, .int (0), []), (34, (.istore 5), 0, 0, .null, []), (36, (.iload 5), 0, 0, .null, []), (38, (.ifCond .eq 29), 67, 0, .null, []), (41, (.iload_n 3), 0, 0, .null, []), (42, (.iconst (-1)), 0, 0, .int (-1), []), (43, (.if_icmp .eq 19), 62, 0, .null, []), (46, (.aload_n 0), 0, 0, .null, []), (47, (.iload_n 1), 0, 0, .null, []), (48, (.iload 4), 0, 0, .null, []), (50, (.invokevirtual 56), 110, 3, .null, [5]), (53, (.aload_n 0), 0, 0, .null, []), (54, (.iload_n 1), 0, 0, .null, []), (55, (.iload_n 3), 0, 0, .null, []), (56, (.invokevirtual 56), 110, 3, .null, [5]), (59, (.if_icmp .ge 8), 67, 0, .null, []), (62, (.iload 4), 0, 0, .null, []), (64, (.goto 4), 68, 0, .null, [3, 5]), (67, (.iload_n 3), 0, 0, .null, []), (68, (.istore_n 3), 0, 0, .null, [5]), (69, (.iinc 4 1), 0, 0, .null, [5]), (72, (.goto (-67)), 5, 0, .null, [5]), (75, (.iload_n 3), 0, 0, .null, []), (76, .ireturn, 0, 0, .null, [])]
-- 164: X5_bestBehind (I)I
def cd_164 : List (Nat × hx_CE) := [(0, (.aload_n 0), 0, 0, .null, []), (1, (.aload_n 0), 0, 0, .null, []), (2, (.iload_n 1), 0, 0, .null, []), (3, (.invokevirtual 99), 104, 2, .null, [5]), (6, (.ifCond .eq 7), 13, 0, .null, []), (9, (.iconst 0), 0, 0, .int (0), []), (10, (.goto 4), 14, 0, .null, []), (13, (.iconst 1), 0, 0, .int (1), []), (14, (.invokevirtual 90), 103, 2, .null, [5]), (17, (.ifCond .eq 12), 29, 0, .null, []), (20, (.aload_n 0), 0, 0, .null, []), (21, (.iload_n 1), 0, 0, .null, []), (22, (.iconst (-1)), 0, 0, .int (-1), []), (23, (.invokevirtual 181), 163, 3, .null, [5]), (26, (.goto 4), 30, 0, .null, [0, 1]), (29, (.iconst 0), 0, 0, .int (0), []), (30, .ireturn, 0, 0, .null, [])]
-- 165: X5_sureOf (I)I
def cd_165 : List (Nat × hx_CE) := [(0, (.aload_n 0), 0, 0, .null, []), (1, (.iload_n 1), 0, 0, .null, []), (2, (.iconst (-1)), 0, 0, .int (-1), []), (3, (.invokevirtual 181), 163, 3, .null, [5]), (6, (.istore_n 2), 0, 0, .null, [3]), (7, (.aload_n 0), 0, 0, .null, []), (8, (.iload_n 1), 0, 0, .null, []), (9, (.iload_n 2), 0, 0, .null, []), (10, (.invokevirtual 181), 163, 3, .null, [5]), (13, (.istore_n 3), 0, 0, .null, []), (14, (.aload_n 0), 0, 0, .null, []), (15, (.getfield 7), 5, 1, .null, []), (18, (.bipush 98), 0, 0, .int (98), []), (20, .iaload, 0, 0, .null, []), (21, (.iconst 3), 0, 0, .int (3), []), (22, (.if_icmp .ge 7), 29, 0, .null, []), (25, (.iconst (-1)), 0, 0, .int (-1), []), (26, (.goto 16), 42, 0, .null, [0, 1, 2, 3]), (29, (.aload_n 0), 0, 0, .null, []), (30, (.iload_n 1), 0, 0, .null, []), (31, (.iload_n 3), 0, 0, .null, []), (32, (.invokevirtual 56), 110, 3, .null, [5]), (35, (.aload_n 0), 0, 0, .null, []), (36, (.iload_n 1), 0, 0, .null, []), (37, (.iload_n 2), 0, 0, .null, []), (38, (.invokevirtual 56), 110, 3, .null, [5]), (41, .isub, 0, 0, .null, []), (42, .ireturn, 0, 0, .null, [])]
-- 166: X5_sureness (I)I
def cd_166 : List (Nat × hx_CE) := [(0, (.aload_n 0), 0, 0, .null, []), (1, (.aload_n 0), 0, 0, .null, []), (2, (.iload_n 1), 0, 0, .null, []), (3, (.invokevirtual 99), 104, 2, .null, [5]), (6, (.ifCond .eq 7), 13, 0, .null, []), (9, (.iconst 0), 0, 0, .int (0), []), (10, (.goto 4), 14, 0, .null, []), (13, (.iconst 1), 0, 0, .int (1), []), (14, (.invokevirtual 90), 103, 2, .null, [5]), (17, (.ifCond .eq 11), 28, 0, .null, []), (20, (.aload_n 0), 0, 0, .null, []), (21, (.iload_n 1), 0, 0, .null, []), (22, (.invokevirtual 184), 165, 2, .null, [5]), (25, (.goto 4), 29, 0, .null, [0, 1]), (28, (.iconst 0), 0, 0, .int (0), []), (29, .ireturn, 0, 0, .null, [])]
-- 167: X5_placeFor (I)I
def cd_167 : List (Nat × hx_CE) := [(0, (.aload_n 0), 0, 0, .null, []), (1, (.invokevirtual 187), 107, 1, .null, [5]), (4, (.iconst 0), 0, 0, .int (0), []), (5, (.istore_n 2), 0, 0, .null, [3, 4, 5]), (6, (.iconst 0), 0, 0, .int (0), []), (7, (.istore_n 3), 0, 0, .null, [4, 5]), (8, (.iconst 0), 0, 0, .int (0), []), (9, (.istore 4), 0, 0, .null, [5]), (11, (.iload 4), 0, 0, .null, []), (13, (.aload_n 0), 0, 0, .null, []), (14, (.getfield 7), 5, 1, .null, []), (17, (.bipush 98), 0, 0, .int (98), []), (19, .iaload, 0, 0, .null, []), (20, (.if_icmp .ge 62), 82, 0, .null, []), (23, (.aload_n 0), 0, 0, .null, []), (24, (.iload_n 1), 0, 0, .null, []), (25, (.iload 4), 0, 0, .null, []), (27, (.invokevirtual 114), 117, 3, .null, [5]), (30, (.aload_n 0), 0, 0, .null, []), (31, (.invokevirtual 118), 111, 1, .null, [5]), (34, (.istore 5), 0, 0, .null, []), (36, (.aload_n 0), 0, 0, .null, []), (37, (.invokevirtual 190), 108, 1, .null, [5]), (40, (.iload 4), 0, 0, .null, []), (42, (.ifCond .eq 9), 51, 0, .null, []), (45, (.iload 5), 0, 0, .null, []), (47, (.iload_n 3), 0, 0, .null, []), (48, (.if_icmp .ge 8), 56, 0, .null, []), (51, (.iload 4), 0, 0, .null, []), (53, (.goto 4), 57, 0, .null, [2]), (56, (.iload_n 2), 0, 0, .null, []), (57, (.istore_n 2), 0, 0, .null, []), (58, (.iload 4), 0, 0, .null, []), (60, (.ifCond .eq 9), 69, 0, .null, []), (63, (.iload 5), 0, 0, .null, []), (65, (.iload_n 3), 0, 0, .null, []), (66, (.if_icmp .ge 8), 74, 0, .null, []), (69, (.iload 5), 0, 0, .null, []), (71, (.goto 4), 75, 0, .null, [3, 5]), (74, (.iload_n 3), 0, 0, .null, []), (75, (.istore_n 3), 0, 0, .null, [5]), (76, (.iinc 4 1), 0, 0, .null, [5]), (79, (.goto (-68)), 11, 0, .null, [5]), (82, (.iload_n 2), 0, 0, .null, []), (83, .ireturn, 0, 0, .null, [])]
-- 168: X5_bestPlace (I)I
def cd_168 : List (Nat × hx_CE) := [(0, (.aload_n 0), 0, 0, .null, []), (1, (.aload_n 0), 0, 0, .null, []), (2, (.iload_n 1), 0, 0, .null, []), (3, (.invokevirtual 99), 104, 2, .null, [5]), (6, (.ifCond .eq 7), 13, 0, .null, []), (9, (.iconst 0), 0, 0, .int (0), []), (10, (.goto 4), 14, 0, .null, []), (13, (.iconst 1), 0, 0, .int (1), []), (14, (.invokevirtual 90), 103, 2, .null, [5]), (17, (.ifCond .eq 11), 28, 0, .null, []), (20, (.aload_n 0), 0, 0, .null, []), (21, (.iload_n 1), 0, 0, .null, []), (22, (.invokevirtual 193), 167, 2, .null, [5]), (25, (.goto 4), 29, 0, .null, [0, 1]), (28, (.iconst 0), 0, 0, .int (0), []), (29, .ireturn, 0, 0, .null, [])]
-- 169: X5_wrongIfSorted ()I
def cd_169 : List (Nat × hx_CE) := [(0, (.aload_n 0), 0, 0, .null, []), (1, (.invokevirtual 187), 107, 1, .null, [5]), (4, (.aload_n 0), 0, 0, .null, []), (5, (.invokevirtual 121), 116, 1, .null, [5]), (8, (.aload_n 0), 0, 0, .null, []), (9, (.iconst 0), 0, 0, .int (0), []), (10, (.invokevirtual 175), 124, 2, .null, [5]), (13, (.istore_n 1), 0, 0, .null, []), (14, (.aload_n 0), 0, 0, .null, []), (15, (.invokevirtual 190), 108, 1, .null, [5]), (18, (.iload_n 1), 0, 0, .null, []), (19, .ireturn, 0, 0, .null, [])]
-- 170: X5_ifOrdered ()I
def cd_170 : List (Nat × hx_CE) := [(0, (.aload_n 0), 0, 0, .null, []), (1, (.iconst 0), 0, 0, .int (0), []), (2, (.putfield 37), 5, 0, .null, []), (5, (.aload_n 0), 0, 0, .null, []), (6, (.invokevirtual 196), 169, 1, .null, [5]), (9, .ireturn, 0, 0, .null, [])]
-- 171: X5_shrink ()F
def cd_171 : List (Nat × hx_CE) := [(0, (.aload_n 0), 0, 0, .null, []), (1, (.invokevirtual 84), 120, 1, .null, [5]), (4, (.aload_n 0), 0, 0, .null, []), (5, (.getfield 74), 5, 10, .null, []), (8, (.iconst 3), 0, 0, .int (3), []), (9, (.if_icmp .ge 7), 16, 0, .null, []), (12, (.fconst 0), 0, 0, .float FP.fconst0, []), (13, (.goto 28), 41, 0, .null, [0]), (16, (.aload_n 0), 0, 0, .null, []), (17, (.iconst 0), 0, 0, .int (0), []), (18, (.invokevirtual 77), 121, 2, .null, [5]), (21, (.aload_n 0), 0, 0, .null, []), (22, (.aload_n 0), 0, 0, .null, []), (23, (.getfield 74), 5, 10, .null, []), (26, (.iconst 2), 0, 0, .int (2), []), (27, .isub, 0, 0, .null, []), (28, (.invokevirtual 77), 121, 2, .null, [5]), (31, .isub, 0, 0, .null, []), (32, .i2f, 0, 0, .null, []), (33, (.aload_n 0), 0, 0, .null, []), (34, (.getfield 74), 5, 10, .null, []), (37, (.iconst 2), 0, 0, .int (2), []), (38, .isub, 0, 0, .null, []), (39, .i2f, 0, 0, .null, []), (40, .fdiv, 0, 0, .null, []), (41, .freturn, 0, 0, .null, [])]
-- 172: X5_meanShrink ()F
def cd_172 : List (Nat × hx_CE) := [(0, (.aload_n 0), 0, 0, .null, []), (1, (.iconst 0), 0, 0, .int (0), []), (2, (.putfield 37), 5, 0, .null, []), (5, (.aload_n 0), 0, 0, .null, []), (6, (.invokevirtual 199), 171, 1, .null, [5]), (9, .freturn, 0, 0, .null, [])]
-- 173: X5_dear ()D
def cd_173 : List (Nat × hx_CE) := [(0, (.aload_n 0), 0, 0, .null, []), (1, (.getfield 7), 5, 1, .null, []), (4, (.bipush 98), 0, 0, .int (98), []), (6, .iaload, 0, 0, .null, []), (7, (.iconst 2), 0, 0, .int (2), []), (8, (.if_icmp .ge 7), 15, 0, .null, []), (11, (.dconst 0), 0, 0, .double FP.dconst0, []), (12, (.goto 19), 31, 0, .null, [0]), (15, (.aload_n 0), 0, 0, .null, []), (16, (.invokevirtual 118), 111, 1, .null, [5]), (19, .i2d, 0, 0, .null, []), (20, (.aload_n 0), 0, 0, .null, []), (21, (.getfield 7), 5, 1, .null, []), (24, (.bipush 98), 0, 0, .int (98), []), (26, .iaload, 0, 0, .null, []), (27, (.iconst 1), 0, 0, .int (1), []), (28, .isub, 0, 0, .null, []), (29, .i2d, 0, 0, .null, []), (30, .ddiv, 0, 0, .null, []), (31, .dreturn, 0, 0, .null, [])]
-- 174: X5_meanCost ()D
def cd_174 : List (Nat × hx_CE) := [(0, (.aload_n 0), 0, 0, .null, []), (1, (.iconst 0), 0, 0, .int (0), []), (2, (.putfield 37), 5, 0, .null, []), (5, (.aload_n 0), 0, 0, .null, []), (6, (.invokevirtual 203), 173, 1, .null, [5]), (9, .dreturn, 0, 0, .null, [])]
-- 175: X5_bitsOf (F)I
def cd_175 : List (Nat × hx_CE) := [(0, (.fload_n 0), 0, 0, .null, []), (1, (.fconst 0), 0, 0, .float FP.fconst0, []), (2, (.fcmp .g), 0, 0, .null, []), (3, (.ifCond .ge 8), 11, 0, .null, []), (6, (.fload_n 0), 0, 0, .null, []), (7, .fneg, 0, 0, .null, []), (8, (.goto 4), 12, 0, .null, [1, 2, 3]), (11, (.fload_n 0), 0, 0, .null, []), (12, (.fstore_n 1), 0, 0, .null, [2, 3]), (13, (.bipush 127), 0, 0, .int (127), []), (15, (.istore_n 2), 0, 0, .null, [3]), (16, (.fload_n 1), 0, 0, .null, []), (17, (.fconst 2), 0, 0, .float FP.fconst2, []), (18, (.fcmp .l), 0, 0, .null, []), (19, (.ifCond .lt 13), 32, 0, .null, []), (22, (.fload_n 1), 0, 0, .null, []), (23, (.fconst 2), 0, 0, .float FP.fconst2, []), (24, .fdiv, 0, 0, .null, []), (25, (.fstore_n 1), 0, 0, .null, [3]), (26, (.iinc 2 1), 0, 0, .null, [3]), (29, (.goto (-13)), 16, 0, .null, [3]), (32, (.fload_n 1), 0, 0, .null, []), (33, (.fconst 0), 0, 0, .float FP.fconst0, []), (34, (.fcmp .l), 0, 0, .null, []), (35, (.ifCond .le 19), 54, 0, .null, []), (38, (.fload_n 1), 0, 0, .null, []), (39, (.fconst 1), 0, 0, .float FP.fconst1, []), (40, (.fcmp .g), 0, 0, .null, []), (41, (.ifCond .ge 13), 54, 0, .null, []), (44, (.fload_n 1), 0, 0, .null, []), (45, (.fconst 2), 0, 0, .float FP.fconst2, []), (46, .fmul, 0, 0, .null, []), (47, (.fstore_n 1), 0, 0, .null, [3]), (48, (.iinc 2 (-1)), 0, 0, .null, [3]), (51, (.goto (-19)), 32, 0, .null, [3]), (54, (.fload_n 0), 0, 0, .null, []), (55, (.fconst 0), 0, 0, .float FP.fconst0, []), (56, (.fcmp .l), 0, 0, .null, []), (57, (.ifCond .ne 7), 64, 0, .null, []), (60, (.iconst 0), 0, 0, .int (0), []), (61, (.goto 15), 76, 0, .null, [1, 2, 3]), (64, (.iload_n 2), 0, 0, .null, []), (65, (.ldc 207), 0, 0, .int (8388608), []), (67, .imul, 0, 0, .null, []), (68, (.fload_n 1), 0, 0, .null, []), (69, (.fconst 1), 0, 0, .float FP.fconst1, []), (70, .fsub, 0, 0, .null, []), (71, (.ldc 208), 0, 0, .float (1258291200), []), (73, .fmul, 0, 0, .null, []), (74, .f2i, 0, 0, .null, []), (75, .iadd, 0, 0, .null, []), (76, (.istore_n 3), 0, 0, .null, [1, 2]), (77, (.fload_n 0), 0, 0, .null, []), (78, (.fconst 0), 0, 0, .float FP.fconst0, []), (79, (.fcmp .g), 0, 0, .null, []), (80, (.ifCond .ge 10), 90, 0, .null, []), (83, (.iload_n 3), 0, 0, .null, []), (84, (.ldc 209), 0, 0, .int (-2147483648), []), (86, .ior, 0, 0, .null, []), (87, (.goto 4), 91, 0, .null, [0, 1, 2, 3]), (90, (.iload_n 3), 0, 0, .null, []), (91, .ireturn, 0, 0, .null, [])]
-- 176: X5_longBitsOf (D)J
def cd_176 : List (Nat × hx_CE) := [(0, (.dload_n 0), 0, 0, .null, []), (1, (.dconst 0), 0, 0, .double FP.dconst0, []), (2, (.dcmp .l), 0, 0, .null, []), (3, (.ifCond .ne 5), 8, 0, .null, []), (6, (.lconst 0), 0, 0, .long 0, []), (7, .lreturn, 0, 0, .null, []), (8, (.dload_n 0), 0, 0, .null, []), (9, (.dstore_n 2), 0, 0, .null, [0, 1, 3, 4, 5]), (10, (.ldc2_w 210), 0, 0, .long (1023), []), (13, (.lstore 4), 0, 0, .null, [0, 1, 3, 5]), (15, (.dload_n 2), 0, 0, .null, []), (16, (.ldc2_w 212), 0, 0, .double (4611686018427387904), []), (19, (.dcmp .l), 0, 0, .null, []), (20, (.ifCond .lt 18), 38, 0, .null, []), (23, (.dload_n 2), 0, 0, .null, []), (24, (.ldc2_w 212), 0, 0, .double (4611686018427387904), []), (27, .ddiv, 0, 0, .null, []), (28, (.dstore_n 2), 0, 0, .null, [0, 1, 3, 5]), (29, (.lload 4), 0, 0, .null, []), (31, (.lconst 1), 0, 0, .long 1, []), (32, .ladd, 0, 0, .null, []), (33, (.lstore 4), 0, 0, .null, [0, 1, 3, 5]), (35, (.goto (-20)), 15, 0, .null, [0, 1, 3, 5]), (38, (.dload_n 2), 0, 0, .null, []), (39, (.dconst 1), 0, 0, .double FP.dconst1, []), (40, (.dcmp .g), 0, 0, .null, []), (41, (.ifCond .ge 18), 59, 0, .null, []), (44, (.dload_n 2), 0, 0, .null, []), (45, (.ldc2_w 212), 0, 0, .double (4611686018427387904), []), (48, .dmul, 0, 0, .null, []), (49, (.dstore_n 2), 0, 0, .null, [0, 1, 3, 5]), (50, (.lload 4), 0, 0, .null, []), (52, (.lconst 1), 0, 0, .long 1, []), (53, .lsub, 0, 0, .null, []), (54, (.lstore 4), 0, 0, .null, [0, 1, 3, 5]), (56, (.goto (-18)), 38, 0, .null, [0, 1, 3, 5]), (59, (.lload 4), 0, 0, .null, []), (61, (.ldc2_w 214), 0, 0, .long (4503599627370496), []), (64, .lmul, 0, 0, .null, []), (65, (.dload_n 2), 0, 0, .null, []), (66, (.dconst 1), 0, 0, .double FP.dconst1, []), (67, .dsub, 0, 0, .null, []), (68, (.ldc2_w 216), 0, 0, .double (4841369599423283200), []), (71, .dmul, 0, 0, .null, []), (72, .d2l, 0, 0, .null, []), (73, .ladd, 0, 0, .null, []), (74, .lreturn, 0, 0, .null, [])]
-- 177: X5_digestOne (J)V
def cd_177 : List (Nat × hx_CE) := [(0, (.aload_n 0), 0, 0, .null, []), (1, (.ldc2_w 218), 0, 0, .long (31), []), (4, (.aload_n 0), 0, 0, .null, []), (5, (.getfield 220), 5, 16, .null, []), (8, .lmul, 0, 0, .null, []), (9, (.lload_n 1), 0, 0, .null, []), (10, .ladd, 0, 0, .null, []), (11, (.putfield 220), 5, 16, .null, []), (14, .return_, 0, 0, .null, [])]
-- 178: X5_digestPieces ()V
def cd_178 : List (Nat × hx_CE) := [(0, (.iconst 0), 0, 0, .int (0), []), (1, (.istore_n 1), 0, 0, .null, [2]), (2, (.iload_n 1), 0, 0, .null, []), (3, (.aload_n 0), 0, 0, .null, []), (4, (.getfield 7), 5, 1, .null, []), (7, (.bipush 98), 0, 0, .int (98), []), (9, .iaload, 0, 0, .null, []), (10, (.if_icmp .ge 65), 75, 0, .null, []), (13, (.iconst 0), 0, 0, .int (0), []), (14, (.istore_n 2), 0, 0, .null, []), (15, (.iload_n 2), 0, 0, .null, []), (16, (.bipush 14), 0, 0, .int (14), []), (18, (.if_icmp .ge 20), 38, 0, .null, []), (21, (.aload_n 0), 0, 0, .null, []), (22, (.aload_n 0), 0, 0, .null, []), (23, (.iload_n 1), 0, 0, .null, []), (24, (.iload_n 2), 0, 0, .null, []), (25, (.invokevirtual 166), 152, 3, .null, [5]), (28, .i2l, 0, 0, .null, []), (29, (.invokevirtual 224), 177, 2, .null, [5]), (32, (.iinc 2 1), 0, 0, .null, []), (35, (.goto (-20)), 15, 0, .null, []), (38, (.aload_n 0), 0, 0, .null, []), (39, (.aload_n 0), 0, 0, .null, []), (40, (.iload_n 1), 0, 0, .null, []), (41, (.iconst (-1)), 0, 0, .int (-1), []), (42, (.invokevirtual 181), 163, 3, .null, [5]), (45, .i2l, 0, 0, .null, []), (46, (.invokevirtual 224), 177, 2, .null, [5]), (49, (.aload_n 0), 0, 0, .null, []), (50, (.aload_n 0), 0, 0, .null, []), (51, (.iload_n 1), 0, 0, .null, []), (52, (.invokevirtual 184), 165, 2, .null, [5]), (55, .i2l, 0, 0, .null, []), (56, (.invokevirtual 224), 177, 2, .null, [5]), (59, (.aload_n 0), 0, 0, .null, []), (60, (.aload_n 0), 0, 0, .null, []), (61, (.iload_n 1), 0, 0, .null, []), (62, (.invokevirtual 193), 167, 2, .null, [5]), (65, .i2l, 0, 0, .null, []), (66, (.invokevirtual 224), 177, 2, .null, [5]), (69, (.iinc 1 1), 0, 0, .null, [2]), (72, (.goto (-70)), 2, 0, .null, [2]), (75, (.iconst 0), 0, 0, .int (0), []), (76, (.istore_n 1), 0, 0, .null, [2]), (77, (.iload_n 1), 0, 0, .null, []), (78, (.aload_n 0), 0, 0, .null, []), (79, (.getfield 7), 5, 1, .null, []), (82, (.bipush 98), 0, 0, .int (98), []), (84, .iaload, 0, 0, .null, []), (85, (.if_icmp .ge 23), 108, 0, .null, []), (88, (.aload_n 0), 0, 0, .null, []), (89, (.aload_n 0), 0, 0, .null, []), (90, (.getfield 7), 5, 1, .null, []), (93, (.bipush 91), 0, 0, .int (91), []), (95, (.iload_n 1), 0, 0, .null, []), (96, .iadd, 0, 0, .null, []), (97, .iaload, 0, 0, .null, []), (98, .i2l, 0, 0, .null, []), (99, (.invokevirtual 224), 177, 2, .null, [5]), (102, (.iinc 1 1), 0, 0, .null, [2]), (105, (.goto (-28)), 77, 0, .null, [2]), (108, .return_, 0, 0, .null, [])]
-- 179: X5_digest ()J
def cd_179 : List (Nat × hx_CE) := [(0, (.aload_n 0), 0, 0, .null, []), (1, (.iconst 0), 0, 0, .int (0), []), (2, (.putfield 37), 5, 0, .null, []), (5, (.aload_n 0), 0, 0, .null, []), (6, (.ldc2_w 228), 0, 0, .long (3541), []), (9, (.putfield 220), 5, 16, .null, []), (12, (.iconst 0), 0, 0, .int (0), []), (13, (.istore_n 1), 0, 0, .null, [2]), (14, (.iload_n 1), 0, 0, .null, []), (15, (.bipush 10), 0, 0, .int (10), []), (17, (.if_icmp .ge 19), 36, 0, .null, []), (20, (.aload_n 0), 0, 0, .null, []), (21, (.aload_n 0), 0, 0, .null, []), (22, (.iload_n 1), 0, 0, .null, []), (23, (.invokevirtual 178), 160, 2, .null, [5]), (26, .i2l, 0, 0, .null, []), (27, (.invokevirtual 224), 177, 2, .null, [5]), (30, (.iinc 1 1), 0, 0, .null, [2]), (33, (.goto (-19)), 14, 0, .null, [2]), (36, (.aload_n 0), 0, 0, .null, []), (37, (.aload_n 0), 0, 0, .null, []), (38, (.getfield 7), 5, 1, .null, []), (41, (.bipush 100), 0, 0, .int (100), []), (43, .iaload, 0, 0, .null, []), (44, .i2l, 0, 0, .null, []), (45, (.invokevirtual 224), 177, 2, .null, [5]), (48, (.aload_n 0), 0, 0, .null, []), (49, (.aload_n 0), 0, 0, .null, []), (50, (.getfield 7), 5, 1, .null, []), (53, (.bipush 101), 0, 0, .int (101), []), (55, .iaload, 0, 0, .null, []), (56, .i2l, 0, 0, .null, []), (57, (.invokevirtual 224), 177, 2, .null, [5]), (60, (.aload_n 0), 0, 0, .null, []), (61, (.invokevirtual 230), 178, 1, .null, [5]), (64, (.aload_n 0), 0, 0, .null, []), (65, (.bipush 11), 0, 0, .int (11), []), (67, (.invokevirtual 172), 159, 2, .null, [5]), (70, (.istore_n 1), 0, 0, .null, [2]), (71, (.iconst 0), 0, 0, .int (0), []), (72, (.istore_n 2), 0, 0, .null, []), (73, (.iload_n 2), 0, 0, .null, []), (74, (.iconst 5), 0, 0, .int (5), []), (75, (.iload_n 1), 0, 0, .null, []), (76, .imul, 0, 0, .null, []), (77, (.if_icmp .ge 24), 101, 0, .null, []), (80, (.aload_n 0), 0, 0, .null, []), (81, (.aload_n 0), 0, 0, .null, []), (82, (.iload_n 2), 0, 0, .null, []), (83, (.iconst 5), 0, 0, .int (5), []), (84, .idiv, 0, 0, .null, []), (85, (.iload_n 2), 0, 0, .null, []), (86, (.iconst 5), 0, 0, .int (5), []), (87, .irem, 0, 0, .null, []), (88, (.invokevirtual 169), 157, 3, .null, [5]), (91, .i2l, 0, 0, .null, []), (92, (.invokevirtual 224), 177, 2, .null, [5]), (95, (.iinc 2 1), 0, 0, .null, []), (98, (.goto (-25)), 73, 0, .null, []), (101, (.aload_n 0), 0, 0, .null, []), (102, (.aload_n 0), 0, 0, .null, []), (103, (.invokevirtual 196), 169, 1, .null, [5]), (106, .i2l, 0, 0, .null, []), (107, (.invokevirtual 224), 177, 2, .null, [5]), (110, (.aload_n 0), 0, 0, .null, []), (111, (.aload_n 0), 0, 0, .null, []), (112, (.invokevirtual 199), 171, 1, .null, [5]), (115, (.invokestatic 233), 175, 1, .null, []), (118, .i2l, 0, 0, .null, []), (119, (.invokevirtual 224), 177, 2, .null, [5]), (122, (.aload_n 0), 0, 0, .null, []), (123, (.aload_n 0), 0, 0, .null, []), (124, (.invokevirtual 203), 173, 1, .null, [5]), (127, (.invokestatic 237), 176, 1, .null, []), (130, (.invokevirtual 224), 177, 2, .null, [5]), (133, (.aload_n 0), 0, 0, .null, []), (134, (.aload_n 0), 0, 0, .null, []), (135, (.getfield 160), 5, 6, .null, []), (138, (.iconst 1), 0, 0, .int (1), []), (139, .iand, 0, 0, .null, []), (140, .i2l, 0, 0, .null, []), (141, (.invokevirtual 224), 177, 2, .null, [5]), (144, (.aload_n 0), 0, 0, .null, []), (145, (.aload_n 0), 0, 0, .null, []), (146, (.getfield 160), 5, 6, .null, []), (149, (.iconst 1), 0, 0, .int (1), []), (150, .ishr, 0, 0, .null, []), (151, (.iconst 1), 0, 0, .int (1), []), (152, .iand, 0, 0, .null, []), (153, .i2l, 0, 0, .null, []), (154, (.invokevirtual 224), 177, 2, .null, [5]), (157, (.aload_n 0), 0, 0, .null, []), (158, (.aload_n 0), 0, 0, .null, []), (159, (.getfield 124), 5, 8, .null, []), (162, .i2l, 0, 0, .null, []), (163, (.invokevirtual 224), 177, 2, .null, [5]), (166, (.iconst 0), 0, 0, .int (0), []), (167, (.istore_n 2), 0, 0, .null, [1]), (168, (.iload_n 2), 0, 0, .null, []), (169, (.aload_n 0), 0, 0, .null, []), (170, (.getfield 124), 5, 8, .null, []), (173, (.if_icmp .ge 20), 193, 0, .null, []), (176, (.aload_n 0), 0, 0, .null, []), (177, (.aload_n 0), 0, 0, .null, []), (178, (.getfield 22), 5, 7, .null, []), (181, (.iload_n 2), 0, 0, .null, []), (182, .iaload, 0, 0, .null, []), (183, .i2l, 0, 0, .null, []), (184, (.invokevirtual 224), 177, 2, .null, [5]), (187, (.iinc 2 1), 0, 0, .null, [1]), (190, (.goto (-22)), 168, 0, .null, [1]), (193, (.aload_n 0), 0, 0, .null, []), (194, (.getfield 220), 5, 16, .null, []), (197, .lreturn, 0, 0, .null, [])]
-- 180: L_add (LScrollPieces;I[J)I
def cd_180 : List (Nat × hx_CE) := [(0, (.aload_n 2), 0, 0, .null, []), (1, (.iconst 0), 0, 0, .int (0), []), (2, (.aload_n 0), 0, 0, .null, []), (3, (.iload_n 1), 0, 0, .null, []), (4, (.invokevirtual 7), 51, 2, .null, [4]), (7, .i2l, 0, 0, .null, []), (8, .lastore, 0, 0, .null, []), (9, (.goto 9), 18, 0, .null, [0, 1, 2, 3]), (12, (.astore_n 3), 0, 0, .null, [0, 1, 2, 3]), (13, (.iconst 1), 0, 0, .int (1), []), (14, .ireturn, 0, 0, .null, []), (15, (.astore_n 3), 0, 0, .null, [0, 1, 2, 3]), (16, (.iconst 2), 0, 0, .int (2), []), (17, .ireturn, 0, 0, .null, []), (18, (.iconst 0), 0, 0, .int (0), []), (19, .ireturn, 0, 0, .null, [])]
-- 181: L_tear (LScrollPieces;IIII[J)I
def cd_181 : List (Nat × hx_CE) := [(0, (.aload 5), 0, 0, .null, []), (2, (.iconst 0), 0, 0, .int (0), []), (3, (.aload_n 0), 0, 0, .null, []), (4, (.iload_n 1), 0, 0, .null, []), (5, (.iload_n 2), 0, 0, .null, []), (6, (.iload_n 3), 0, 0, .null, []), (7, (.iload 4), 0, 0, .null, []), (9, (.invokevirtual 17), 52, 5, .null, [4]), (12, .i2l, 0, 0, .null, []), (13, .lastore, 0, 0, .null, []), (14, (.goto 11), 25, 0, .null, [0, 1, 2, 3, 4, 5, 6]), (17, (.astore 6), 0, 0, .null, [0, 1, 2, 3, 4, 5, 6]), (19, (.iconst 1), 0, 0, .int (1), []), (20, .ireturn, 0, 0, .null, []), (21, (.astore 6), 0, 0, .null, [0, 1, 2, 3, 4, 5, 6]), (23, (.iconst 2), 0, 0, .int (2), []), (24, .ireturn, 0, 0, .null, []), (25, (.iconst 0), 0, 0, .int (0), []), (26, .ireturn, 0, 0, .null, [])]
-- 182: L_fibre (LScrollPieces;III[J)I
def cd_182 : List (Nat × hx_CE) := [(0, (.aload 4), 0, 0, .null, []), (2, (.iconst 0), 0, 0, .int (0), []), (3, (.aload_n 0), 0, 0, .null, []), (4, (.iload_n 1), 0, 0, .null, []), (5, (.iload_n 2), 0, 0, .null, []), (6, (.iload_n 3), 0, 0, .null, []), (7, (.invokevirtual 23), 53, 4, .null, [4]), (10, .i2l, 0, 0, .null, []), (11, .lastore, 0, 0, .null, []), (12, (.goto 11), 23, 0, .null, [0, 1, 2, 3, 4, 5]), (15, (.astore 5), 0, 0, .null, [0, 1, 2, 3, 4, 5]), (17, (.iconst 1), 0, 0, .int (1), []), (18, .ireturn, 0, 0, .null, []), (19, (.astore 5), 0, 0, .null, [0, 1, 2, 3, 4, 5]), (21, (.iconst 2), 0, 0, .int (2), []), (22, .ireturn, 0, 0, .null, []), (23, (.iconst 0), 0, 0, .int (0), []), (24, .ireturn, 0, 0, .null, [])]
-- 183: L_hole (LScrollPieces;II[J)I
def cd_183 : List (Nat × hx_CE) := [(0, (.aload_n 3), 0, 0, .null, []), (1, (.iconst 0), 0, 0, .int (0), []), (2, (.aload_n 0), 0, 0, .null, []), (3, (.iload_n 1), 0, 0, .null, []), (4, (.iload_n 2), 0, 0, .null, []), (5, (.invokevirtual 27), 54, 3, .null, [4]), (8, .i2l, 0, 0, .null, []), (9, .lastore, 0, 0, .null, []), (10, (.goto 15), 25, 0, .null, [0, 1, 2, 3, 4]), (13, (.astore 4), 0, 0, .null, [0, 1, 2, 3, 4]), (15, (.iconst 1), 0, 0, .int (1), []), (16, .ireturn, 0, 0, .null, []), (17, (.astore 4), 0, 0, .null, [0, 1, 2, 3, 4]), (19, (.iconst 2), 0, 0, .int (2), []), (20, .ireturn, 0, 0, .null, []), (21, (.astore 4), 0, 0, .null, [0, 1, 2, 3, 4]), (23, (.iconst 3), 0, 0, .int (3), []), (24, .ireturn, 0, 0, .null, []), (25, (.iconst 0), 0, 0, .int (0), []), (26, .ireturn, 0, 0, .null, [])]
-- 184: L_remove (LScrollPieces;I[J)I
def cd_184 : List (Nat × hx_CE) := [(0, (.aload_n 2), 0, 0, .null, []), (1, (.iconst 0), 0, 0, .int (0), []), (2, (.aload_n 0), 0, 0, .null, []), (3, (.iload_n 1), 0, 0, .null, []), (4, (.invokevirtual 31), 55, 2, .null, [4]), (7, .i2l, 0, 0, .null, []), (8, .lastore, 0, 0, .null, []), (9, (.goto 6), 15, 0, .null, [0, 1, 2, 3]), (12, (.astore_n 3), 0, 0, .null, [0, 1, 2, 3]), (13, (.iconst 1), 0, 0, .int (1), []), (14, .ireturn, 0, 0, .null, []), (15, (.iconst 0), 0, 0, .int (0), []), (16, .ireturn, 0, 0, .null, [])]
-- 185: L_move (LScrollPieces;II[J)I
def cd_185 : List (Nat × hx_CE) := [(0, (.aload_n 3), 0, 0, .null, []), (1, (.iconst 0), 0, 0, .int (0), []), (2, (.aload_n 0), 0, 0, .null, []), (3, (.iload_n 1), 0, 0, .null, []), (4, (.iload_n 2), 0, 0, .null, []), (5, (.invokevirtual 34), 56, 3, .null, [4]), (8, .i2l, 0, 0, .null, []), (9, .lastore, 0, 0, .null, []), (10, (.goto 11), 21, 0, .null, [0, 1, 2, 3, 4]), (13, (.astore 4), 0, 0, .null, [0, 1, 2, 3, 4]), (15, (.iconst 1), 0, 0, .int (1), []), (16, .ireturn, 0, 0, .null, []), (17, (.astore 4), 0, 0, .null, [0, 1, 2, 3, 4]), (19, (.iconst 2), 0, 0, .int (2), []), (20, .ireturn, 0, 0, .null, []), (21, (.iconst 0), 0, 0, .int (0), []), (22, .ireturn, 0, 0, .null, [])]
-- 186: L_set (LScrollPieces;II[J)I
def cd_186 : List (Nat × hx_CE) := [(0, (.aload_n 3), 0, 0, .null, []), (1, (.iconst 0), 0, 0, .int (0), []), (2, (.aload_n 0), 0, 0, .null, []), (3, (.iload_n 1), 0, 0, .null, []), (4, (.iload_n 2), 0, 0, .null, []), (5, (.invokevirtual 37), 58, 3, .null, [4]), (8, .i2l, 0, 0, .null, []), (9, .lastore, 0, 0, .null, []), (10, (.goto 11), 21, 0, .null, [0, 1, 2, 3, 4]), (13, (.astore 4), 0, 0, .null, [0, 1, 2, 3, 4]), (15, (.iconst 1), 0, 0, .int (1), []), (16, .ireturn, 0, 0, .null, []), (17, (.astore 4), 0, 0, .null, [0, 1, 2, 3, 4]), (19, (.iconst 2), 0, 0, .int (2), []), (20, .ireturn, 0, 0, .null, []), (21, (.iconst 0), 0, 0, .int (0), []), (22, .ireturn, 0, 0, .null, [])]
-- 187: L_append (LScrollPieces;I[J)I
def cd_187 : List (Nat × hx_CE) := [(0, (.aload_n 2), 0, 0, .null, []), (1, (.iconst 0), 0, 0, .int (0), []), (2, (.aload_n 0), 0, 0, .null, []), (3, (.iload_n 1), 0, 0, .null, []), (4, (.invokevirtual 40), 59, 2, .null, [4]), (7, .i2l, 0, 0, .null, []), (8, .lastore, 0, 0, .null, []), (9, (.goto 9), 18, 0, .null, [0, 1, 2, 3]), (12, (.astore_n 3), 0, 0, .null, [0, 1, 2, 3]), (13, (.iconst 1), 0, 0, .int (1), []), (14, .ireturn, 0, 0, .null, []), (15, (.astore_n 3), 0, 0, .null, [0, 1, 2, 3]), (16, (.iconst 2), 0, 0, .int (2), []), (17, .ireturn, 0, 0, .null, []), (18, (.iconst 0), 0, 0, .int (0), []), (19, .ireturn, 0, 0, .null, [])]
-- 188: L_load (LScrollPieces;[J)I
def cd_188 : List (Nat × hx_CE) := [(0, (.aload_n 1), 0, 0, .null, []), (1, (.iconst 0), 0, 0, .int (0), []), (2, (.aload_n 0), 0, 0, .null, []), (3, (.invokevirtual 43), 62, 1, .null, [4]), (6, .i2l, 0, 0, .null, []), (7, .lastore, 0, 0, .null, []), (8, (.goto 9), 17, 0, .null, [0, 1, 2]), (11, (.astore_n 2), 0, 0, .null, [0, 1, 2]), (12, (.iconst 1), 0, 0, .int (1), []), (13, .ireturn, 0, 0, .null, []), (14, (.astore_n 2), 0, 0, .null, [0, 1, 2]), (15, (.iconst 2), 0, 0, .int (2), []), (16, .ireturn, 0, 0, .null, []), (17, (.iconst 0), 0, 0, .int (0), []), (18, .ireturn, 0, 0, .null, [])]
-- 189: L_keep (LScrollPieces;I[J)I
def cd_189 : List (Nat × hx_CE) := [(0, (.aload_n 2), 0, 0, .null, []), (1, (.iconst 0), 0, 0, .int (0), []), (2, (.aload_n 0), 0, 0, .null, []), (3, (.iload_n 1), 0, 0, .null, []), (4, (.invokevirtual 47), 63, 2, .null, [4]), (7, .i2l, 0, 0, .null, []), (8, .lastore, 0, 0, .null, []), (9, (.goto 6), 15, 0, .null, [0, 1, 2, 3]), (12, (.astore_n 3), 0, 0, .null, [0, 1, 2, 3]), (13, (.iconst 1), 0, 0, .int (1), []), (14, .ireturn, 0, 0, .null, []), (15, (.iconst 0), 0, 0, .int (0), []), (16, .ireturn, 0, 0, .null, [])]
-- 190: L_goBack (LScrollPieces;I[J)I
def cd_190 : List (Nat × hx_CE) := [(0, (.aload_n 2), 0, 0, .null, []), (1, (.iconst 0), 0, 0, .int (0), []), (2, (.aload_n 0), 0, 0, .null, []), (3, (.iload_n 1), 0, 0, .null, []), (4, (.invokevirtual 50), 64, 2, .null, [4]), (7, .i2l, 0, 0, .null, []), (8, .lastore, 0, 0, .null, []), (9, (.goto 9), 18, 0, .null, [0, 1, 2, 3]), (12, (.astore_n 3), 0, 0, .null, [0, 1, 2, 3]), (13, (.iconst 1), 0, 0, .int (1), []), (14, .ireturn, 0, 0, .null, []), (15, (.astore_n 3), 0, 0, .null, [0, 1, 2, 3]), (16, (.iconst 2), 0, 0, .int (2), []), (17, .ireturn, 0, 0, .null, []), (18, (.iconst 0), 0, 0, .int (0), []), (19, .ireturn, 0, 0, .null, [])]
-- 191: L_undo (LScrollPieces;[J)I
def cd_191 : List (Nat × hx_CE) := [(0, (.aload_n 1), 0, 0, .null, []), (1, (.iconst 0), 0, 0, .int (0), []), (2, (.aload_n 0), 0, 0, .null, []), (3, (.invokevirtual 53), 65, 1, .null, [4]), (6, .i2l, 0, 0, .null, []), (7, .lastore, 0, 0, .null, []), (8, (.goto 6), 14, 0, .null, [0, 1, 2]), (11, (.astore_n 2), 0, 0, .null, [0, 1, 2]), (12, (.iconst 1), 0, 0, .int (1), []), (13, .ireturn, 0, 0, .null, []), (14, (.iconst 0), 0, 0, .int (0), []), (15, .ireturn, 0, 0, .null, [])]
-- 192: L_pieceOf (LScrollPieces;II[J)I
def cd_192 : List (Nat × hx_CE) := [(0, (.aload_n 3), 0, 0, .null, []), (1, (.iconst 0), 0, 0, .int (0), []), (2, (.aload_n 0), 0, 0, .null, []), (3, (.iload_n 1), 0, 0, .null, []), (4, (.iload_n 2), 0, 0, .null, []), (5, (.invokevirtual 56), 66, 3, .null, [4]), (8, .i2l, 0, 0, .null, []), (9, .lastore, 0, 0, .null, []), (10, (.goto 11), 21, 0, .null, [0, 1, 2, 3, 4]), (13, (.astore 4), 0, 0, .null, [0, 1, 2, 3, 4]), (15, (.iconst 1), 0, 0, .int (1), []), (16, .ireturn, 0, 0, .null, []), (17, (.astore 4), 0, 0, .null, [0, 1, 2, 3, 4]), (19, (.iconst 2), 0, 0, .int (2), []), (20, .ireturn, 0, 0, .null, []), (21, (.iconst 0), 0, 0, .int (0), []), (22, .ireturn, 0, 0, .null, [])]
-- 193: L_isHole (LScrollPieces;II[J)I
def cd_193 : List (Nat × hx_CE) := [(0, (.aload_n 3), 0, 0, .null, []), (1, (.iconst 0), 0, 0, .int (0), []), (2, (.aload_n 0), 0, 0, .null, []), (3, (.iload_n 1), 0, 0, .null, []), (4, (.iload_n 2), 0, 0, .null, []), (5, (.invokevirtual 59), 67, 3, .null, [4]), (8, .i2l, 0, 0, .null, []), (9, .lastore, 0, 0, .null, []), (10, (.goto 11), 21, 0, .null, [0, 1, 2, 3, 4]), (13, (.astore 4), 0, 0, .null, [0, 1, 2, 3, 4]), (15, (.iconst 1), 0, 0, .int (1), []), (16, .ireturn, 0, 0, .null, []), (17, (.astore 4), 0, 0, .null, [0, 1, 2, 3, 4]), (19, (.iconst 2), 0, 0, .int (2), []), (20, .ireturn, 0, 0, .null, []), (21, (.iconst 0), 0, 0, .int (0), []), (22, .ireturn, 0, 0, .null, [])]
-- 194: L_at (LScrollPieces;I[J)I
def cd_194 : List (Nat × hx_CE) := [(0, (.aload_n 2), 0, 0, .null, []), (1, (.iconst 0), 0, 0, .int (0), []), (2, (.aload_n 0), 0, 0, .null, []), (3, (.iload_n 1), 0, 0, .null, []), (4, (.invokevirtual 62), 68, 2, .null, [4]), (7, .i2l, 0, 0, .null, []), (8, .lastore, 0, 0, .null, []), (9, (.goto 6), 15, 0, .null, [0, 1, 2, 3]), (12, (.astore_n 3), 0, 0, .null, [0, 1, 2, 3]), (13, (.iconst 1), 0, 0, .int (1), []), (14, .ireturn, 0, 0, .null, []), (15, (.iconst 0), 0, 0, .int (0), []), (16, .ireturn, 0, 0, .null, [])]
-- 195: L_cost (LScrollPieces;II[J)I
def cd_195 : List (Nat × hx_CE) := [(0, (.aload_n 3), 0, 0, .null, []), (1, (.iconst 0), 0, 0, .int (0), []), (2, (.aload_n 0), 0, 0, .null, []), (3, (.iload_n 1), 0, 0, .null, []), (4, (.iload_n 2), 0, 0, .null, []), (5, (.invokevirtual 65), 69, 3, .null, [4]), (8, .i2l, 0, 0, .null, []), (9, .lastore, 0, 0, .null, []), (10, (.goto 11), 21, 0, .null, [0, 1, 2, 3, 4]), (13, (.astore 4), 0, 0, .null, [0, 1, 2, 3, 4]), (15, (.iconst 1), 0, 0, .int (1), []), (16, .ireturn, 0, 0, .null, []), (17, (.astore 4), 0, 0, .null, [0, 1, 2, 3, 4]), (19, (.iconst 2), 0, 0, .int (2), []), (20, .ireturn, 0, 0, .null, []), (21, (.iconst 0), 0, 0, .int (0), []), (22, .ireturn, 0, 0, .null, [])]
-- 196: L_holeOf (LScrollPieces;II[J)I
def cd_196 : List (Nat × hx_CE) := [(0, (.aload_n 3), 0, 0, .null, []), (1, (.iconst 0), 0, 0, .int (0), []), (2, (.aload_n 0), 0, 0, .null, []), (3, (.iload_n 1), 0, 0, .null, []), (4, (.iload_n 2), 0, 0, .null, []), (5, (.invokevirtual 68), 70, 3, .null, [4]), (8, .i2l, 0, 0, .null, []), (9, .lastore, 0, 0, .null, []), (10, (.goto 7), 17, 0, .null, [0, 1, 2, 3, 4]), (13, (.astore 4), 0, 0, .null, [0, 1, 2, 3, 4]), (15, (.iconst 1), 0, 0, .int (1), []), (16, .ireturn, 0, 0, .null, []), (17, (.iconst 0), 0, 0, .int (0), []), (18, .ireturn, 0, 0, .null, [])]
-- 197: L_count (LScrollPieces;I[J)I
def cd_197 : List (Nat × hx_CE) := [(0, (.aload_n 2), 0, 0, .null, []), (1, (.iconst 0), 0, 0, .int (0), []), (2, (.aload_n 0), 0, 0, .null, []), (3, (.iload_n 1), 0, 0, .null, []), (4, (.invokevirtual 71), 71, 2, .null, [4]), (7, .i2l, 0, 0, .null, []), (8, .lastore, 0, 0, .null, []), (9, (.goto 6), 15, 0, .null, [0, 1, 2, 3]), (12, (.astore_n 3), 0, 0, .null, [0, 1, 2, 3]), (13, (.iconst 1), 0, 0, .int (1), []), (14, .ireturn, 0, 0, .null, []), (15, (.iconst 0), 0, 0, .int (0), []), (16, .ireturn, 0, 0, .null, [])]
-- 198: L_setting (LScrollPieces;I[J)I
def cd_198 : List (Nat × hx_CE) := [(0, (.aload_n 2), 0, 0, .null, []), (1, (.iconst 0), 0, 0, .int (0), []), (2, (.aload_n 0), 0, 0, .null, []), (3, (.iload_n 1), 0, 0, .null, []), (4, (.invokevirtual 74), 72, 2, .null, [4]), (7, .i2l, 0, 0, .null, []), (8, .lastore, 0, 0, .null, []), (9, (.goto 6), 15, 0, .null, [0, 1, 2, 3]), (12, (.astore_n 3), 0, 0, .null, [0, 1, 2, 3]), (13, (.iconst 1), 0, 0, .int (1), []), (14, .ireturn, 0, 0, .null, []), (15, (.iconst 0), 0, 0, .int (0), []), (16, .ireturn, 0, 0, .null, [])]
-- 199: L_bestBehind (LScrollPieces;I[J)I
def cd_199 : List (Nat × hx_CE) := [(0, (.aload_n 2), 0, 0, .null, []), (1, (.iconst 0), 0, 0, .int (0), []), (2, (.aload_n 0), 0, 0, .null, []), (3, (.iload_n 1), 0, 0, .null, []), (4, (.invokevirtual 77), 73, 2, .null, [4]), (7, .i2l, 0, 0, .null, []), (8, .lastore, 0, 0, .null, []), (9, (.goto 6), 15, 0, .null, [0, 1, 2, 3]), (12, (.astore_n 3), 0, 0, .null, [0, 1, 2, 3]), (13, (.iconst 1), 0, 0, .int (1), []), (14, .ireturn, 0, 0, .null, []), (15, (.iconst 0), 0, 0, .int (0), []), (16, .ireturn, 0, 0, .null, [])]
-- 200: L_sureness (LScrollPieces;I[J)I
def cd_200 : List (Nat × hx_CE) := [(0, (.aload_n 2), 0, 0, .null, []), (1, (.iconst 0), 0, 0, .int (0), []), (2, (.aload_n 0), 0, 0, .null, []), (3, (.iload_n 1), 0, 0, .null, []), (4, (.invokevirtual 80), 74, 2, .null, [4]), (7, .i2l, 0, 0, .null, []), (8, .lastore, 0, 0, .null, []), (9, (.goto 6), 15, 0, .null, [0, 1, 2, 3]), (12, (.astore_n 3), 0, 0, .null, [0, 1, 2, 3]), (13, (.iconst 1), 0, 0, .int (1), []), (14, .ireturn, 0, 0, .null, []), (15, (.iconst 0), 0, 0, .int (0), []), (16, .ireturn, 0, 0, .null, [])]
-- 201: L_bestPlace (LScrollPieces;I[J)I
def cd_201 : List (Nat × hx_CE) := [(0, (.aload_n 2), 0, 0, .null, []), (1, (.iconst 0), 0, 0, .int (0), []), (2, (.aload_n 0), 0, 0, .null, []), (3, (.iload_n 1), 0, 0, .null, []), (4, (.invokevirtual 83), 75, 2, .null, [4]), (7, .i2l, 0, 0, .null, []), (8, .lastore, 0, 0, .null, []), (9, (.goto 6), 15, 0, .null, [0, 1, 2, 3]), (12, (.astore_n 3), 0, 0, .null, [0, 1, 2, 3]), (13, (.iconst 1), 0, 0, .int (1), []), (14, .ireturn, 0, 0, .null, []), (15, (.iconst 0), 0, 0, .int (0), []), (16, .ireturn, 0, 0, .null, [])]
-- 202: L_law ([I)Z
def cd_202 : List (Nat × hx_CE) := [(0, (.new 8), 4, 0, .null, []), (3, .dup, 0, 0, .null, []), (4, (.invokespecial 86), 50, 1, .null, [4]), (7, (.astore_n 1), 0, 0, .null, [2, 3, 4, 5, 6, 7, 8]), (8, (.new 87), 5, 0, .null, []), (11, .dup, 0, 0, .null, []), (12, (.invokespecial 89), 100, 1, .null, [5]), (15, (.astore_n 2), 0, 0, .null, [3, 4, 5, 6, 7, 8]), (16, (.iconst 1), 0, 0, .int (1), []), (17, (.newarray .long), 0, 0, .null, []), (19, (.astore_n 3), 0, 0, .null, [4, 5, 6, 7, 8]), (20, (.iconst 0), 0, 0, .int (0), []), (21, (.istore 4), 0, 0, .null, [5, 6, 7, 8]), (23, (.iload 4), 0, 0, .null, []), (25, (.aload_n 0), 0, 0, .null, []), (26, .arraylength, 0, 0, .null, []), (27, (.iconst 5), 0, 0, .int (5), []), (28, .isub, 0, 0, .null, []), (29, (.if_icmp .gt 1647), 1676, 0, .null, []), (32, (.aload_n 0), 0, 0, .null, []), (33, (.iload 4), 0, 0, .null, []), (35, .iaload, 0, 0, .null, []), (36, (.bipush 31), 0, 0, .int (31), []), (38, .iand, 0, 0, .null, []), (39, (.tableswitch 1631 0 28 #[129, 185, 277, 357, 425, 481, 549, 562, 630, 686, 699, 712, 756, 812, 868, 912, 980, 1048, 1104, 1172, 1240, 1296, 1352, 1408, 1464, 1520, 1533, 1576, 1617]), 1670, 0, .retAddr 129, [168, 224, 316, 396, 464, 520, 588, 601, 669, 725, 738, 751, 795, 851, 907, 951, 1019, 1087, 1143, 1211, 1279, 1335, 1391, 1447, 1503, 1559, 1572, 1615, 1656]), (168, (.aload_n 1), 0, 0, .null, []), (169, (.aload_n 0), 0, 0, .null, []), (170, (.iload 4), 0, 0, .null, []), (172, (.iconst 1), 0, 0, .int (1), []), (173, .iadd, 0, 0, .null, []), (174, .iaload, 0, 0, .null, []), (175, (.aload_n 3), 0, 0, .null, []), (176, (.invokestatic 90), 180, 3, .null, []), (179, (.istore 5), 0, 0, .null, [6, 7, 8]), (181, (.aload_n 2), 0, 0, .null, []), (182, (.aload_n 0), 0, 0, .null, []), (183, (.iload 4), 0, 0, .null, []), (185, (.iconst 1), 0, 0, .int (1), []), (186, .iadd, 0, 0, .null, []), (187, .iaload, 0, 0, .null, []), (188, (.invokevirtual 95), 126, 2, .null, [5]), (191, (.istore 6), 0, 0, .null, [7, 8]), (193, (.aload_n 2), 0, 0, .null, []), (194, (.invokevirtual 96), 101, 1, .null, [5]), (197, (.iload 5), 0, 0, .null, []), (199, (.if_icmp .eq 5), 204, 0, .null, []), (202, (.iconst 0), 0, 0, .int (0), []), (203, .ireturn, 0, 0, .null, []), (204, (.iload 5), 0, 0, .null, []), (206, (.ifCond .ne 15), 221, 0, .null, []), (209, (.aload_n 3), 0, 0, .null, []), (210, (.iconst 0), 0, 0, .int (0), []), (211, .laload, 0, 0, .null, []), (212, (.iload 6), 0, 0, .null, []), (214, .i2l, 0, 0, .null, []), (215, .lcmp, 0, 0, .null, []), (216, (.ifCond .eq 5), 221, 0, .null, []), (219, (.iconst 0), 0, 0, .int (0), []), (220, .ireturn, 0, 0, .null, []), (221, (.goto 1449), 1670, 0, .null, [5, 6, 7, 8]), (224, (.aload_n 1), 0, 0, .null, []), (225, (.aload_n 0), 0, 0, .null, []), (226, (.iload 4), 0, 0, .null, []), (228, (.iconst 1), 0, 0, .int (1), []), (229, .iadd, 0, 0, .null, []), (230, .iaload, 0, 0, .null, []), (231, (.aload_n 0), 0, 0, .null, []), (232, (.iload 4), 0, 0, .null, []), (234, (.iconst 2), 0, 0, .int (2), []), (235, .iadd, 0, 0, .null, []), (236, .iaload, 0, 0, .null, []), (237, (.aload_n 0), 0, 0, .null, []), (238, (.iload 4), 0, 0, .null, []), (240, (.iconst 3), 0, 0, .int (3), []), (241, .iadd, 0, 0, .null, []), (242, .iaload, 0, 0, .null, []), (243, (.aload_n 0), 0, 0, .null, []), (244, (.iload 4), 0, 0, .null, []), (246, (.iconst 4), 0, 0, .int (4), []), (247, .iadd, 0, 0, .null, []), (248, .iaload, 0, 0, .null, []), (249, (.aload_n 3), 0, 0, .null, []), (250, (.invokestatic 99), 181, 6, .null, []), (253, (.istore 5), 0, 0, .null, [6, 7, 8]), (255, (.aload_n 2), 0, 0, .null, []), (256, (.aload_n 0), 0, 0, .null, []), (257, (.iload 4), 0, 0, .null, []), (259, (.iconst 1), 0, 0, .int (1), []), (260, .iadd, 0, 0, .null, []), (261, .iaload, 0, 0, .null, []), (262, (.aload_n 0), 0, 0, .null, []), (263, (.iload 4), 0, 0, .null, []), (265, (.iconst 2), 0, 0, .int (2), []), (266, .iadd, 0, 0, .null, []), (267, .iaload, 0, 0, .null, []), (268, (.aload_n 0), 0, 0, .null, []), (269, (.iload 4), 0, 0, .null, []), (271, (.iconst 3), 0, 0, .int (3), []), (272, .iadd, 0, 0, .null, []), (273, .iaload, 0, 0, .null, []), (274, (.aload_n 0), 0, 0, .null, []), (275, (.iload 4), 0, 0, .null, []), (277, (.iconst 4), 0, 0, .int (4), []), (278, .iadd, 0, 0, .null, []), (279, .iaload, 0, 0, .null, []), (280, (.invokevirtual 102), 128, 5, .null, [5]), (283, (.istore 6), 0, 0, .null, [7, 8]), (285, (.aload_n 2), 0, 0, .null, []), (286, (.invokevirtual 96), 101, 1, .null, [5]), (289, (.iload 5), 0, 0, .null, []), (291, (.if_icmp .eq 5), 296, 0, .null, []), (294, (.iconst 0), 0, 0, .int (0), []), (295, .ireturn, 0, 0, .null, []), (296, (.iload 5), 0, 0, .null, []), (298, (.ifCond .ne 15), 313, 0, .null, []), (301, (.aload_n 3), 0, 0, .null, []), (302, (.iconst 0), 0, 0, .int (0), []), (303, .laload, 0, 0, .null, []), (304, (.iload 6), 0, 0, .null, []), (306, .i2l, 0, 0, .null, []), (307, .lcmp, 0, 0, .null, []), (308, (.ifCond .eq 5), 313, 0, .null, []), (311, (.iconst 0), 0, 0, .int (0), []), (312, .ireturn, 0, 0, .null, []), (313, (.goto 1357), 1670, 0, .null, [5, 6, 7, 8]), (316, (.aload_n 1), 0, 0, .null, []), (317, (.aload_n 0), 0, 0, .null, []), (318, (.iload 4), 0, 0, .null, []), (320, (.iconst 1), 0, 0, .int (1), []), (321, .iadd, 0, 0, .null, []), (322, .iaload, 0, 0, .null, []), (323, (.aload_n 0), 0, 0, .null, []), (324, (.iload 4), 0, 0, .null, []), (326, (.iconst 2), 0, 0, .int (2), []), (327, .iadd, 0, 0, .null, []), (328, .iaload, 0, 0, .null, []), (329, (.aload_n 0), 0, 0, .null, []), (330, (.iload 4), 0, 0, .null, []), (332, (.iconst 3), 0, 0, .int (3), []), (333, .iadd, 0, 0, .null, []), (334, .iaload, 0, 0, .null, []), (335, (.aload_n 3), 0, 0, .null, []), (336, (.invokestatic 103), 182, 5, .null, []), (339, (.istore 5), 0, 0, .null, [6, 7, 8]), (341, (.aload_n 2), 0, 0, .null, []), (342, (.aload_n 0), 0, 0, .null, []), (343, (.iload 4), 0, 0, .null, []), (345, (.iconst 1), 0, 0, .int (1), []), (346, .iadd, 0, 0, .null, []), (347, .iaload, 0, 0, .null, []), (348, (.aload_n 0), 0, 0, .null, []), (349, (.iload 4), 0, 0, .null, []), (351, (.iconst 2), 0, 0, .int (2), []), (352, .iadd, 0, 0, .null, []), (353, .iaload, 0, 0, .null, []), (354, (.aload_n 0), 0, 0, .null, []), (355, (.iload 4), 0, 0, .null, []), (357, (.iconst 3), 0, 0, .int (3), []), (358, .iadd, 0, 0, .null, []), (359, .iaload, 0, 0, .null, []), (360, (.invokevirtual 106), 129, 4, .null, [5]), (363, (.istore 6), 0, 0, .null, [7, 8]), (365, (.aload_n 2), 0, 0, .null, []), (366, (.invokevirtual 96), 101, 1, .null, [5]), (369, (.iload 5), 0, 0, .null, []), (371, (.if_icmp .eq 5), 376, 0, .null, []), (374, (.iconst 0), 0, 0, .int (0), []), (375, .ireturn, 0, 0, .null, []), (376, (.iload 5), 0, 0, .null, []), (378, (.ifCond .ne 15), 393, 0, .null, []), (381, (.aload_n 3), 0, 0, .null, []), (382, (.iconst 0), 0, 0, .int (0), []), (383, .laload, 0, 0, .null, []), (384, (.iload 6), 0, 0, .null, []), (386, .i2l, 0, 0, .null, []), (387, .lcmp, 0, 0, .null, []), (388, (.ifCond .eq 5), 393, 0, .null, []), (391, (.iconst 0), 0, 0, .int (0), []), (392, .ireturn, 0, 0, .null, []), (393, (.goto 1277), 1670, 0, .null, [5, 6, 7, 8]), (396, (.aload_n 1), 0, 0, .null, []), (397, (.aload_n 0), 0, 0, .null, []), (398, (.iload 4), 0, 0, .null, []), (400, (.iconst 1), 0, 0, .int (1), []), (401, .iadd, 0, 0, .null, []), (402, .iaload, 0, 0, .null, []), (403, (.aload_n 0), 0, 0, .null, []), (404, (.iload 4), 0, 0, .null, []), (406, (.iconst 2), 0, 0, .int (2), []), (407, .iadd, 0, 0, .null, []), (408, .iaload, 0, 0, .null, []), (409, (.aload_n 3), 0, 0, .null, []), (410, (.invokestatic 107), 183, 4, .null, []), (413, (.istore 5), 0, 0, .null, [6, 7, 8]), (415, (.aload_n 2), 0, 0, .null, []), (416, (.aload_n 0), 0, 0, .null, []), (417, (.iload 4), 0, 0, .null, []), (419, (.iconst 1), 0, 0, .int (1), []), (420, .iadd, 0, 0, .null, []), (421, .iaload, 0, 0, .null, []), (422, (.aload_n 0), 0, 0, .null, []), (423, (.iload 4), 0, 0, .null, []), (425, (.iconst 2), 0, 0, .int (2), []), (426, .iadd, 0, 0, .null, []), (427, .iaload, 0, 0, .null, []), (428, (.invokevirtual 110), 132, 3, .null, [5]), (431, (.istore 6), 0, 0, .null, [7, 8]), (433, (.aload_n 2), 0, 0, .null, []), (434, (.invokevirtual 96), 101, 1, .null, [5]), (437, (.iload 5), 0, 0, .null, []), (439, (.if_icmp .eq 5), 444, 0, .null, []), (442, (.iconst 0), 0, 0, .int (0), []), (443, .ireturn, 0, 0, .null, []), (444, (.iload 5), 0, 0, .null, []), (446, (.ifCond .ne 15), 461, 0, .null, []), (449, (.aload_n 3), 0, 0, .null, []), (450, (.iconst 0), 0, 0, .int (0), []), (451, .laload, 0, 0, .null, []), (452, (.iload 6), 0, 0, .null, []), (454, .i2l, 0, 0, .null, []), (455, .lcmp, 0, 0, .null, []), (456, (.ifCond .eq 5), 461, 0, .null, []), (459, (.iconst 0), 0, 0, .int (0), []), (460, .ireturn, 0, 0, .null, []), (461, (.goto 1209), 1670, 0, .null, [5, 6, 7, 8]), (464, (.aload_n 1), 0, 0, .null, []), (465, (.aload_n 0), 0, 0, .null, []), (466, (.iload 4), 0, 0, .null, []), (468, (.iconst 1), 0, 0, .int (1), []), (469, .iadd, 0, 0, .null, []), (470, .iaload, 0, 0, .null, []), (471, (.aload_n 3), 0, 0, .null, []), (472, (.invokestatic 111), 184, 3, .null, []), (475, (.istore 5), 0, 0, .null, [6, 7, 8]), (477, (.aload_n 2), 0, 0, .null, []), (478, (.aload_n 0), 0, 0, .null, []), (479, (.iload 4), 0, 0, .null, []), (481, (.iconst 1), 0, 0, .int (1), []), (482, .iadd, 0, 0, .null, []), (483, .iaload, 0, 0, .null, []), (484, (.invokevirtual 113), 133, 2, .null, [5]), (487, (.istore 6), 0, 0, .null, [7, 8]), (489, (.aload_n 2), 0, 0, .null, []), (490, (.invokevirtual 96), 101, 1, .null, [5]), (493, (.iload 5), 0, 0, .null, []), (495, (.if_icmp .eq 5), 500, 0, .null, []), (498, (.iconst 0), 0, 0, .int (0), []), (499, .ireturn, 0, 0, .null, []), (500, (.iload 5), 0, 0, .null, []), (502, (.ifCond .ne 15), 517, 0, .null, []), (505, (.aload_n 3), 0, 0, .null, []), (506, (.iconst 0), 0, 0, .int (0), []), (507, .laload, 0, 0, .null, []), (508, (.iload 6), 0, 0, .null, []), (510, .i2l, 0, 0, .null, []), (511, .lcmp, 0, 0, .null, []), (512, (.ifCond .eq 5), 517, 0, .null, []), (515, (.iconst 0), 0, 0, .int (0), []), (516, .ireturn, 0, 0, .null, []), (517, (.goto 1153), 1670, 0, .null, [5, 6, 7, 8]), (520, (.aload_n 1), 0, 0, .null, []), (521, (.aload_n 0), 0, 0, .null, []), (522, (.iload 4), 0, 0, .null, []), (524, (.iconst 1), 0, 0, .int (1), []), (525, .iadd, 0, 0, .null, []), (526, .iaload, 0, 0, .null, []), (527, (.aload_n 0), 0, 0, .null, []), (528, (.iload 4), 0, 0, .null, []), (530, (.iconst 2), 0, 0, .int (2), []), (531, .iadd, 0, 0, .null, []), (532, .iaload, 0, 0, .null, []), (533, (.aload_n 3), 0, 0, .null, []), (534, (.invokestatic 114), 185, 4, .null, []), (537, (.istore 5), 0, 0, .null, [6, 7, 8]), (539, (.aload_n 2), 0, 0, .null, []), (540, (.aload_n 0), 0, 0, .null, []), (541, (.iload 4), 0, 0, .null, []), (543, (.iconst 1), 0, 0, .int (1), []), (544, .iadd, 0, 0, .null, []), (545, .iaload, 0, 0, .null, []), (546, (.aload_n 0), 0, 0, .null, []), (547, (.iload 4), 0, 0, .null, []), (549, (.iconst 2), 0, 0, .int (2), []), (550, .iadd, 0, 0, .null, []), (551, .iaload, 0, 0, .null, []), (552, (.invokevirtual 116), 134, 3, .null, [5]), (555, (.istore 6), 0, 0, .null, [7, 8]), (557, (.aload_n 2), 0, 0, .null, []), (558, (.invokevirtual 96), 101, 1, .null, [5]), (561, (.iload 5), 0, 0, .null, []), (563, (.if_icmp .eq 5), 568, 0, .null, []), (566, (.iconst 0), 0, 0, .int (0), []), (567, .ireturn, 0, 0, .null, []), (568, (.iload 5), 0, 0, .null, []), (570, (.ifCond .ne 15), 585, 0, .null, []), (573, (.aload_n 3), 0, 0, .null, []), (574, (.iconst 0), 0, 0, .int (0), []), (575, .laload, 0, 0, .null, []), (576, (.iload 6), 0, 0, .null, []), (578, .i2l, 0, 0, .null, []), (579, .lcmp, 0, 0, .null, []), (580, (.ifCond .eq 5), 585, 0, .null, []), (583, (.iconst 0), 0, 0, .int (0), []), (584, .ireturn, 0, 0, .null, []), (585, (.goto 1085), 1670, 0, .null, [5, 6, 7, 8]), (588, (.aload_n 1), 0, 0, .null, []), (589, (.invokevirtual 117), 57, 1, .null, [4]), (592, (.aload_n 2), 0, 0, .null, []), (593, (.invokevirtual 120), 135, 1, .null, [5]), (596, (.if_icmp .eq 1074), 1670, 0, .null, []), (599, (.iconst 0), 0, 0, .int (0), []), (600, .ireturn, 0, 0, .null, []), (601, (.aload_n 1), 0, 0, .null, []), (602, (.aload_n 0), 0, 0, .null, []), (603, (.iload 4), 0, 0, .null, []), (605, (.iconst 1), 0, 0, .int (1), []), (606, .iadd, 0, 0, .null, []), (607, .iaload, 0, 0, .null, []), (608, (.aload_n 0), 0, 0, .null, []), (609, (.iload 4), 0, 0, .null, []), (611, (.iconst 2), 0, 0, .int (2), []), (612, .iadd, 0, 0, .null, []), (613, .iaload, 0, 0, .null, []), (614, (.aload_n 3), 0, 0, .null, []), (615, (.invokestatic 121), 186, 4, .null, []), (618, (.istore 5), 0, 0, .null, [6, 7, 8]), (620, (.aload_n 2), 0, 0, .null, []), (621, (.aload_n 0), 0, 0, .null, []), (622, (.iload 4), 0, 0, .null, []), (624, (.iconst 1), 0, 0, .int (1), []), (625, .iadd, 0, 0, .null, []), (626, .iaload, 0, 0, .null, []), (627, (.aload_n 0), 0, 0, .null, []), (628, (.iload 4), 0, 0, .null, []), (630, (.iconst 2), 0, 0, .int (2), []), (631, .iadd, 0, 0, .null, []), (632, .iaload, 0, 0, .null, []), (633, (.invokevirtual 123), 136, 3, .null, [5]), (636, (.istore 6), 0, 0, .null, [7, 8]), (638, (.aload_n 2), 0, 0, .null, []), (639, (.invokevirtual 96), 101, 1, .null, [5]), (642, (.iload 5), 0, 0, .null, []), (644, (.if_icmp .eq 5), 649, 0, .null, []), (647, (.iconst 0), 0, 0, .int (0), []), (648, .ireturn, 0, 0, .null, []), (649, (.iload 5), 0, 0, .null, []), (651, (.ifCond .ne 15), 666, 0, .null, []), (654, (.aload_n 3), 0, 0, .null, []), (655, (.iconst 0), 0, 0, .int (0), []), (656, .laload, 0, 0, .null, []), (657, (.iload 6), 0, 0, .null, []), (659, .i2l, 0, 0, .null, []), (660, .lcmp, 0, 0, .null, []), (661, (.ifCond .eq 5), 666, 0, .null, []), (664, (.iconst 0), 0, 0, .int (0), []), (665, .ireturn, 0, 0, .null, []), (666, (.goto 1004), 1670, 0, .null, [5, 6, 7, 8]), (669, (.aload_n 1), 0, 0, .null, []), (670, (.aload_n 0), 0, 0, .null, []), (671, (.iload 4), 0, 0, .null, []), (673, (.iconst 1), 0, 0, .int (1), []), (674, .iadd, 0, 0, .null, []), (675, .iaload, 0, 0, .null, []), (676, (.aload_n 3), 0, 0, .null, []), (677, (.invokestatic 124), 187, 3, .null, []), (680, (.istore 5), 0, 0, .null, [6, 7, 8]), (682, (.aload_n 2), 0, 0, .null, []), (683, (.aload_n 0), 0, 0, .null, []), (684, (.iload 4), 0, 0, .null, []), (686, (.iconst 1), 0, 0, .int (1), []), (687, .iadd, 0, 0, .null, []), (688, .iaload, 0, 0, .null, []), (689, (.invokevirtual 126), 137, 2, .null, [5]), (692, (.istore 6), 0, 0, .null, [7, 8]), (694, (.aload_n 2), 0, 0, .null, []), (695, (.invokevirtual 96), 101, 1, .null, [5]), (698, (.iload 5), 0, 0, .null, []), (700, (.if_icmp .eq 5), 705, 0, .null, []), (703, (.iconst 0), 0, 0, .int (0), []), (704, .ireturn, 0, 0, .null, []), (705, (.iload 5), 0, 0, .null, []), (707, (.ifCond .ne 15), 722, 0, .null, []), (710, (.aload_n 3), 0, 0, .null, []), (711, (.iconst 0), 0, 0, .int (0), []), (712, .laload, 0, 0, .null, []), (713, (.iload 6), 0, 0, .null, []), (715, .i2l, 0, 0, .null, []), (716, .lcmp, 0, 0, .null, []), (717, (.ifCond .eq 5), 722, 0, .null, []), (720, (.iconst 0), 0, 0, .int (0), []), (721, .ireturn, 0, 0, .null, []), (722, (.goto 948), 1670, 0, .null, [5, 6, 7, 8]), (725, (.aload_n 1), 0, 0, .null, []), (726, (.invokevirtual 127), 60, 1, .null, [4]), (729, (.aload_n 2), 0, 0, .null, []), (730, (.invokevirtual 130), 138, 1, .null, [5]), (733, (.if_icmp .eq 937), 1670, 0, .null, []), (736, (.iconst 0), 0, 0, .int (0), []), (737, .ireturn, 0, 0, .null, []), (738, (.aload_n 1), 0, 0, .null, []), (739, (.invokevirtual 131), 61, 1, .null, [4]), (742, (.aload_n 2), 0, 0, .null, []), (743, (.invokevirtual 134), 147, 1, .null, [5]), (746, (.if_icmp .eq 924), 1670, 0, .null, []), (749, (.iconst 0), 0, 0, .int (0), []), (750, .ireturn, 0, 0, .null, []), (751, (.aload_n 1), 0, 0, .null, []), (752, (.aload_n 3), 0, 0, .null, []), (753, (.invokestatic 135), 188, 2, .null, []), (756, (.istore 5), 0, 0, .null, [6, 7, 8]), (758, (.aload_n 2), 0, 0, .null, []), (759, (.invokevirtual 138), 148, 1, .null, [5]), (762, (.istore 6), 0, 0, .null, [7, 8]), (764, (.aload_n 2), 0, 0, .null, []), (765, (.invokevirtual 96), 101, 1, .null, [5]), (768, (.iload 5), 0, 0, .null, []), (770, (.if_icmp .eq 5), 775, 0, .null, []), (773, (.iconst 0), 0, 0, .int (0), []), (774, .ireturn, 0, 0, .null, []), (775, (.iload 5), 0, 0, .null, []), (777, (.ifCond .ne 15), 792, 0, .null, []), (780, (.aload_n 3), 0, 0, .null, []), (781, (.iconst 0), 0, 0, .int (0), []), (782, .laload, 0, 0, .null, []), (783, (.iload 6), 0, 0, .null, []), (785, .i2l, 0, 0, .null, []), (786, .lcmp, 0, 0, .null, []), (787, (.ifCond .eq 5), 792, 0, .null, []), (790, (.iconst 0), 0, 0, .int (0), []), (791, .ireturn, 0, 0, .null, []), (792, (.goto 878), 1670, 0, .null, [5, 6, 7, 8]), (795, (.aload_n 1), 0, 0, .null, []), (796, (.aload_n 0), 0, 0, .null, []), (797, (.iload 4), 0, 0, .null, []), (799, (.iconst 1), 0, 0, .int (1), []), (800, .iadd, 0, 0, .null, []), (801, .iaload, 0, 0, .null, []), (802, (.aload_n 3), 0, 0, .null, []), (803, (.invokestatic 139), 189, 3, .null, []), (806, (.istore 5), 0, 0, .null, [6, 7, 8]), (808, (.aload_n 2), 0, 0, .null, []), (809, (.aload_n 0), 0, 0, .null, []), (810, (.iload 4), 0, 0, .null, []), (812, (.iconst 1), 0, 0, .int (1), []), (813, .iadd, 0, 0, .null, []), (814, .iaload, 0, 0, .null, []), (815, (.invokevirtual 141), 149, 2, .null, [5]), (818, (.istore 6), 0, 0, .null, [7, 8]), (820, (.aload_n 2), 0, 0, .null, []), (821, (.invokevirtual 96), 101, 1, .null, [5]), (824, (.iload 5), 0, 0, .null, []), (826, (.if_icmp .eq 5), 831, 0, .null, []), (829, (.iconst 0), 0, 0, .int (0), []), (830, .ireturn, 0, 0, .null, []), (831, (.iload 5), 0, 0, .null, []), (833, (.ifCond .ne 15), 848, 0, .null, []), (836, (.aload_n 3), 0, 0, .null, []), (837, (.iconst 0), 0, 0, .int (0), []), (838, .laload, 0, 0, .null, []), (839, (.iload 6), 0, 0, .null, []), (841, .i2l, 0, 0, .null, []), (842, .lcmp, 0, 0, .null, []), (843, (.ifCond .eq 5), 848, 0, .null, []), (846, (.iconst 0), 0, 0, .int (0), []), (847, .ireturn, 0, 0, .null, []), (848, (.goto 822), 1670, 0, .null, [5, 6, 7, 8]), (851, (.aload_n 1), 0, 0, .null, []), (852, (.aload_n 0), 0, 0, .null, []), (853, (.iload 4), 0, 0, .null, []), (855, (.iconst 1), 0, 0, .int (1), []), (856, .iadd, 0, 0, .null, []), (857, .iaload, 0, 0, .null, []), (858, (.aload_n 3), 0, 0, .null, []), (859, (.invokestatic 142), 190, 3, .null, []), (862, (.istore 5), 0, 0, .null, [6, 7, 8]), (864, (.aload_n 2), 0, 0, .null, []), (865, (.aload_n 0), 0, 0, .null, []), (866, (.iload 4), 0, 0, .null, []), (868, (.iconst 1), 0, 0, .int (1), []), (869, .iadd, 0, 0, .null, []), (870, .iaload, 0, 0, .null, []), (871, (.invokevirtual 144), 150, 2, .null, [5]), (874, (.istore 6), 0, 0, .null, [7, 8]), (876, (.aload_n 2), 0, 0, .null, []), (877, (.invokevirtual 96), 101, 1, .null, [5]), (880, (.iload 5), 0, 0, .null, []), (882, (.if_icmp .eq 5), 887, 0, .null, []), (885, (.iconst 0), 0, 0, .int (0), []), (886, .ireturn, 0, 0, .null, []), (887, (.iload 5), 0, 0, .null, []), (889, (.ifCond .ne 15), 904, 0, .null, []), (892, (.aload_n 3), 0, 0, .null, []), (893, (.iconst 0), 0, 0, .int (0), []), (894, .laload, 0, 0, .null, []), (895, (.iload 6), 0, 0, .null, []), (897, .i2l, 0, 0, .null, []), (898, .lcmp, 0, 0, .null, []), (899, (.ifCond .eq 5), 904, 0, .null, []), (902, (.iconst 0), 0, 0, .int (0), []), (903, .ireturn, 0, 0, .null, []), (904, (.goto 766), 1670, 0, .null, [5, 6, 7, 8]), (907, (.aload_n 1), 0, 0, .null, []), (908, (.aload_n 3), 0, 0, .null, []), (909, (.invokestatic 145), 191, 2, .null, []), (912, (.istore 5), 0, 0, .null, [6, 7, 8]), (914, (.aload_n 2), 0, 0, .null, []), (915, (.invokevirtual 147), 151, 1, .null, [5]), (918, (.istore 6), 0, 0, .null, [7, 8]), (920, (.aload_n 2), 0, 0, .null, []), (921, (.invokevirtual 96), 101, 1, .null, [5]), (924, (.iload 5), 0, 0, .null, []), (926, (.if_icmp .eq 5), 931, 0, .null, []), (929, (.iconst 0), 0, 0, .int (0), []), (930, .ireturn, 0, 0, .null, []), (931, (.iload 5), 0, 0, .null, []), (933, (.ifCond .ne 15), 948, 0, .null, []), (936, (.aload_n 3), 0, 0, .null, []), (937, (.iconst 0), 0, 0, .int (0), []), (938, .laload, 0, 0, .null, []), (939, (.iload 6), 0, 0, .null, []), (941, .i2l, 0, 0, .null, []), (942, .lcmp, 0, 0, .null, []), (943, (.ifCond .eq 5), 948, 0, .null, []), (946, (.iconst 0), 0, 0, .int (0), []), (947, .ireturn, 0, 0, .null, []), (948, (.goto 722), 1670, 0, .null, [5, 6, 7, 8]), (951, (.aload_n 1), 0, 0, .null, []), (952, (.aload_n 0), 0, 0, .null, []), (953, (.iload 4), 0, 0, .null, []), (955, (.iconst 1), 0, 0, .int (1), []), (956, .iadd, 0, 0, .null, []), (957, .iaload, 0, 0, .null, []), (958, (.aload_n 0), 0, 0, .null, []), (959, (.iload 4), 0, 0, .null, []), (961, (.iconst 2), 0, 0, .int (2), []), (962, .iadd, 0, 0, .null, []), (963, .iaload, 0, 0, .null, []), (964, (.aload_n 3), 0, 0, .null, []), (965, (.invokestatic 148), 192, 4, .null, []), (968, (.istore 5), 0, 0, .null, [6, 7, 8]), (970, (.aload_n 2), 0, 0, .null, []), (971, (.aload_n 0), 0, 0, .null, []), (972, (.iload 4), 0, 0, .null, []), (974, (.iconst 1), 0, 0, .int (1), []), (975, .iadd, 0, 0, .null, []), (976, .iaload, 0, 0, .null, []), (977, (.aload_n 0), 0, 0, .null, []), (978, (.iload 4), 0, 0, .null, []), (980, (.iconst 2), 0, 0, .int (2), []), (981, .iadd, 0, 0, .null, []), (982, .iaload, 0, 0, .null, []), (983, (.invokevirtual 150), 153, 3, .null, [5]), (986, (.istore 6), 0, 0, .null, [7, 8]), (988, (.aload_n 2), 0, 0, .null, []), (989, (.invokevirtual 96), 101, 1, .null, [5]), (992, (.iload 5), 0, 0, .null, []), (994, (.if_icmp .eq 5), 999, 0, .null, []), (997, (.iconst 0), 0, 0, .int (0), []), (998, .ireturn, 0, 0, .null, []), (999, (.iload 5), 0, 0, .null, []), (1001, (.ifCond .ne 15), 1016, 0, .null, []), (1004, (.aload_n 3), 0, 0, .null, []), (1005, (.iconst 0), 0, 0, .int (0), []), (1006, .laload, 0, 0, .null, []), (1007, (.iload 6), 0, 0, .null, []), (1009, .i2l, 0, 0, .null, []), (1010, .lcmp, 0, 0, .null, []), (1011, (.ifCond .eq 5), 1016, 0, .null, []), (1014, (.iconst 0), 0, 0, .int (0), []), (1015, .ireturn, 0, 0, .null, []), (1016, (.goto 654), 1670, 0, .null, [5, 6, 7, 8]), (1019, (.aload_n 1), 0, 0, .null, []), (1020, (.aload_n 0), 0, 0, .null, []), (1021, (.iload 4), 0, 0, .null, []), (1023, (.iconst 1), 0, 0, .int (1), []), (1024, .iadd, 0, 0, .null, []), (1025, .iaload, 0, 0, .null, []), (1026, (.aload_n 0), 0, 0, .null, []), (1027, (.iload 4), 0, 0, .null, []), (1029, (.iconst 2), 0, 0, .int (2), []), (1030, .iadd, 0, 0, .null, []), (1031, .iaload, 0, 0, .null, []), (1032, (.aload_n 3), 0, 0, .null, []), (1033, (.invokestatic 151), 193, 4, .null, []), (1036, (.istore 5), 0, 0, .null, [6, 7, 8]), (1038, (.aload_n 2), 0, 0, .null, []), (1039, (.aload_n 0), 0, 0, .null, []), (1040, (.iload 4), 0, 0, .null, []), (1042, (.iconst 1), 0, 0, .int (1), []), (1043, .iadd, 0, 0, .null, []), (1044, .iaload, 0, 0, .null, []), (1045, (.aload_n 0), 0, 0, .null, []), (1046, (.iload 4), 0, 0, .null, []), (1048, (.iconst 2), 0, 0, .int (2), []), (1049, .iadd, 0, 0, .null, []), (1050, .iaload, 0, 0, .null, []), (1051, (.invokevirtual 153), 154, 3, .null, [5]), (1054, (.istore 6), 0, 0, .null, [7, 8]), (1056, (.aload_n 2), 0, 0, .null, []), (1057, (.invokevirtual 96), 101, 1, .null, [5]), (1060, (.iload 5), 0, 0, .null, []), (1062, (.if_icmp .eq 5), 1067, 0, .null, []), (1065, (.iconst 0), 0, 0, .int (0), []), (1066, .ireturn, 0, 0, .null, []), (1067, (.iload 5), 0, 0, .null, []), (1069, (.ifCond .ne 15), 1084, 0, .null, []), (1072, (.aload_n 3), 0, 0, .null, []), (1073, (.iconst 0), 0, 0, .int (0), []), (1074, .laload, 0, 0, .null, []), (1075, (.iload 6), 0, 0, .null, []), (1077, .i2l, 0, 0, .null, []), (1078, .lcmp, 0, 0, .null, []), (1079, (.ifCond .eq 5), 1084, 0, .null, []), (1082, (.iconst 0), 0, 0, .int (0), []), (1083, .ireturn, 0, 0, .null, []), (1084, (.goto 586), 1670, 0, .null, [5, 6, 7, 8]), (1087, (.aload_n 1), 0, 0, .null, []), (1088, (.aload_n 0), 0, 0, .null, []), (1089, (.iload 4), 0, 0, .null, []), (1091, (.iconst 1), 0, 0, .int (1), []), (1092, .iadd, 0, 0, .null, []), (1093, .iaload, 0, 0, .null, []), (1094, (.aload_n 3), 0, 0, .null, []), (1095, (.invokestatic 154), 194, 3, .null, []), (1098, (.istore 5), 0, 0, .null, [6, 7, 8]), (1100, (.aload_n 2), 0, 0, .null, []), (1101, (.aload_n 0), 0, 0, .null, []), (1102, (.iload 4), 0, 0, .null, []), (1104, (.iconst 1), 0, 0, .int (1), []), (1105, .iadd, 0, 0, .null, []), (1106, .iaload, 0, 0, .null, []), (1107, (.invokevirtual 156), 155, 2, .null, [5]), (1110, (.istore 6), 0, 0, .null, [7, 8]), (1112, (.aload_n 2), 0, 0, .null, []), (1113, (.invokevirtual 96), 101, 1, .null, [5]), (1116, (.iload 5), 0, 0, .null, []), (1118, (.if_icmp .eq 5), 1123, 0, .null, []), (1121, (.iconst 0), 0, 0, .int (0), []), (1122, .ireturn, 0, 0, .null, []), (1123, (.iload 5), 0, 0, .null, []), (1125, (.ifCond .ne 15), 1140, 0, .null, []), (1128, (.aload_n 3), 0, 0, .null, []), (1129, (.iconst 0), 0, 0, .int (0), []), (1130, .laload, 0, 0, .null, []), (1131, (.iload 6), 0, 0, .null, []), (1133, .i2l, 0, 0, .null, []), (1134, .lcmp, 0, 0, .null, []), (1135, (.ifCond .eq 5), 1140, 0, .null, []), (1138, (.iconst 0), 0, 0, .int (0), []), (1139, .ireturn, 0, 0, .null, []), (1140, (.goto 530), 1670, 0, .null, [5, 6, 7, 8]), (1143, (.aload_n 1), 0, 0, .null, []), (1144, (.aload_n 0), 0, 0, .null, []), (1145, (.iload 4), 0, 0, .null, []), (1147, (.iconst 1), 0, 0, .int (1), []), (1148, .iadd, 0, 0, .null, []), (1149, .iaload, 0, 0, .null, []), (1150, (.aload_n 0), 0, 0, .null, []), (1151, (.iload 4), 0, 0, .null, []), (1153, (.iconst 2), 0, 0, .int (2), []), (1154, .iadd, 0, 0, .null, []), (1155, .iaload, 0, 0, .null, []), (1156, (.aload_n 3), 0, 0, .null, []), (1157, (.invokestatic 157), 195, 4, .null, []), (1160, (.istore 5), 0, 0, .null, [6, 7, 8]), (1162, (.aload_n 2), 0, 0, .null, []), (1163, (.aload_n 0), 0, 0, .null, []), (1164, (.iload 4), 0, 0, .null, []), (1166, (.iconst 1), 0, 0, .int (1), []), (1167, .iadd, 0, 0, .null, []), (1168, .iaload, 0, 0, .null, []), (1169, (.aload_n 0), 0, 0, .null, []), (1170, (.iload 4), 0, 0, .null, []), (1172, (.iconst 2), 0, 0, .int (2), []), (1173, .iadd, 0, 0, .null, []), (1174, .iaload, 0, 0, .null, []), (1175, (.invokevirtual 159), 156, 3, .null, [5]), (1178, (.istore 6), 0, 0, .null, [7, 8]), (1180, (.aload_n 2), 0, 0, .null, []), (1181, (.invokevirtual 96), 101, 1, .null, [5]), (1184, (.iload 5), 0, 0, .null, []), (1186, (.if_icmp .eq 5), 1191, 0, .null, []), (1189, (.iconst 0), 0, 0, .int (0), []), (1190, .ireturn, 0, 0, .null, []), (1191, (.iload 5), 0, 0, .null, []), (1193, (.ifCond .ne 15), 1208, 0, .null, []), (1196, (.aload_n 3), 0, 0, .null, []), (1197, (.iconst 0), 0, 0, .int (0), []), (1198, .laload, 0, 0, .null, []), (1199, (.iload 6), 0, 0, .null, []), (1201, .i2l, 0, 0, .null, []), (1202, .lcmp, 0, 0, .null, []), (1203, (.ifCond .eq 5), 1208, 0, .null, []), (1206, (.iconst 0), 0, 0, .int (0), []), (1207, .ireturn, 0, 0, .null, []), (1208, (.goto 462), 1670, 0, .null, [5, 6, 7, 8]), (1211, (.aload_n 1), 0, 0, .null, []), (1212, (.aload_n 0), 0, 0, .null, []), (1213, (.iload 4), 0, 0, .null, []), (1215, (.iconst 1), 0, 0, .int (1), []), (1216, .iadd, 0, 0, .null, []), (1217, .iaload, 0, 0, .null, []), (1218, (.aload_n 0), 0, 0, .null, []), (1219, (.iload 4), 0, 0, .null, []), (1221, (.iconst 2), 0, 0, .int (2), []), (1222, .iadd, 0, 0, .null, []), (1223, .iaload, 0, 0, .null, []), (1224, (.aload_n 3), 0, 0, .null, []), (1225, (.invokestatic 160), 196, 4, .null, []), (1228, (.istore 5), 0, 0, .null, [6, 7, 8]), (1230, (.aload_n 2), 0, 0, .null, []), (1231, (.aload_n 0), 0, 0, .null, []), (1232, (.iload 4), 0, 0, .null, []), (1234, (.iconst 1), 0, 0, .int (1), []), (1235, .iadd, 0, 0, .null, []), (1236, .iaload, 0, 0, .null, []), (1237, (.aload_n 0), 0, 0, .null, []), (1238, (.iload 4), 0, 0, .null, []), (1240, (.iconst 2), 0, 0, .int (2), []), (1241, .iadd, 0, 0, .null, []), (1242, .iaload, 0, 0, .null, []), (1243, (.invokevirtual 162), 158, 3, .null, [5]), (1246, (.istore 6), 0, 0, .null, [7, 8]), (1248, (.aload_n 2), 0, 0, .null, []), (1249, (.invokevirtual 96), 101, 1, .null, [5]), (1252, (.iload 5), 0, 0, .null, []), (1254, (.if_icmp .eq 5), 1259, 0, .null, []), (1257, (.iconst 0), 0, 0, .int (0), []), (1258, .ireturn, 0, 0, .null, []), (1259, (.iload 5), 0, 0, .null, []), (1261, (.ifCond .ne 15), 1276, 0, .null, []), (1264, (.aload_n 3), 0, 0, .null, []), (1265, (.iconst 0), 0, 0, .int (0), []), (1266, .laload, 0, 0, .null, []), (1267, (.iload 6), 0, 0, .null, []), (1269, .i2l, 0, 0, .null, []), (1270, .lcmp, 0, 0, .null, []), (1271, (.ifCond .eq 5), 1276, 0, .null, []), (1274, (.iconst 0), 0, 0, .int (0), []), (1275, .ireturn, 0, 0, .null, []), (1276, (.goto 394), 1670, 0, .null, [5, 6, 7, 8]), (1279, (.aload_n 1), 0, 0, .null, []), (1280, (.aload_n 0), 0, 0, .null, []), (1281, (.iload 4), 0, 0, .null, []), (1283, (.iconst 1), 0, 0, .int (1), []), (1284, .iadd, 0, 0, .null, []), (1285, .iaload, 0, 0, .null, []), (1286, (.aload_n 3), 0, 0, .null, []), (1287, (.invokestatic 163), 197, 3, .null, []), (1290, (.istore 5), 0, 0, .null, [6, 7, 8]), (1292, (.aload_n 2), 0, 0, .null, []), (1293, (.aload_n 0), 0, 0, .null, []), (1294, (.iload 4), 0, 0, .null, []), (1296, (.iconst 1), 0, 0, .int (1), []), (1297, .iadd, 0, 0, .null, []), (1298, .iaload, 0, 0, .null, []), (1299, (.invokevirtual 165), 161, 2, .null, [5]), (1302, (.istore 6), 0, 0, .null, [7, 8]), (1304, (.aload_n 2), 0, 0, .null, []), (1305, (.invokevirtual 96), 101, 1, .null, [5]), (1308, (.iload 5), 0, 0, .null, []), (1310, (.if_icmp .eq 5), 1315, 0, .null, []), (1313, (.iconst 0), 0, 0, .int (0), []), (1314, .ireturn, 0, 0, .null, []), (1315, (.iload 5), 0, 0, .null, []), (1317, (.ifCond .ne 15), 1332, 0, .null, []), (1320, (.aload_n 3), 0, 0, .null, []), (1321, (.iconst 0), 0, 0, .int (0), []), (1322, .laload, 0, 0, .null, []), (1323, (.iload 6), 0, 0, .null, []), (1325, .i2l, 0, 0, .null, []), (1326, .lcmp, 0, 0, .null, []), (1327, (.ifCond .eq 5), 1332, 0, .null, []), (1330, (.iconst 0), 0, 0, .int (0), []), (1331, .ireturn, 0, 0, .null, []), (1332, (.goto 338), 1670, 0, .null, [5, 6, 7, 8]), (1335, (.aload_n 1), 0, 0, .null, []), (1336, (.aload_n 0), 0, 0, .null, []), (1337, (.iload 4), 0, 0, .null, []), (1339, (.iconst 1), 0, 0, .int (1), []), (1340, .iadd, 0, 0, .null, []), (1341, .iaload, 0, 0, .null, []), (1342, (.aload_n 3), 0, 0, .null, []), (1343, (.invokestatic 166), 198, 3, .null, []), (1346, (.istore 5), 0, 0, .null, [6, 7, 8]), (1348, (.aload_n 2), 0, 0, .null, []), (1349, (.aload_n 0), 0, 0, .null, []), (1350, (.iload 4), 0, 0, .null, []), (1352, (.iconst 1), 0, 0, .int (1), []), (1353, .iadd, 0, 0, .null, []), (1354, .iaload, 0, 0, .null, []), (1355, (.invokevirtual 168), 162, 2, .null, [5]), (1358, (.istore 6), 0, 0, .null, [7, 8]), (1360, (.aload_n 2), 0, 0, .null, []), (1361, (.invokevirtual 96), 101, 1, .null, [5]), (1364, (.iload 5), 0, 0, .null, []), (1366, (.if_icmp .eq 5), 1371, 0, .null, []), (1369, (.iconst 0), 0, 0, .int (0), []), (1370, .ireturn, 0, 0, .null, []), (1371, (.iload 5), 0, 0, .null, []), (1373, (.ifCond .ne 15), 1388, 0, .null, []), (1376, (.aload_n 3), 0, 0, .null, []), (1377, (.iconst 0), 0, 0, .int (0), []), (1378, .laload, 0, 0, .null, []), (1379, (.iload 6), 0, 0, .null, []), (1381, .i2l, 0, 0, .null, []), (1382, .lcmp, 0, 0, .null, []), (1383, (.ifCond .eq 5), 1388, 0, .null, []), (1386, (.iconst 0), 0, 0, .int (0), []), (1387, .ireturn, 0, 0, .null, []), (1388, (.goto 282), 1670, 0, .null, [5, 6, 7, 8]), (1391, (.aload_n 1), 0, 0, .null, []), (1392, (.aload_n 0), 0, 0, .null, []), (1393, (.iload 4), 0, 0, .null, []), (1395, (.iconst 1), 0, 0, .int (1), []), (1396, .iadd, 0, 0, .null, []), (1397, .iaload, 0, 0, .null, []), (1398, (.aload_n 3), 0, 0, .null, []), (1399, (.invokestatic 169), 199, 3, .null, []), (1402, (.istore 5), 0, 0, .null, [6, 7, 8]), (1404, (.aload_n 2), 0, 0, .null, []), (1405, (.aload_n 0), 0, 0, .null, []), (1406, (.iload 4), 0, 0, .null, []), (1408, (.iconst 1), 0, 0, .int (1), []), (1409, .iadd, 0, 0, .null, []), (1410, .iaload, 0, 0, .null, []), (1411, (.invokevirtual 171), 164, 2, .null, [5]), (1414, (.istore 6), 0, 0, .null, [7, 8]), (1416, (.aload_n 2), 0, 0, .null, []), (1417, (.invokevirtual 96), 101, 1, .null, [5]), (1420, (.iload 5), 0, 0, .null, []), (1422, (.if_icmp .eq 5), 1427, 0, .null, []), (1425, (.iconst 0), 0, 0, .int (0), []), (1426, .ireturn, 0, 0, .null, []), (1427, (.iload 5), 0, 0, .null, []), (1429, (.ifCond .ne 15), 1444, 0, .null, []), (1432, (.aload_n 3), 0, 0, .null, []), (1433, (.iconst 0), 0, 0, .int (0), []), (1434, .laload, 0, 0, .null, []), (1435, (.iload 6), 0, 0, .null, []), (1437, .i2l, 0, 0, .null, []), (1438, .lcmp, 0, 0, .null, []), (1439, (.ifCond .eq 5), 1444, 0, .null, []), (1442, (.iconst 0), 0, 0, .int (0), []), (1443, .ireturn, 0, 0, .null, []), (1444, (.goto 226), 1670, 0, .null, [5, 6, 7, 8]), (1447, (.aload_n 1), 0, 0, .null, []), (1448, (.aload_n 0), 0, 0, .null, []), (1449, (.iload 4), 0, 0, .null, []), (1451, (.iconst 1), 0, 0, .int (1), []), (1452, .iadd, 0, 0, .null, []), (1453, .iaload, 0, 0, .null, []), (1454, (.aload_n 3), 0, 0, .null, []), (1455, (.invokestatic 172), 200, 3, .null, []), (1458, (.istore 5), 0, 0, .null, [6, 7, 8]), (1460, (.aload_n 2), 0, 0, .null, []), (1461, (.aload_n 0), 0, 0, .null, []), (1462, (.iload 4), 0, 0, .null, []), (1464, (.iconst 1), 0, 0, .int (1), []), (1465, .iadd, 0, 0, .null, []), (1466, .iaload, 0, 0, .null, []), (1467, (.invokevirtual 174), 166, 2, .null, [5]), (1470, (.istore 6), 0, 0, .null, [7, 8]), (1472, (.aload_n 2), 0, 0, .null, []), (1473, (.invokevirtual 96), 101, 1, .null, [5]), (1476, (.iload 5), 0, 0, .null, []), (1478, (.if_icmp .eq 5), 1483, 0, .null, []), (1481, (.iconst 0), 0, 0, .int (0), []), (1482, .ireturn, 0, 0, .null, []), (1483, (.iload 5), 0, 0, .null, []), (1485, (.ifCond .ne 15), 1500, 0, .null, []), (1488, (.aload_n 3), 0, 0, .null, []), (1489, (.iconst 0), 0, 0, .int (0), []), (1490, .laload, 0, 0, .null, []), (1491, (.iload 6), 0, 0, .null, []), (1493, .i2l, 0, 0, .null, []), (1494, .lcmp, 0, 0, .null, []), (1495, (.ifCond .eq 5), 1500, 0, .null, []), (1498, (.iconst 0), 0, 0, .int (0), []), (1499, .ireturn, 0, 0, .null, []), (1500, (.goto 170), 1670, 0, .null, [5, 6, 7, 8]), (1503, (.aload_n 1), 0, 0, .null, []), (1504, (.aload_n 0), 0, 0, .null, []), (1505, (.iload 4), 0, 0, .null, []), (1507, (.iconst 1), 0, 0, .int (1), []), (1508, .iadd, 0, 0, .null, []), (1509, .iaload, 0, 0, .null, []), (1510, (.aload_n 3), 0, 0, .null, []), (1511, (.invokestatic 175), 201, 3, .null, []), (1514, (.istore 5), 0, 0, .null, [6, 7, 8]), (1516, (.aload_n 2), 0, 0, .null, []), (1517, (.aload_n 0), 0, 0, .null, []), (1518, (.iload 4), 0, 0, .null, []), (1520, (.iconst 1), 0, 0, .int (1), []), (1521, .iadd, 0, 0, .null, []), (1522, .iaload, 0, 0, .null, []), (1523, (.invokevirtual 177), 168, 2, .null, [5]), (1526, (.istore 6), 0, 0, .null, [7, 8]), (1528, (.aload_n 2), 0, 0, .null, []), (1529, (.invokevirtual 96), 101, 1, .null, [5]), (1532, (.iload 5), 0, 0, .null, []), (1534, (.if_icmp .eq 5), 1539, 0, .null, []), (1537, (.iconst 0), 0, 0, .int (0), []), (1538, .ireturn, 0, 0, .null, []), (1539, (.iload 5), 0, 0, .null, []), (1541, (.ifCond .ne 15), 1556, 0, .null, []), (1544, (.aload_n 3), 0, 0, .null, []), (1545, (.iconst 0), 0, 0, .int (0), []), (1546, .laload, 0, 0, .null, []), (1547, (.iload 6), 0, 0, .null, []), (1549, .i2l, 0, 0, .null, []), (1550, .lcmp, 0, 0, .null, []), (1551, (.ifCond .eq 5), 1556, 0, .null, []), (1554, (.iconst 0), 0, 0, .int (0), []), (1555, .ireturn, 0, 0, .null, []), (1556, (.goto 114), 1670, 0, .null, [5, 6, 7, 8]), (1559, (.aload_n 1), 0, 0, .null, []), (1560, (.invokevirtual 178), 76, 1, .null, [4]), (1563, (.aload_n 2), 0, 0, .null, []), (1564, (.invokevirtual 181), 170, 1, .null, [5]), (1567, (.if_icmp .eq 103), 1670, 0, .null, []), (1570, (.iconst 0), 0, 0, .int (0), []), (1571, .ireturn, 0, 0, .null, []), (1572, (.aload_n 1), 0, 0, .null, []), (1573, (.invokevirtual 182), 77, 1, .null, [4]), (1576, .f2d, 0, 0, .null, []), (1577, (.dstore 5), 0, 0, .null, [6, 7, 8]), (1579, (.aload_n 2), 0, 0, .null, []), (1580, (.invokevirtual 186), 172, 1, .null, [5]), (1583, .f2d, 0, 0, .null, []), (1584, (.dstore 7), 0, 0, .null, [6, 8]), (1586, (.dload 5), 0, 0, .null, []), (1588, (.dload 7), 0, 0, .null, []), (1590, (.dcmp .l), 0, 0, .null, []), (1591, (.ifCond .eq 21), 1612, 0, .null, []), (1594, (.dload 5), 0, 0, .null, []), (1596, (.dload 5), 0, 0, .null, []), (1598, (.dcmp .l), 0, 0, .null, []), (1599, (.ifCond .eq 11), 1610, 0, .null, []), (1602, (.dload 7), 0, 0, .null, []), (1604, (.dload 7), 0, 0, .null, []), (1606, (.dcmp .l), 0, 0, .null, []), (1607, (.ifCond .ne 5), 1612, 0, .null, []), (1610, (.iconst 0), 0, 0, .int (0), []), (1611, .ireturn, 0, 0, .null, []), (1612, (.goto 58), 1670, 0, .null, [5, 6, 7, 8]), (1615, (.aload_n 1), 0, 0, .null, []), (1616, (.invokevirtual 187), 78, 1, .null, [4]), (1619, (.dstore 5), 0, 0, .null, [6, 7, 8]), (1621, (.aload_n 2), 0, 0, .null, []), (1622, (.invokevirtual 191), 174, 1, .null, [5]), (1625, (.dstore 7), 0, 0, .null, [6, 8]), (1627, (.dload 5), 0, 0, .null, []), (1629, (.dload 7), 0, 0, .null, []), (1631, (.dcmp .l), 0, 0, .null, []), (1632, (.ifCond .eq 21), 1653, 0, .null, []), (1635, (.dload 5), 0, 0, .null, []), (1637, (.dload 5), 0, 0, .null, []), (1639, (.dcmp .l), 0, 0, .null, []), (1640, (.ifCond .eq 11), 1651, 0, .null, []), (1643, (.dload 7), 0, 0, .null, []), (1645, (.dload 7), 0, 0, .null, []), (1647, (.dcmp .l), 0, 0, .null, []), (1648, (.ifCond .ne 5), 1653, 0, .null, []), (1651, (.iconst 0), 0, 0, .int (0), []), (1652, .ireturn, 0, 0, .null, []), (1653, (.goto 17), 1670, 0, .null, [5, 6, 7, 8]), (1656, (.aload_n 1), 0, 0, .null, []), (1657, (.invokevirtual 192), 79, 1, .null, [4]), (1660, (.aload_n 2), 0, 0, .null, []), (1661, (.invokevirtual 196), 179, 1, .null, [5]), (1664, .lcmp, 0, 0, .null, []), (1665, (.ifCond .eq 5), 1670, 0, .null, []), (1668, (.iconst 0), 0, 0, .int (0), []), (1669, .ireturn, 0, 0, .null, []), (1670, (.iinc 4 5), 0, 0, .null, [5, 6, 7, 8]), (1673, (.goto (-1650)), 23, 0, .null, [5, 6, 7, 8]), (1676, (.iconst 1), 0, 0, .int (1), []), (1677, .ireturn, 0, 0, .null, [])]
def hx_cds : List (List (Nat × hx_CE)) := [cd_0, cd_1, cd_2, cd_3, cd_4, cd_5, cd_6, cd_7, cd_8, cd_9, cd_10, cd_11, cd_12, cd_13, cd_14, cd_15, cd_16, cd_17, cd_18, cd_19, cd_20, cd_21, cd_22, cd_23, cd_24, cd_25, cd_26, cd_27, cd_28, cd_29, cd_30, cd_31, cd_32, cd_33, cd_34, cd_35, cd_36, cd_37, cd_38, cd_39, cd_40, cd_41, cd_42, cd_43, cd_44, cd_45, cd_46, cd_47, cd_48, cd_49, cd_50, cd_51, cd_52, cd_53, cd_54, cd_55, cd_56, cd_57, cd_58, cd_59, cd_60, cd_61, cd_62, cd_63, cd_64, cd_65, cd_66, cd_67, cd_68, cd_69, cd_70, cd_71, cd_72, cd_73, cd_74, cd_75, cd_76, cd_77, cd_78, cd_79, cd_80, cd_81, cd_82, cd_83, cd_84, cd_85, cd_86, cd_87, cd_88, cd_89, cd_90, cd_91, cd_92, cd_93, cd_94, cd_95, cd_96, cd_97, cd_98, cd_99, cd_100, cd_101, cd_102, cd_103, cd_104, cd_105, cd_106, cd_107, cd_108, cd_109, cd_110, cd_111, cd_112, cd_113, cd_114, cd_115, cd_116, cd_117, cd_118, cd_119, cd_120, cd_121, cd_122, cd_123, cd_124, cd_125, cd_126, cd_127, cd_128, cd_129, cd_130, cd_131, cd_132, cd_133, cd_134, cd_135, cd_136, cd_137, cd_138, cd_139, cd_140, cd_141, cd_142, cd_143, cd_144, cd_145, cd_146, cd_147, cd_148, cd_149, cd_150, cd_151, cd_152, cd_153, cd_154, cd_155, cd_156, cd_157, cd_158, cd_159, cd_160, cd_161, cd_162, cd_163, cd_164, cd_165, cd_166, cd_167, cd_168, cd_169, cd_170, cd_171, cd_172, cd_173, cd_174, cd_175, cd_176, cd_177, cd_178, cd_179, cd_180, cd_181, cd_182, cd_183, cd_184, cd_185, cd_186, cd_187, cd_188, cd_189, cd_190, cd_191, cd_192, cd_193, cd_194, cd_195, cd_196, cd_197, cd_198, cd_199, cd_200, cd_201, cd_202]
def hx_ys : List MethodName := [yX0_init, yX0_leastBySets, yX0_leastByTrying, yX0_findRow, yX0_fillJoins, yX0_fillLeast, yX0_cheapestNext, yX0_costBehind, yX0_tryBehind, yX1_init, yX1_lineUp, yX1_property, yX1_distance, yX1_shouldBe, yX1_isWrong, yX1_lacking, yX1_wrongDistances, yX1_lackingTurns, yX1_shrinkByMean, yX2_init, yX2_begin, yX2_beginPiece, yX2_takes, yX2_isWhole, yX2_closePlace, yX2_takesWidth, yX2_takesEdges, yX2_takesNext, yX2_takesPlace, yX2_lastHole, yX2_isPlace, yX2_beginsPlace, yX2_digitOf, yX3_init, yX3_copyFrom, yX3_addPiece, yX3_takeAway, yX3_closeGap, yX3_rowWith, yX3_hasHole, yX3_openHole, yX3_closeHole, yX3_property, yX3_placeOf, yX3_beginAt, yX3_widthOfRow, yX3_costOfJoin, yX3_costOfRow, yX3_cheapestBehind, yX3_leadOfCheapest, yX4_init, yX4_add, yX4_tear, yX4_fibre, yX4_hole, yX4_remove, yX4_move, yX4_order, yX4_set, yX4_append, yX4_clearBuffer, yX4_firstError, yX4_load, yX4_keep, yX4_goBack, yX4_undo, yX4_pieceOf, yX4_isHole, yX4_at, yX4_cost, yX4_holeOf, yX4_count, yX4_setting, yX4_bestBehind, yX4_sureness, yX4_bestPlace, yX4_ifOrdered, yX4_meanShrink, yX4_meanCost, yX4_digest, yX4_needPiece, yX4_needPlaceIn, yX4_needSetting, yX4_needSlot, yX4_changeEdge, yX4_saveState, yX4_readBuffer, yX4_addFromBuffer, yX4_addRead, yX4_number, yX4_holesNow, yX4_cheapestPlace, yX4_wrongIfOrdered, yX4_costByMean, yX4_mixed, yX4_withPieces, yX4_withHoles, yX4_withSlotsAndBuffer, yX4_bitsOfFloat, yX4_bitsOfDouble, yX5_init, yX5_thrown, yX5_in, yX5_holds, yX5_isPiece, yX5_of, yX5_save, yX5_putAside, yX5_putBack, yX5_size, yX5_joinOf, yX5_rowCost, yX5_placeOf, yX5_beginOf, yX5_worksOut, yX5_restOf, yX5_sorts, yX5_moves, yX5_hasHole, yX5_holesOf, yX5_findsHoles, yX5_distance, yX5_isWrongAt, yX5_lacking, yX5_wrongs, yX5_adds, yX5_add, yX5_becomes, yX5_tear, yX5_fibre, yX5_isPlaceIn, yX5_isRoom, yX5_hole, yX5_remove, yX5_move, yX5_order, yX5_set, yX5_append, yX5_clearBuffer, yX5_isNext, yX5_takes, yX5_begins, yX5_number, yX5_readEdge, yX5_readHoles, yX5_readPiece, yX5_goesThrough, yX5_firstError, yX5_load, yX5_keep, yX5_goBack, yX5_undo, yX5_ofPiece, yX5_pieceOf, yX5_isHole, yX5_at, yX5_cost, yX5_ofHole, yX5_holeOf, yX5_sumOf, yX5_counted, yX5_count, yX5_setting, yX5_bestBut, yX5_bestBehind, yX5_sureOf, yX5_sureness, yX5_placeFor, yX5_bestPlace, yX5_wrongIfSorted, yX5_ifOrdered, yX5_shrink, yX5_meanShrink, yX5_dear, yX5_meanCost, yX5_bitsOf, yX5_longBitsOf, yX5_digestOne, yX5_digestPieces, yX5_digest, yL_add, yL_tear, yL_fibre, yL_hole, yL_remove, yL_move, yL_set, yL_append, yL_load, yL_keep, yL_goBack, yL_undo, yL_pieceOf, yL_isHole, yL_at, yL_cost, yL_holeOf, yL_count, yL_setting, yL_bestBehind, yL_sureness, yL_bestPlace, yL_law]
def hx_bys : List ByteArray := [cX0_init, cX0_leastBySets, cX0_leastByTrying, cX0_findRow, cX0_fillJoins, cX0_fillLeast, cX0_cheapestNext, cX0_costBehind, cX0_tryBehind, cX1_init, cX1_lineUp, cX1_property, cX1_distance, cX1_shouldBe, cX1_isWrong, cX1_lacking, cX1_wrongDistances, cX1_lackingTurns, cX1_shrinkByMean, cX2_init, cX2_begin, cX2_beginPiece, cX2_takes, cX2_isWhole, cX2_closePlace, cX2_takesWidth, cX2_takesEdges, cX2_takesNext, cX2_takesPlace, cX2_lastHole, cX2_isPlace, cX2_beginsPlace, cX2_digitOf, cX3_init, cX3_copyFrom, cX3_addPiece, cX3_takeAway, cX3_closeGap, cX3_rowWith, cX3_hasHole, cX3_openHole, cX3_closeHole, cX3_property, cX3_placeOf, cX3_beginAt, cX3_widthOfRow, cX3_costOfJoin, cX3_costOfRow, cX3_cheapestBehind, cX3_leadOfCheapest, cX4_init, cX4_add, cX4_tear, cX4_fibre, cX4_hole, cX4_remove, cX4_move, cX4_order, cX4_set, cX4_append, cX4_clearBuffer, cX4_firstError, cX4_load, cX4_keep, cX4_goBack, cX4_undo, cX4_pieceOf, cX4_isHole, cX4_at, cX4_cost, cX4_holeOf, cX4_count, cX4_setting, cX4_bestBehind, cX4_sureness, cX4_bestPlace, cX4_ifOrdered, cX4_meanShrink, cX4_meanCost, cX4_digest, cX4_needPiece, cX4_needPlaceIn, cX4_needSetting, cX4_needSlot, cX4_changeEdge, cX4_saveState, cX4_readBuffer, cX4_addFromBuffer, cX4_addRead, cX4_number, cX4_holesNow, cX4_cheapestPlace, cX4_wrongIfOrdered, cX4_costByMean, cX4_mixed, cX4_withPieces, cX4_withHoles, cX4_withSlotsAndBuffer, cX4_bitsOfFloat, cX4_bitsOfDouble, cX5_init, cX5_thrown, cX5_in, cX5_holds, cX5_isPiece, cX5_of, cX5_save, cX5_putAside, cX5_putBack, cX5_size, cX5_joinOf, cX5_rowCost, cX5_placeOf, cX5_beginOf, cX5_worksOut, cX5_restOf, cX5_sorts, cX5_moves, cX5_hasHole, cX5_holesOf, cX5_findsHoles, cX5_distance, cX5_isWrongAt, cX5_lacking, cX5_wrongs, cX5_adds, cX5_add, cX5_becomes, cX5_tear, cX5_fibre, cX5_isPlaceIn, cX5_isRoom, cX5_hole, cX5_remove, cX5_move, cX5_order, cX5_set, cX5_append, cX5_clearBuffer, cX5_isNext, cX5_takes, cX5_begins, cX5_number, cX5_readEdge, cX5_readHoles, cX5_readPiece, cX5_goesThrough, cX5_firstError, cX5_load, cX5_keep, cX5_goBack, cX5_undo, cX5_ofPiece, cX5_pieceOf, cX5_isHole, cX5_at, cX5_cost, cX5_ofHole, cX5_holeOf, cX5_sumOf, cX5_counted, cX5_count, cX5_setting, cX5_bestBut, cX5_bestBehind, cX5_sureOf, cX5_sureness, cX5_placeFor, cX5_bestPlace, cX5_wrongIfSorted, cX5_ifOrdered, cX5_shrink, cX5_meanShrink, cX5_dear, cX5_meanCost, cX5_bitsOf, cX5_longBitsOf, cX5_digestOne, cX5_digestPieces, cX5_digest, cL_add, cL_tear, cL_fibre, cL_hole, cL_remove, cL_move, cL_set, cL_append, cL_load, cL_keep, cL_goBack, cL_undo, cL_pieceOf, cL_isHole, cL_at, cL_cost, cL_holeOf, cL_count, cL_setting, cL_bestBehind, cL_sureness, cL_bestPlace, cL_law]
def hx_mls : List Nat := [1, 2, 2, 6, 4, 5, 8, 5, 11, 1, 7, 3, 2, 2, 2, 6, 3, 3, 2, 1, 1, 1, 2, 1, 1, 3, 4, 2, 4, 1, 2, 2, 1, 1, 2, 4, 6, 4, 6, 4, 5, 6, 4, 3, 4, 1, 7, 4, 6, 5, 2, 2, 5, 4, 4, 2, 3, 1, 4, 2, 2, 1, 1, 2, 2, 1, 3, 3, 2, 3, 3, 2, 2, 2, 2, 2, 1, 1, 1, 4, 2, 3, 1, 1, 8, 1, 2, 3, 2, 2, 1, 6, 1, 1, 4, 7, 8, 6, 4, 7, 1, 1, 3, 2, 2, 2, 2, 2, 2, 1, 5, 3, 3, 4, 6, 6, 8, 5, 3, 4, 5, 2, 2, 5, 4, 4, 2, 4, 6, 5, 3, 3, 3, 3, 3, 1, 3, 2, 2, 3, 5, 3, 4, 3, 4, 2, 6, 2, 2, 3, 3, 2, 3, 3, 3, 2, 3, 3, 3, 4, 2, 2, 2, 6, 2, 4, 2, 6, 2, 2, 1, 1, 1, 1, 1, 4, 6, 3, 3, 3, 4, 7, 6, 5, 4, 5, 5, 4, 3, 4, 4, 3, 5, 5, 4, 5, 5, 4, 4, 4, 4, 4, 9]
def hx_rts : List (Option FieldType) := [none, some .int, some .int, none, none, none, some .int, some .int, some .int, none, none, some .int, some .int, some .int, some .boolean, some .int, some .int, some .int, some .float, none, none, none, some .boolean, some .boolean, none, some .boolean, some .boolean, some .boolean, some .boolean, some .int, some .boolean, some .boolean, some .int, none, none, some .int, none, none, none, some .boolean, none, none, some .int, some .int, some .int, some .int, some .int, some .int, some .int, some .int, none, some .int, some .int, some .int, some .int, some .int, some .int, some .int, some .int, some .int, some .int, some .int, some .int, some .int, some .int, some .int, some .int, some .int, some .int, some .int, some .int, some .int, some .int, some .int, some .int, some .int, some .int, some .float, some .double, some .long, none, none, none, none, some .int, none, some .int, none, none, some .int, some (.object "ScrollPieces$HoleLine"), some .int, some .int, some .double, some .long, some .long, some .long, some .long, some .int, some .long, none, some .int, some .boolean, some .boolean, some .boolean, some .int, none, none, none, some .int, some .int, some .int, some .int, some .int, some .int, some .int, none, none, some .boolean, some .int, none, some .int, some .boolean, some .int, some .int, some .int, some .int, some .int, some .int, some .int, some .boolean, some .boolean, some .int, some .int, some .int, some .int, some .int, some .int, some .int, some .boolean, some .int, some .boolean, some .int, none, none, none, some .int, some .int, some .int, some .int, some .int, some .int, some .int, some .int, some .int, some .int, some .int, some .int, some .int, some .int, some .int, some .int, some .int, some .int, some .int, some .int, some .int, some .int, some .int, some .int, some .int, some .float, some .float, some .double, some .double, some .int, some .long, none, none, some .long, some .int, some .int, some .int, some .int, some .int, some .int, some .int, some .int, some .int, some .int, some .int, some .int, some .int, some .int, some .int, some .int, some .int, some .int, some .int, some .int, some .int, some .int, some .boolean]
def hx_nps : List Nat := [0, 1, 1, 1, 1, 2, 3, 3, 7, 0, 2, 2, 1, 1, 1, 1, 0, 0, 0, 0, 0, 0, 1, 0, 0, 1, 1, 1, 1, 0, 1, 1, 1, 0, 1, 1, 1, 4, 3, 2, 2, 2, 2, 1, 1, 0, 2, 1, 1, 1, 0, 1, 4, 3, 2, 1, 2, 0, 2, 1, 0, 0, 0, 1, 1, 0, 2, 2, 1, 2, 2, 1, 1, 1, 1, 1, 0, 0, 0, 0, 1, 2, 1, 1, 5, 0, 0, 0, 0, 1, 0, 1, 0, 0, 2, 1, 1, 1, 1, 1, 0, 0, 3, 1, 1, 2, 0, 0, 0, 1, 2, 0, 1, 1, 0, 2, 0, 2, 2, 1, 0, 1, 1, 1, 1, 1, 1, 2, 4, 3, 2, 2, 2, 1, 2, 0, 2, 1, 0, 2, 2, 3, 2, 1, 0, 0, 1, 0, 0, 1, 1, 0, 2, 2, 2, 1, 2, 2, 2, 1, 1, 1, 1, 2, 1, 1, 1, 1, 1, 0, 0, 0, 0, 0, 0, 1, 1, 1, 0, 0, 3, 6, 5, 4, 3, 4, 4, 3, 2, 3, 3, 2, 4, 4, 3, 4, 4, 3, 3, 3, 3, 3, 1]
def hx_stats : List Bool := [false, false, false, false, false, false, false, false, true, false, false, false, false, false, false, false, false, false, false, false, false, false, false, false, false, false, false, false, false, false, false, false, true, false, false, false, false, true, false, false, false, false, false, false, false, false, false, false, false, false, false, false, false, false, false, false, false, false, false, false, false, false, false, false, false, false, false, false, false, false, false, false, false, false, false, false, false, false, false, false, false, false, true, true, false, false, false, false, false, false, false, false, false, false, true, false, false, false, true, true, false, false, true, false, false, true, false, false, false, true, false, false, false, false, false, false, false, false, false, false, false, false, false, false, false, false, false, false, false, false, false, false, false, false, false, false, false, false, false, false, false, true, false, false, false, false, false, false, false, false, false, false, false, false, false, false, false, false, false, false, false, false, false, false, false, false, false, false, false, false, false, false, false, false, false, true, true, false, false, false, true, true, true, true, true, true, true, true, true, true, true, true, true, true, true, true, true, true, true, true, true, true, true]
def hx_owns : List Nat := [0, 0, 0, 0, 0, 0, 0, 0, 0, 1, 1, 1, 1, 1, 1, 1, 1, 1, 1, 2, 2, 2, 2, 2, 2, 2, 2, 2, 2, 2, 2, 2, 2, 3, 3, 3, 3, 3, 3, 3, 3, 3, 3, 3, 3, 3, 3, 3, 3, 3, 4, 4, 4, 4, 4, 4, 4, 4, 4, 4, 4, 4, 4, 4, 4, 4, 4, 4, 4, 4, 4, 4, 4, 4, 4, 4, 4, 4, 4, 4, 4, 4, 4, 4, 4, 4, 4, 4, 4, 4, 4, 4, 4, 4, 4, 4, 4, 4, 4, 4, 5, 5, 5, 5, 5, 5, 5, 5, 5, 5, 5, 5, 5, 5, 5, 5, 5, 5, 5, 5, 5, 5, 5, 5, 5, 5, 5, 5, 5, 5, 5, 5, 5, 5, 5, 5, 5, 5, 5, 5, 5, 5, 5, 5, 5, 5, 5, 5, 5, 5, 5, 5, 5, 5, 5, 5, 5, 5, 5, 5, 5, 5, 5, 5, 5, 5, 5, 5, 5, 5, 5, 5, 5, 5, 5, 5, 5, 5, 5, 5, 6, 6, 6, 6, 6, 6, 6, 6, 6, 6, 6, 6, 6, 6, 6, 6, 6, 6, 6, 6, 6, 6, 6]
def hx_buds : List Nat := [3, 0, 0, 0, 0, 0, 0, 0, 0, 2, 0, 0, 0, 0, 0, 0, 0, 0, 0, 2, 0, 0, 0, 0, 0, 0, 0, 0, 0, 0, 0, 0, 0, 6, 0, 0, 0, 0, 0, 0, 0, 0, 0, 0, 0, 0, 0, 0, 0, 0, 200, 1, 3, 2, 3, 1, 2, 0, 2, 1, 0, 0, 1, 1, 2, 1, 2, 2, 1, 3, 1, 1, 1, 1, 1, 1, 0, 0, 0, 0, 1, 1, 1, 1, 1, 0, 0, 0, 0, 0, 0, 0, 0, 0, 0, 0, 0, 0, 0, 0, 20, 0, 0, 0, 0, 0, 0, 0, 0, 0, 0, 0, 0, 0, 0, 0, 0, 0, 0, 0, 0, 0, 0, 0, 0, 0, 0, 0, 0, 0, 0, 0, 0, 0, 0, 0, 0, 0, 0, 0, 0, 0, 0, 0, 0, 0, 0, 0, 0, 0, 0, 0, 0, 0, 0, 0, 0, 0, 0, 0, 0, 0, 0, 0, 0, 0, 0, 0, 0, 0, 0, 0, 0, 0, 0, 0, 0, 0, 0, 0, 1, 3, 2, 3, 1, 2, 2, 1, 1, 1, 2, 1, 2, 2, 1, 3, 1, 1, 1, 1, 1, 1, 7000]
def hx_hhs : List (List (Nat × Nat × Nat × Nat)) := [[], [], [], [], [], [], [], [], [], [], [], [], [], [], [], [], [], [], [], [], [], [], [], [], [], [], [], [], [], [], [], [], [], [], [], [], [], [], [], [], [], [], [], [], [], [], [], [], [], [], [], [], [], [], [], [], [], [], [], [], [], [], [], [], [], [], [], [], [], [], [], [], [], [], [], [], [], [], [], [], [], [], [], [], [], [], [], [], [], [], [], [], [], [], [], [], [], [], [], [], [], [], [], [], [], [], [], [], [], [], [], [], [], [], [], [], [], [], [], [], [], [], [], [], [], [], [], [], [], [], [], [], [], [], [], [], [], [], [], [], [], [], [], [], [], [], [], [], [], [], [], [], [], [], [], [], [], [], [], [], [], [], [], [], [], [], [], [], [], [], [], [], [], [], [], [], [], [], [], [], [(0, 9, 12, 13), (0, 9, 15, 15)], [(0, 14, 17, 21), (0, 14, 21, 13)], [(0, 12, 15, 21), (0, 12, 19, 13)], [(0, 10, 13, 21), (0, 10, 17, 13), (0, 10, 21, 15)], [(0, 9, 12, 21)], [(0, 10, 13, 21), (0, 10, 17, 13)], [(0, 10, 13, 21), (0, 10, 17, 13)], [(0, 9, 12, 13), (0, 9, 15, 15)], [(0, 8, 11, 13), (0, 8, 14, 15)], [(0, 9, 12, 13)], [(0, 9, 12, 13), (0, 9, 15, 15)], [(0, 8, 11, 15)], [(0, 10, 13, 21), (0, 10, 17, 13)], [(0, 10, 13, 21), (0, 10, 17, 13)], [(0, 9, 12, 13)], [(0, 10, 13, 21), (0, 10, 17, 13)], [(0, 10, 13, 13)], [(0, 9, 12, 13)], [(0, 9, 12, 21)], [(0, 9, 12, 21)], [(0, 9, 12, 21)], [(0, 9, 12, 21)], []]
def hx_ctc : List (List (Nat × Nat × Nat × Nat)) := [[], [], [], [], [], [], [], [], [], [], [], [], [], [], [], [], [], [], [], [], [], [], [], [], [], [], [], [], [], [], [], [], [], [], [], [], [], [], [], [], [], [], [], [], [], [], [], [], [], [], [], [], [], [], [], [], [], [], [], [], [], [], [], [], [], [], [], [], [], [], [], [], [], [], [], [], [], [], [], [], [], [], [], [], [], [], [], [], [], [], [], [], [], [], [], [], [], [], [], [], [], [], [], [], [], [], [], [], [], [], [], [], [], [], [], [], [], [], [], [], [], [], [], [], [], [], [], [], [], [], [], [], [], [], [], [], [], [], [], [], [], [], [], [], [], [], [], [], [], [], [], [], [], [], [], [], [], [], [], [], [], [], [], [], [], [], [], [], [], [], [], [], [], [], [], [], [], [], [], [], [(0, 12, 3, 13), (1, 15, 3, 16)], [(2, 17, 6, 19), (0, 21, 6, 23)], [(2, 15, 5, 17), (0, 19, 5, 21)], [(2, 13, 4, 15), (0, 17, 4, 19), (1, 21, 4, 23)], [(2, 12, 3, 13)], [(2, 13, 4, 15), (0, 17, 4, 19)], [(2, 13, 4, 15), (0, 17, 4, 19)], [(0, 12, 3, 13), (1, 15, 3, 16)], [(0, 11, 2, 12), (1, 14, 2, 15)], [(0, 12, 3, 13)], [(0, 12, 3, 13), (1, 15, 3, 16)], [(1, 11, 2, 12)], [(2, 13, 4, 15), (0, 17, 4, 19)], [(2, 13, 4, 15), (0, 17, 4, 19)], [(0, 12, 3, 13)], [(2, 13, 4, 15), (0, 17, 4, 19)], [(0, 13, 4, 15)], [(0, 12, 3, 13)], [(2, 12, 3, 13)], [(2, 12, 3, 13)], [(2, 12, 3, 13)], [(2, 12, 3, 13)], []]
def hx_strs : List (String × Nat × String) := [(RX4, 68, "width is not 1 to 60"), (RX4, 78, "there are 7 pieces"), (RX4, 92, "rank is not 0 to 3"), (RX4, 109, "the piece has 4 holes"), (RX4, 120, "there is no such place in the row"), (RX4, 150, "value is not 0 to 9"), (RX4, 155, "code is not 33 to 126"), (RX4, 157, "the buffer has 60 characters"), (RX4, 167, "the buffer does not tell pieces as a text"), (RX4, 172, "there would be more than 7 pieces"), (RX4, 183, "there is no snapshot in the slot"), (RX4, 185, "there is no saved state"), (RX4, 187, "what is not 0 to 13"), (RX4, 193, "place is below 0"), (RX4, 195, "both pieces are the same"), (RX4, 200, "rank is below 0"), (RX4, 202, "what is not 0 to 4"), (RX4, 209, "what is not 0 to 9"), (RX4, 260, "there is no such piece"), (RX4, 266, "place is not 0 to the width less 1"), (RX4, 268, "there is no such setting"), (RX4, 270, "slot is not 0 or 1"), (RX4, 272, "side is not 0 or 1"), (RX4, 274, "the new value is out of range")]
/-! ===== the run ===== -/
def hx_at (k pc : Nat) : Option hx_CE := match hx_nth hx_cds k with
  | some l => hx_look l pc
  | none => none
def hx_y (k : Nat) : MethodName := match hx_nth hx_ys k with
  | some y => y
  | none => ⟨"", "", ""⟩
def hx_by (k : Nat) : ByteArray := match hx_nth hx_bys k with
  | some y => y
  | none => ⟨#[]⟩
def hx_n (l : List Nat) (k : Nat) : Nat := match hx_nth l k with
  | some y => y
  | none => 0
abbrev hx_ml (k : Nat) : Nat := hx_n hx_mls k
abbrev hx_np (k : Nat) : Nat := hx_n hx_nps k
abbrev hx_own (k : Nat) : Nat := hx_n hx_owns k
abbrev hx_bud (k : Nat) : Nat := hx_n hx_buds k
def hx_rt (k : Nat) : Option FieldType := match hx_nth hx_rts k with
  | some y => y
  | none => none
def hx_stat (k : Nat) : Bool := match hx_nth hx_stats k with
  | some y => y
  | none => false
def hx_hh (k : Nat) : List (Nat × Nat × Nat × Nat) := match hx_nth hx_hhs k with
  | some y => y
  | none => []
def hx_ct (k : Nat) : List (Nat × Nat × Nat × Nat) := match hx_nth hx_ctc k with
  | some y => y
  | none => []
/-- the handler that takes the exception E: the local that keeps it, and where it goes on -/
def hx_find : List (Nat × Nat × Nat × Nat) → Nat → Option (Nat × Nat)
  | [], _ => none
  | q :: l, E => if q.1 = E then some (q.2.2.1, q.2.2.2) else hx_find l E
/-- the run of a frame: d calls may stand open above it, n steps at most -/
def hx_run (sc : Nat × (Nat → Int32)) : Nat → Nat → Nat → hx_FS → Option (hx_RS × hx_HS × Nat)
  | 0, _, _, _ => none
  | n + 1, d, k, (pc, ls, st, H, u) => match hx_at k pc with
    | none => none
    | some ce => match hx_step sc (hx_bud k) (hx_rt k) ce pc ls st H u with
      | none => none
      | some (.inl fs) => hx_run sc n d k fs
      | some (.inr (.inr e)) => if e.2.2 ≤ hx_bud k then some e else none
      | some (.inr (.inl (kc, args, (_, ls1, st1, H1, u1)))) => match d with
        | 0 => none
        | d1 + 1 => if u1 + hx_bud kc ≤ hx_bud k ∧ (hx_args args).length ≤ hx_ml kc then (match hx_run sc n d1 kc (0, hx_entry args (hx_ml kc), [], H1, 0) with
          | none => none
          | some (.inl v, H2, _) => hx_run sc n (d1 + 1) k (pc + 3, ls1, v.toList ++ st1, H2, u1 + hx_bud kc)
          | some (.inr E, H2, _) => match hx_ct k with
            | [] => some (.inr E, H2, u1 + hx_bud kc)
            | ct => match hx_find ct E with
              | some (j, npc) => if j < ls1.length then hx_run sc n (d1 + 1) k (npc, hx_st1 ls1 j none, [], H2, u1 + hx_bud kc) else none
              | none => none) else none
end
section
/-! ===== soundness of the abstract machine, 1: lists, cells, locals ===== -/
theorem hx_nth_eq {α : Type} : ∀ (l : List α) (n : Nat), hx_nth l n = l[n]?
  | [], _ => rfl
  | _ :: _, 0 => rfl
  | _ :: l, n + 1 => by rw [List.getElem?_cons_succ]; exact hx_nth_eq l n
def hx_cv (ad : Nat → Nat) (b : Nat) : Value → Value
  | .ref k => .ref (ad k)
  | .retAddr _ => .ref b
  | v => v
def hx_ec (ad : Nat → Nat) (ac : Nat → ClassId) (b k : Nat) (e : hx_SE) (d : Nat → Int32) (g : Nat → Int64) : va_E := match e with
  | .inl o => .inr (o.1, o.2.mapIdx (fun j w => hx_cv ad b (hx_fv w (d j) (g j))))
  | .inr o => .inl (ac k, o.2.1, match o.1 with
    | .long => .inr (.inl g)
    | .object _ => .inr (.inr (.inr (.inr (fun i => match hx_nth o.2.2 i with
      | some (some q) => some (ad q)
      | _ => none))))
    | _ => .inl d)
def hx_ws (ad : Nat → Nat) (ac : Nat → ClassId) (b : Nat) (Hs : hx_HS) : va_W := Hs.1.mapIdx (fun k e => (ad k, hx_ec ad ac b k e (Hs.2.1 k) (Hs.2.2 k)))
theorem hx_ws_at {ad : Nat → Nat} {ac : Nat → ClassId} {b : Nat} {Hs : hx_HS} {k : Nat} {e : hx_SE} (h : hx_nth Hs.1 k = some e) : (hx_ws ad ac b Hs)[k]? = some (ad k, hx_ec ad ac b k e (Hs.2.1 k) (Hs.2.2 k)) := by
  rw [hx_nth_eq] at h
  unfold hx_ws
  rw [List.getElem?_mapIdx, h]
  rfl
theorem hx_ws_len {ad : Nat → Nat} {ac : Nat → ClassId} {b : Nat} {Hs : hx_HS} : (hx_ws ad ac b Hs).length = Hs.1.length := by unfold hx_ws; rw [List.length_mapIdx]
/-- one cell of it changes -/
theorem hx_ws_set {ad : Nat → Nat} {ac : Nat → ClassId} {b : Nat} {Hs H2 : hx_HS} {k : Nat} {e : hx_SE} (hk : hx_nth H2.1 k = some e) (hl : H2.1.length = Hs.1.length) (ho : ∀ j, j ≠ k → hx_nth H2.1 j = hx_nth Hs.1 j ∧ H2.2.1 j = Hs.2.1 j ∧ H2.2.2 j = Hs.2.2 j) :
    hx_ws ad ac b H2 = (hx_ws ad ac b Hs).set k (ad k, hx_ec ad ac b k e (H2.2.1 k) (H2.2.2 k)) := by
  apply List.ext_getElem?
  intro j
  by_cases hj : j = k
  · subst hj
    have hlt : j < (hx_ws ad ac b Hs).length := by
      rw [hx_ws_len, ← hl]
      rw [hx_nth_eq] at hk
      exact (List.getElem?_eq_some_iff.mp hk).1
    rw [hx_ws_at hk, List.getElem?_set_self hlt]
  · rw [List.getElem?_set_ne (Ne.symm hj)]
    obtain ⟨h1, h2, h3⟩ := ho j hj
    rw [hx_nth_eq, hx_nth_eq] at h1
    unfold hx_ws
    rw [List.getElem?_mapIdx, List.getElem?_mapIdx, h1, h2, h3]
theorem hx_up_ne {α : Type} {d : Nat → Nat → α} {k i j : Nat} {x : α} (h : j ≠ k) : hx_up d k i x j = d j := by
  funext a
  unfold hx_up
  rw [if_neg h]
theorem hx_up_eq {α : Type} {d : Nat → Nat → α} {k i : Nat} {x : α} : hx_up d k i x k = fun j => if j = i then x else d k j := by
  funext a
  unfold hx_up
  rw [if_pos rfl]
theorem hx_row_ne {α : Type} {d : Nat → Nat → α} {k j : Nat} {f : Nat → α} (h : j ≠ k) : hx_row d k f j = d j := by
  unfold hx_row
  rw [if_neg h]
theorem hx_row_eq {α : Type} {d : Nat → Nat → α} {k : Nat} {f : Nat → α} : hx_row d k f k = f := by
  unfold hx_row
  rw [if_pos rfl]
theorem hx_cv_cat (ad : Nat → Nat) (b : Nat) (v : Value) : (hx_cv ad b v).category = v.category := by cases v <;> rfl
theorem hx_c2_cat (v : Value) : hx_c2 v = true ↔ v.category = 2 := by cases v <;> simp [hx_c2, Value.category]
theorem hx_c2_no {v : Value} (h : hx_c2 v = false) : v.category = 1 := by cases v <;> first | rfl | cases h
theorem hx_cat_map (ad : Nat → Nat) (b : Nat) (st : List Value) : ((st.map (hx_cv ad b)).map fun v => v.category).sum = hx_cat st := by
  unfold hx_cat
  rw [List.map_map]
  congr 1
  apply List.map_congr_left
  intro v _
  exact hx_cv_cat ad b v
/-- the locals: those that are known -/
def hx_L (ad : Nat → Nat) (b : Nat) (lc : Array Slot) (nL : Nat) (ls : List (Option Value)) : Prop := lc.size = nL ∧ ls.length = nL ∧ lv_wf lc ∧ ∀ (i : Nat) (v : Value), hx_nth ls i = some (some v) → lc[i]? = some (.val (hx_cv ad b v))
def hx_as (ad : Nat → Nat) (b : Nat) : Nat → List (Option Value) → List (Nat × Value)
  | _, [] => []
  | i, none :: l => hx_as ad b (i + 1) l
  | i, some v :: l => (i, hx_cv ad b v) :: hx_as ad b (i + 1) l
theorem hx_as_mem {ad : Nat → Nat} {b : Nat} {q : Nat × Value} : ∀ {ls : List (Option Value)} {i : Nat}, q ∈ hx_as ad b i ls → ∃ (j : Nat) (v : Value), q = (i + j, hx_cv ad b v) ∧ hx_nth ls j = some (some v)
  | [], _, h => by cases h
  | none :: l, i, h => by
    obtain ⟨j, v, h1, h2⟩ := hx_as_mem (ls := l) (i := i + 1) h
    exact ⟨j + 1, v, by rw [h1]; congr 1; omega, h2⟩
  | some v :: l, i, h => by
    rcases List.mem_cons.mp h with h | h
    · exact ⟨0, v, h, rfl⟩
    · obtain ⟨j, w, h1, h2⟩ := hx_as_mem (ls := l) (i := i + 1) h
      exact ⟨j + 1, w, by rw [h1]; congr 1; omega, h2⟩
theorem hx_as_in {ad : Nat → Nat} {b : Nat} {v : Value} : ∀ {ls : List (Option Value)} {i j : Nat}, hx_nth ls j = some (some v) → (i + j, hx_cv ad b v) ∈ hx_as ad b i ls
  | [], _, _, h => by cases h
  | none :: l, i, 0, h => by cases h
  | none :: l, i, j + 1, h => by
    have := hx_as_in (ls := l) (i := i + 1) (j := j) (ad := ad) (b := b) h
    rwa [show i + 1 + j = i + (j + 1) by omega] at this
  | some w :: l, i, 0, h => by
    cases h
    exact List.mem_cons_self
  | some w :: l, i, j + 1, h => by
    have := hx_as_in (ls := l) (i := i + 1) (j := j) (ad := ad) (b := b) h
    rw [show i + 1 + j = i + (j + 1) by omega] at this
    exact List.mem_cons_of_mem _ this
theorem hx_L.has {ad : Nat → Nat} {b : Nat} {lc : Array Slot} {nL : Nat} {ls : List (Option Value)} (h : hx_L ad b lc nL ls) : lv_has lc nL (hx_as ad b 0 ls) := by
  refine ⟨h.1, h.2.2.1, fun q hq => ?_⟩
  obtain ⟨j, v, h1, h2⟩ := hx_as_mem hq
  subst h1
  have := h.2.2.2 j v h2
  rw [Nat.zero_add]
  exact this
theorem hx_nth_set_ne {α : Type} {l : List α} {i j : Nat} {x : α} (h : j ≠ i) : hx_nth (l.set i x) j = hx_nth l j := by
  rw [hx_nth_eq, hx_nth_eq, List.getElem?_set_ne (Ne.symm h)]
theorem hx_nth_set_eq {α : Type} {l : List α} {i : Nat} {x y : α} (h : hx_nth (l.set i x) i = some y) : y = x := by
  rw [hx_nth_eq] at h
  by_cases hl : i < l.length
  · rw [List.getElem?_set_self hl] at h
    exact (Option.some.inj h).symm
  · rw [List.getElem?_eq_none (by rw [List.length_set]; omega)] at h
    cases h
theorem hx_nth_set_self {α : Type} {l : List α} {i : Nat} {x : α} (h : i < l.length) : hx_nth (l.set i x) i = some x := by
  rw [hx_nth_eq, List.getElem?_set_self h]
theorem hx_kill_spec {ls : List (Option Value)} {i j : Nat} {w : Value} (h : hx_nth (hx_kill ls i) j = some (some w)) : hx_nth ls j = some (some w) ∧ ¬ (j + 1 = i ∧ w.category = 2) := by
  unfold hx_kill at h
  cases i with
  | zero => exact ⟨h, by omega⟩
  | succ i =>
    dsimp only at h
    cases hz : hx_nth ls i with
    | none =>
      rw [hz] at h
      refine ⟨h, fun q => ?_⟩
      obtain ⟨q1, q2⟩ := q
      have : j = i := by omega
      subst this
      rw [hz] at h
      cases h
    | some o =>
      rw [hz] at h
      cases o with
      | none =>
        refine ⟨h, fun q => ?_⟩
        obtain ⟨q1, q2⟩ := q
        have : j = i := by omega
        subst this
        rw [hz] at h
        cases h
      | some v =>
        dsimp only at h
        by_cases hc : hx_c2 v = true
        · rw [if_pos hc] at h
          by_cases hj : j = i
          · subst hj
            have := hx_nth_set_eq h
            cases this
          · rw [hx_nth_set_ne hj] at h
            exact ⟨h, by omega⟩
        · rw [if_neg hc] at h
          refine ⟨h, fun q => ?_⟩
          obtain ⟨q1, q2⟩ := q
          have : j = i := by omega
          subst this
          rw [hz] at h
          cases h
          exact hc ((hx_c2_cat _).mpr q2)
theorem hx_kill_len (ls : List (Option Value)) (i : Nat) : (hx_kill ls i).length = ls.length := by
  unfold hx_kill
  split
  · rfl
  · split
    · split
      · rw [List.length_set]
      · rfl
    · rfl
theorem hx_st1_L {ad : Nat → Nat} {b : Nat} {lc : Array Slot} {nL i : Nat} {ls : List (Option Value)} {v : Value} (hn : ls.length = nL) (h : lv_has lc nL ((i, hx_cv ad b v) :: (hx_as ad b 0 ls).filter (fun q => !(q.1 == i) && !(q.1 + 1 == i && q.2.category == 2)))) : hx_L ad b lc nL (hx_st1 ls i (some v)) := by
  refine ⟨h.1, by unfold hx_st1; rw [List.length_set, hx_kill_len, hn], h.2.1, fun j w hw => ?_⟩
  unfold hx_st1 at hw
  by_cases hj : j = i
  · subst hj
    have := hx_nth_set_eq hw
    cases this
    exact h.2.2 (j, hx_cv ad b v) List.mem_cons_self
  · rw [hx_nth_set_ne hj] at hw
    obtain ⟨h1, h2⟩ := hx_kill_spec hw
    have hm := hx_as_in (ad := ad) (b := b) (i := 0) h1
    rw [Nat.zero_add] at hm
    refine h.2.2 (j, hx_cv ad b w) (List.mem_cons_of_mem _ (List.mem_filter.mpr ⟨hm, ?_⟩))
    simp only [Bool.and_eq_true, Bool.not_eq_true', beq_eq_false_iff_ne, ne_eq, Bool.and_eq_false_iff, hx_cv_cat]
    refine ⟨hj, ?_⟩
    by_cases hji : j + 1 = i
    · exact Or.inr (fun q => h2 ⟨hji, q⟩)
    · exact Or.inl hji
theorem hx_st1_none {ad : Nat → Nat} {b : Nat} {lc : Array Slot} {nL i : Nat} {ls : List (Option Value)} {x : Value} (hn : ls.length = nL) (h : lv_has lc nL ((i, x) :: (hx_as ad b 0 ls).filter (fun q => !(q.1 == i) && !(q.1 + 1 == i && q.2.category == 2)))) : hx_L ad b lc nL (hx_st1 ls i none) := by
  refine ⟨h.1, by unfold hx_st1; rw [List.length_set, hx_kill_len, hn], h.2.1, fun j w hw => ?_⟩
  unfold hx_st1 at hw
  by_cases hj : j = i
  · subst hj
    have := hx_nth_set_eq hw
    cases this
  · rw [hx_nth_set_ne hj] at hw
    obtain ⟨h1, h2⟩ := hx_kill_spec hw
    have hm := hx_as_in (ad := ad) (b := b) (i := 0) h1
    rw [Nat.zero_add] at hm
    refine h.2.2 (j, hx_cv ad b w) (List.mem_cons_of_mem _ (List.mem_filter.mpr ⟨hm, ?_⟩))
    simp only [Bool.and_eq_true, Bool.not_eq_true', beq_eq_false_iff_ne, ne_eq, Bool.and_eq_false_iff, hx_cv_cat]
    refine ⟨hj, ?_⟩
    by_cases hji : j + 1 = i
    · exact Or.inr (fun q => h2 ⟨hji, q⟩)
    · exact Or.inl hji
theorem hx_st2_L {ad : Nat → Nat} {b : Nat} {lc : Array Slot} {nL i : Nat} {ls : List (Option Value)} {v : Value} (hn : ls.length = nL) (h : lv_has lc nL ((i, hx_cv ad b v) :: (hx_as ad b 0 ls).filter (fun q => !(q.1 == i) && (!(q.1 == i + 1) && !(q.1 + 1 == i && q.2.category == 2))))) : hx_L ad b lc nL (hx_st2 ls i v) := by
  refine ⟨h.1, by unfold hx_st2; rw [List.length_set, List.length_set, hx_kill_len, hn], h.2.1, fun j w hw => ?_⟩
  unfold hx_st2 at hw
  by_cases hj2 : j = i + 1
  · subst hj2
    have := hx_nth_set_eq hw
    cases this
  · rw [hx_nth_set_ne hj2] at hw
    by_cases hj : j = i
    · subst hj
      have := hx_nth_set_eq hw
      cases this
      exact h.2.2 (j, hx_cv ad b v) List.mem_cons_self
    · rw [hx_nth_set_ne hj] at hw
      obtain ⟨h1, h2⟩ := hx_kill_spec hw
      have hm := hx_as_in (ad := ad) (b := b) (i := 0) h1
      rw [Nat.zero_add] at hm
      refine h.2.2 (j, hx_cv ad b w) (List.mem_cons_of_mem _ (List.mem_filter.mpr ⟨hm, ?_⟩))
      simp only [Bool.and_eq_true, Bool.not_eq_true', beq_eq_false_iff_ne, ne_eq, Bool.and_eq_false_iff, hx_cv_cat]
      refine ⟨hj, hj2, ?_⟩
      by_cases hji : j + 1 = i
      · exact Or.inr (fun q => h2 ⟨hji, q⟩)
      · exact Or.inl hji
end
section
/-! ===== soundness, 2: what the tables must say; a frame's standing facts; the plain instructions ===== -/
def hx_LW : List Cond := lw_tbl.filter goodWord
def hx_R (ci : Nat) : String := match ci with
  | 0 => RX0
  | 1 => RX1
  | 2 => RX2
  | 3 => RX3
  | 4 => RX4
  | 5 => RX5
  | _ => RL
def hx_E (E : Nat) : String := match E with
  | 0 => "java/lang/IllegalArgumentException"
  | 1 => "java/lang/IllegalStateException"
  | _ => "java/lang/IndexOutOfBoundsException"
def hx_En : List String := ["java/lang/RuntimeException", "java/lang/Exception"]
def hx_nests : List (Nat × MethodName) := [(11, yX3_init), (43, yX2_init), (50, yX0_init), (57, yX1_init)]
def hx_ncs : List (String × String) := [(hx_E 0, hx_E 1), (hx_E 0, hx_E 2), (hx_E 1, hx_E 0), (hx_E 1, hx_E 2), (hx_E 2, hx_E 0), (hx_E 2, hx_E 1)]
def hx_wd (w : Jvm.Cond) : Bool := decide (w ∈ lw_tbl) && goodWord w
theorem hx_wd_in {w : Jvm.Cond} (h : hx_wd w = true) : w ∈ hx_LW := by
  unfold hx_wd at h
  rw [Bool.and_eq_true, decide_eq_true_eq] at h
  exact List.mem_filter.mpr h
def hx_il (i : Instr) (v : Value) : Nat := match i with
  | .iload _ => 2
  | .lload _ => 2
  | .fload _ => 2
  | .dload _ => 2
  | .aload _ => 2
  | .istore _ => 2
  | .lstore _ => 2
  | .fstore _ => 2
  | .dstore _ => 2
  | .astore _ => 2
  | .bipush _ => 2
  | .ldc _ => 2
  | .newarray _ => 2
  | .sipush _ => 3
  | .ldc_w _ => 3
  | .ldc2_w _ => 3
  | .ifCond _ _ => 3
  | .if_icmp _ _ => 3
  | .goto _ => 3
  | .iinc _ _ => 3
  | .getfield _ => 3
  | .putfield _ => 3
  | .new _ => 3
  | .anewarray _ => 3
  | .invokevirtual _ => 3
  | .invokestatic _ => 3
  | .invokespecial _ => 3
  | .tableswitch _ _ _ _ => (match v with
    | .retAddr n => n
    | _ => 0)
  | _ => 1
def hx_isd (by_ : ByteArray) (pc : Nat) (i : Instr) (n : Nat) : Bool := match decode by_ pc with
  | .ok q => decide (q = (i, n))
  | _ => false
theorem hx_isd_ok {by_ : ByteArray} {pc : Nat} {i : Instr} {n : Nat} (h : hx_isd by_ pc i n = true) : decode by_ pc = .ok (i, n) := by
  unfold hx_isd at h
  split at h
  · rename_i q hq
    rw [hq]
    rw [decide_eq_true_eq.mp h]
  · cases h
/-! ===== soundness, 2: the links, by their places in the tables ===== -/
def hx_FL : List ((Nat × Nat × Nat × Nat) × Nat) := [((0, 9, 0, 0), 194), ((0, 15, 0, 1), 195), ((0, 18, 0, 2), 196), ((0, 34, 3, 0), 109), ((1, 9, 1, 0), 211), ((1, 15, 1, 1), 212), ((1, 18, 1, 2), 213), ((1, 22, 1, 3), 215), ((1, 25, 1, 4), 216), ((1, 28, 3, 7), 126), ((1, 33, 3, 0), 108), ((1, 36, 3, 4), 118), ((1, 39, 3, 5), 121), ((1, 41, 3, 2), 113), ((2, 9, 2, 0), 153), ((2, 15, 2, 1), 155), ((2, 18, 2, 2), 157), ((2, 22, 2, 3), 159), ((2, 25, 2, 4), 161), ((2, 28, 2, 5), 163), ((2, 31, 2, 6), 164), ((2, 34, 2, 7), 165), ((2, 38, 2, 8), 166), ((3, 9, 3, 0), 106), ((3, 15, 3, 1), 110), ((3, 18, 3, 2), 112), ((3, 22, 3, 3), 115), ((3, 25, 3, 4), 117), ((3, 28, 3, 5), 120), ((3, 31, 3, 6), 123), ((3, 34, 3, 7), 125), ((4, 12, 4, 0), 228), ((4, 16, 4, 1), 229), ((4, 20, 4, 2), 230), ((4, 24, 4, 3), 231), ((4, 27, 4, 4), 232), ((4, 30, 4, 5), 233), ((4, 34, 4, 6), 234), ((4, 38, 4, 7), 235), ((4, 44, 4, 8), 236), ((4, 51, 4, 9), 237), ((4, 58, 4, 10), 238), ((4, 62, 4, 11), 239), ((4, 73, 3, 0), 107), ((4, 106, 3, 4), 119), ((4, 126, 3, 6), 124), ((4, 135, 3, 1), 111), ((4, 146, 0, 2), 197), ((4, 152, 3, 7), 127), ((4, 169, 2, 0), 154), ((4, 263, 3, 2), 114), ((4, 276, 3, 3), 116), ((4, 292, 2, 1), 156), ((4, 295, 2, 2), 158), ((4, 296, 2, 4), 162), ((4, 299, 3, 5), 122), ((4, 300, 2, 3), 160), ((4, 313, 1, 2), 214), ((5, 7, 5, 1), 859), ((5, 13, 5, 2), 860), ((5, 16, 5, 3), 861), ((5, 19, 5, 5), 863), ((5, 22, 5, 7), 865), ((5, 25, 5, 9), 867), ((5, 28, 5, 11), 869), ((5, 31, 5, 12), 870), ((5, 34, 5, 15), 873), ((5, 37, 5, 0), 858), ((5, 45, 5, 4), 862), ((5, 74, 5, 10), 868), ((5, 124, 5, 8), 866), ((5, 127, 5, 14), 872), ((5, 131, 5, 13), 871), ((5, 160, 5, 6), 864), ((5, 220, 5, 16), 874)]
def hx_ML : List ((Nat × Nat × Nat) × Nat) := [((0, 21, 3), 442), ((0, 25, 47), 443), ((0, 31, 4), 284), ((0, 38, 8), 448), ((0, 42, 5), 295), ((0, 46, 6), 299), ((0, 50, 46), 288), ((0, 54, 7), 303), ((1, 44, 12), 392), ((1, 48, 14), 388), ((1, 52, 15), 458), ((1, 55, 13), 396), ((2, 41, 21), 329), ((2, 44, 25), 337), ((2, 48, 26), 344), ((2, 51, 27), 348), ((2, 54, 28), 356), ((2, 57, 30), 360), ((2, 61, 32), 341), ((2, 65, 29), 352), ((2, 69, 31), 364), ((2, 72, 24), 368), ((3, 43, 37), 694), ((3, 47, 43), 474), ((3, 51, 44), 434), ((3, 59, 46), 312), ((3, 63, 48), 486), ((4, 81, 85), 269), ((4, 84, 35), 612), ((4, 88, 80), 624), ((4, 94, 84), 645), ((4, 98, 81), 665), ((4, 102, 39), 670), ((4, 111, 41), 675), ((4, 114, 40), 679), ((4, 117, 36), 690), ((4, 122, 38), 492), ((4, 138, 47), 308), ((4, 142, 3), 280), ((4, 147, 82), 712), ((4, 159, 86), 321), ((4, 163, 23), 733), ((4, 174, 87), 739), ((4, 177, 83), 755), ((4, 180, 34), 273), ((4, 189, 42), 470), ((4, 197, 46), 806), ((4, 204, 90), 405), ((4, 208, 11), 500), ((4, 211, 89), 426), ((4, 214, 48), 478), ((4, 217, 49), 482), ((4, 220, 91), 488), ((4, 223, 92), 376), ((4, 226, 18), 409), ((4, 230, 93), 417), ((4, 236, 94), 462), ((4, 240, 95), 466), ((4, 244, 96), 496), ((4, 247, 98), 504), ((4, 251, 99), 509), ((4, 255, 97), 515), ((4, 279, 20), 325), ((4, 282, 22), 333), ((4, 286, 24), 743), ((4, 289, 88), 744), ((4, 303, 45), 430), ((4, 306, 1), 438), ((4, 310, 2), 444), ((4, 315, 16), 384), ((4, 318, 17), 454), ((4, 321, 10), 380), ((5, 41, 102), 918), ((5, 48, 105), 933), ((5, 52, 109), 996), ((5, 56, 110), 992), ((5, 59, 112), 980), ((5, 62, 115), 1011), ((5, 66, 114), 1007), ((5, 70, 118), 964), ((5, 77, 121), 1115), ((5, 80, 122), 1119), ((5, 84, 120), 1111), ((5, 87, 123), 1123), ((5, 90, 103), 921), ((5, 93, 106), 925), ((5, 96, 125), 929), ((5, 99, 104), 940), ((5, 102, 127), 944), ((5, 105, 119), 968), ((5, 108, 130), 956), ((5, 111, 131), 960), ((5, 114, 117), 976), ((5, 118, 111), 988), ((5, 121, 116), 1003), ((5, 134, 139), 1044), ((5, 137, 141), 1048), ((5, 140, 140), 1051), ((5, 143, 142), 1040), ((5, 146, 143), 1055), ((5, 150, 144), 1059), ((5, 153, 145), 1036), ((5, 156, 146), 1032), ((5, 163, 113), 1087), ((5, 166, 152), 1083), ((5, 169, 157), 1107), ((5, 172, 159), 1135), ((5, 175, 124), 1139), ((5, 178, 160), 1131), ((5, 181, 163), 1151), ((5, 184, 165), 1159), ((5, 187, 107), 1171), ((5, 190, 108), 1175), ((5, 193, 167), 1167), ((5, 196, 169), 1183), ((5, 199, 171), 1191), ((5, 203, 173), 1199), ((5, 224, 177), 1208), ((5, 230, 178), 1213), ((5, 233, 175), 1217), ((5, 237, 176), 1223), ((6, 7, 51), 524), ((6, 17, 52), 620), ((6, 23, 53), 654), ((6, 27, 54), 661), ((6, 31, 55), 686), ((6, 34, 56), 700), ((6, 37, 58), 708), ((6, 40, 59), 720), ((6, 43, 62), 729), ((6, 47, 63), 751), ((6, 50, 64), 762), ((6, 53, 65), 770), ((6, 56, 66), 778), ((6, 59, 67), 786), ((6, 62, 68), 793), ((6, 65, 69), 801), ((6, 68, 70), 810), ((6, 71, 71), 819), ((6, 74, 72), 827), ((6, 77, 73), 834), ((6, 80, 74), 841), ((6, 83, 75), 848), ((6, 86, 50), 94), ((6, 89, 100), 854), ((6, 90, 180), 519), ((6, 95, 126), 914), ((6, 96, 101), 910), ((6, 99, 181), 616), ((6, 102, 128), 936), ((6, 103, 182), 651), ((6, 106, 129), 948), ((6, 107, 183), 658), ((6, 110, 132), 952), ((6, 111, 184), 683), ((6, 113, 133), 972), ((6, 114, 185), 697), ((6, 116, 134), 984), ((6, 117, 57), 265), ((6, 120, 135), 999), ((6, 121, 186), 705), ((6, 123, 136), 1016), ((6, 124, 187), 717), ((6, 126, 137), 1020), ((6, 127, 60), 313), ((6, 130, 138), 1024), ((6, 131, 61), 317), ((6, 134, 147), 1028), ((6, 135, 188), 726), ((6, 138, 148), 1063), ((6, 139, 189), 748), ((6, 141, 149), 1067), ((6, 142, 190), 759), ((6, 144, 150), 1071), ((6, 145, 191), 767), ((6, 147, 151), 1075), ((6, 148, 192), 775), ((6, 150, 153), 1079), ((6, 151, 193), 783), ((6, 153, 154), 1091), ((6, 154, 194), 790), ((6, 156, 155), 1095), ((6, 157, 195), 798), ((6, 159, 156), 1099), ((6, 160, 196), 807), ((6, 162, 158), 1103), ((6, 163, 197), 816), ((6, 165, 161), 1127), ((6, 166, 198), 824), ((6, 168, 162), 1143), ((6, 169, 199), 831), ((6, 171, 164), 1147), ((6, 172, 200), 838), ((6, 174, 166), 1155), ((6, 175, 201), 845), ((6, 177, 168), 1163), ((6, 178, 76), 372), ((6, 181, 170), 1179), ((6, 182, 77), 401), ((6, 186, 172), 1187), ((6, 187, 78), 413), ((6, 191, 174), 1195), ((6, 192, 79), 421), ((6, 196, 179), 1203)]
def hx_KL : List ((Nat × Nat × Value) × Nat) := [((4, 234, .long (3541)), 425), ((4, 325, .long (31)), 465), ((4, 327, .int (-2147483648)), 507), ((4, 328, .float (1258291200)), 508), ((4, 329, .long (1023)), 512), ((4, 331, .double (4611686018427387904)), 513), ((4, 333, .double (4841369599423283200)), 514), ((5, 65, .int (1000000)), 1015), ((5, 207, .int (8388608)), 1220), ((5, 208, .float (1258291200)), 1221), ((5, 209, .int (-2147483648)), 1222), ((5, 210, .long (1023)), 1226), ((5, 212, .double (4611686018427387904)), 1227), ((5, 214, .long (4503599627370496)), 1228), ((5, 216, .double (4841369599423283200)), 1229), ((5, 218, .long (31)), 1212), ((5, 228, .long (3541)), 1207)]
def hx_NL : List ((Nat × Nat × Nat) × Nat) := [((4, 9, 3), 1), ((4, 41, 2), 1), ((4, 48, 0), 1), ((4, 55, 1), 1), ((6, 8, 4), 1), ((6, 87, 5), 1)]
def hx_SL : List ((Nat × Nat × Nat) × Nat) := [((0, 3, 0), 193), ((0, 57, 2), 451), ((1, 3, 0), 210), ((1, 58, 1), 400), ((2, 3, 0), 152), ((3, 3, 0), 105), ((3, 37, 3), 277), ((3, 54, 1), 292), ((3, 66, 2), 487), ((4, 3, 0), 97), ((4, 129, 3), 307), ((5, 1, 0), 857)]
def hx_XL : List ((Nat × Nat × Nat × Nat) × Nat) := [((4, 66, 0, 70), 1), ((4, 76, 1, 80), 1), ((4, 258, 2, 262), 1)]
def hx_CL : List ((Nat × Nat × Nat) × Nat) := [((6, 13, 0), 1), ((6, 15, 1), 1), ((6, 21, 2), 1)]
def hx_mp : List (Nat × Nat × Nat × Nat) := [(192, 191, 0, 81), (441, 439, 440, 81), (447, 445, 446, 81), (283, 281, 282, 81), (287, 286, 1, 81), (298, 297, 2, 81), (302, 301, 3, 81), (306, 305, 4, 81), (450, 449, 0, 81), (209, 208, 0, 82), (383, 381, 382, 82), (503, 501, 502, 82), (395, 394, 16, 82), (399, 398, 17, 82), (391, 390, 15, 82), (461, 460, 22, 82), (387, 385, 386, 82), (457, 455, 456, 82), (412, 410, 411, 82), (151, 150, 0, 80), (328, 326, 327, 80), (332, 331, 6, 80), (336, 334, 335, 80), (736, 734, 735, 80), (371, 369, 370, 80), (340, 339, 7, 80), (347, 346, 8, 80), (351, 350, 9, 80), (359, 358, 11, 80), (355, 354, 10, 80), (363, 362, 12, 80), (367, 366, 13, 80), (343, 342, 0, 80), (104, 103, 0, 79), (276, 274, 275, 79), (615, 613, 614, 79), (693, 691, 692, 79), (696, 695, 0, 79), (495, 493, 494, 79), (673, 671, 672, 79), (682, 680, 681, 79), (678, 676, 677, 79), (473, 471, 472, 79), (477, 476, 24, 79), (437, 436, 21, 79), (433, 431, 432, 79), (291, 289, 290, 79), (311, 309, 310, 79), (481, 479, 480, 79), (485, 483, 484, 79), (96, 95, 0, 78), (527, 525, 526, 78), (623, 621, 622, 78), (657, 655, 656, 78), (664, 662, 663, 78), (689, 687, 688, 78), (703, 701, 702, 78), (268, 266, 267, 78), (711, 709, 710, 78), (723, 721, 722, 78), (316, 314, 315, 78), (320, 318, 319, 78), (732, 730, 731, 78), (754, 752, 753, 78), (765, 763, 764, 78), (773, 771, 772, 78), (781, 779, 780, 78), (789, 787, 788, 78), (796, 794, 795, 78), (804, 802, 803, 78), (813, 811, 812, 78), (822, 820, 821, 78), (830, 828, 829, 78), (837, 835, 836, 78), (844, 842, 843, 78), (851, 849, 850, 78), (375, 373, 374, 78), (404, 402, 403, 78), (416, 414, 415, 78), (424, 422, 423, 78), (627, 626, 29, 78), (668, 667, 31, 78), (714, 713, 0, 78), (757, 756, 0, 78), (648, 647, 30, 78), (272, 271, 0, 78), (324, 323, 5, 78), (742, 741, 32, 78), (747, 746, 33, 78), (429, 428, 20, 78), (408, 407, 18, 78), (491, 490, 25, 78), (379, 378, 14, 78), (420, 419, 19, 78), (464, 463, 0, 78), (469, 468, 23, 78), (499, 498, 26, 78), (518, 517, 27, 78), (506, 505, 0, 78), (511, 510, 0, 78), (856, 855, 0, 83), (913, 911, 912, 83), (920, 919, 0, 83), (924, 923, 34, 83), (943, 942, 37, 83), (935, 934, 0, 83), (928, 927, 35, 83), (1174, 1173, 70, 83), (1178, 1177, 71, 83), (998, 997, 0, 83), (995, 994, 46, 83), (991, 990, 45, 83), (983, 982, 44, 83), (1090, 1089, 58, 83), (1010, 1009, 48, 83), (1014, 1013, 49, 83), (1006, 1005, 47, 83), (979, 978, 43, 83), (967, 966, 41, 83), (971, 970, 42, 83), (1114, 1113, 60, 83), (1118, 1117, 61, 83), (1122, 1121, 62, 83), (1126, 1125, 63, 83), (1142, 1141, 66, 83), (932, 931, 36, 83), (917, 915, 916, 83), (947, 946, 38, 83), (939, 937, 938, 83), (951, 949, 950, 83), (959, 958, 39, 83), (963, 962, 40, 83), (955, 953, 954, 83), (975, 973, 974, 83), (987, 985, 986, 83), (1002, 1000, 1001, 83), (1019, 1017, 1018, 83), (1023, 1021, 1022, 83), (1027, 1025, 1026, 83), (1047, 1046, 53, 83), (1054, 1053, 54, 83), (1050, 1049, 0, 83), (1043, 1042, 52, 83), (1058, 1057, 55, 83), (1062, 1061, 56, 83), (1039, 1038, 51, 83), (1035, 1034, 50, 83), (1031, 1029, 1030, 83), (1066, 1064, 1065, 83), (1070, 1068, 1069, 83), (1074, 1072, 1073, 83), (1078, 1076, 1077, 83), (1086, 1085, 57, 83), (1082, 1080, 1081, 83), (1094, 1092, 1093, 83), (1098, 1096, 1097, 83), (1102, 1100, 1101, 83), (1110, 1109, 59, 83), (1106, 1104, 1105, 83), (1138, 1137, 65, 83), (1134, 1133, 64, 83), (1130, 1128, 1129, 83), (1146, 1144, 1145, 83), (1154, 1153, 67, 83), (1150, 1148, 1149, 83), (1162, 1161, 68, 83), (1158, 1156, 1157, 83), (1170, 1169, 69, 83), (1166, 1164, 1165, 83), (1186, 1185, 72, 83), (1182, 1180, 1181, 83), (1194, 1193, 73, 83), (1190, 1188, 1189, 83), (1202, 1201, 74, 83), (1198, 1196, 1197, 83), (1219, 1218, 0, 83), (1225, 1224, 0, 83), (1211, 1210, 75, 83), (1216, 1215, 76, 83), (1206, 1204, 1205, 83), (521, 520, 0, 77), (618, 617, 0, 77), (653, 652, 0, 77), (660, 659, 0, 77), (685, 684, 0, 77), (699, 698, 0, 77), (707, 706, 0, 77), (719, 718, 0, 77), (728, 727, 0, 77), (750, 749, 0, 77), (761, 760, 0, 77), (769, 768, 0, 77), (777, 776, 0, 77), (785, 784, 0, 77), (792, 791, 0, 77), (800, 799, 0, 77), (809, 808, 0, 77), (818, 817, 0, 77), (826, 825, 0, 77), (833, 832, 0, 77), (840, 839, 0, 77), (847, 846, 0, 77), (0, 0, 0, 0)]
/-- the word at a place of the tables -/
def hx_wi (i : Nat) (w : Jvm.Cond) : Bool := (match hx_nth lw_tbl i with
  | some x => decide (x = w)
  | none => false) && goodWord w
theorem hx_wi_in {i : Nat} {w : Jvm.Cond} (h : hx_wi i w = true) : w ∈ hx_LW := by
  unfold hx_wi at h
  rw [Bool.and_eq_true] at h
  obtain ⟨h1, h2⟩ := h
  split at h1
  · rename_i x hx
    rw [hx_nth_eq] at hx
    have e := decide_eq_true_eq.mp h1
    subst e
    exact List.mem_filter.mpr ⟨List.mem_of_getElem? hx, h2⟩
  · cases h1
def hx_has {α : Type} [DecidableEq α] (l : List (α × Nat)) (q : α) : Bool := l.any fun r => decide (r.1 = q)
theorem hx_has_in {α : Type} [DecidableEq α] {l : List (α × Nat)} {q : α} (h : hx_has l q = true) : ∃ i, (q, i) ∈ l := by
  obtain ⟨r, h1, h2⟩ := List.any_eq_true.mp h
  have e := decide_eq_true_eq.mp h2
  subst e
  exact ⟨r.2, h1⟩
def hx_lk (k pc : Nat) (ce : hx_CE) : Bool := match ce with
  | (ins, a, bb, v, tg) => match ins with
    | .iconst n => decide (v = .int (Int32.ofInt n))
    | .bipush n => decide (v = .int (Int8.ofInt n).toInt32)
    | .sipush n => decide (v = .int (Int16.ofInt n).toInt32)
    | .lconst n => decide (v = .long (Int64.ofNat n.val))
    | .fconst n => (match n with
      | 0 => decide (v = .float FP.fconst0)
      | 1 => decide (v = .float FP.fconst1)
      | 2 => decide (v = .float FP.fconst2))
    | .dconst n => (match n with
      | 0 => decide (v = .double FP.dconst0)
      | 1 => decide (v = .double FP.dconst1))
    | .ldc i => hx_has hx_KL (hx_own k, i, v) && !hx_c2 v
    | .ldc_w i => hx_has hx_KL (hx_own k, i, v) && !hx_c2 v
    | .ldc2_w i => hx_has hx_KL (hx_own k, i, v) && hx_c2 v
    | .ifCond _ o => decide ((pc : Int) + o = (a : Int))
    | .if_icmp _ o => decide ((pc : Int) + o = (a : Int))
    | .goto o => decide ((pc : Int) + o = (a : Int))
    | .tableswitch df _ _ os => decide ((pc : Int) + df = (a : Int)) && decide (os.toList.map (fun o => (pc : Int) + o) = tg.map Int.ofNat)
    | .getfield i => hx_has hx_FL (hx_own k, i, a, bb)
    | .putfield i => hx_has hx_FL (hx_own k, i, a, bb) && (match hx_nth vwCl a with
      | some (_, T, _) => decide ((T bb).2.2.2 = false) || (decide ((hx_y k).name = "<init>") && decide (hx_own k = a))
      | none => false)
    | .new i => (match tg with
      | [] => hx_has hx_NL (hx_own k, i, a)
      | [si, ic, ln] => hx_has hx_XL (hx_own k, i, a, ic) &&
          (match hx_nth hx_strs bb with
            | some q => decide (q.1 = hx_R (hx_own k) ∧ q.2.1 = si)
            | none => false) && decide (hx_hh k = []) &&
          hx_isd (hx_by k) (pc + 3) .dup 1 && hx_isd (hx_by k) (pc + 4 + ln) (.invokespecial ic) 3 && hx_isd (hx_by k) (pc + 7 + ln) .athrow 1 && (if ln = 2 then hx_isd (hx_by k) (pc + 4) (.ldc si) 2 else decide (ln = 3) && hx_isd (hx_by k) (pc + 4) (.ldc_w si) 3)
      | _ => false)
    | .newarray t => decide (t = .int ∨ t = .boolean ∨ t = .char ∨ t = .long)
    | .anewarray i => hx_has hx_NL (hx_own k, i, 3)
    | .invokevirtual i => (match tg with
      | [ci] => decide (a < 202) && decide (hx_own a = ci) && decide (ci < 6) && decide (bb = hx_np a + 1) && hx_has hx_ML (hx_own k, i, a) && decide (hx_stat a = false) && decide ((hx_y a).name ≠ "<init>") && decide (hx_hh a = []) && (hx_hh k).all (fun h => decide (h.1 ≤ pc) && decide (pc < h.2.1))
      | _ => false)
    | .invokestatic i => (match tg with
      | [] => decide (a < 202) && decide (bb = hx_np a) && hx_has hx_ML (hx_own k, i, a) && hx_stat a && decide (hx_hh k = [])
      | [z] => hx_has hx_SL (hx_own k, i, z)
      | _ => false)
    | .invokespecial i => (match tg with
      | [ci] => decide (a < 202) && decide (hx_own a = ci) && decide (ci < 6) && decide (bb = hx_np a + 1) && decide ((hx_y a).name = "<init>") && decide (hx_rt a = none) && decide (hx_stat a = false) && decide (hx_hh a = []) && decide (hx_hh k = []) &&
          (match v with
            | .long _ => decide ((i, hx_y a) ∈ hx_nests) && decide (hx_own k = 4)
            | _ => hx_has hx_ML (hx_own k, i, a))
      | [_, _] => hx_has hx_SL (hx_own k, i, 0)
      | _ => false)
    | _ => true
def hx_ck (k : Nat) (q : Nat × hx_CE) : Bool := hx_isd (hx_by k) q.1 q.2.1 (hx_il q.2.1 q.2.2.2.2.1) && hx_lk k q.1 q.2
def hx_chk (k : Nat) : Bool := match hx_nth hx_cds k with
  | some l => l.all (hx_ck k)
  | none => true
def hx_cw (k : Nat) : Jvm.Cond := match hx_hh k with
  | [] => .code (hx_y k) (hx_by k) (hx_ml k) (hx_rt k)
  | h :: t => .codeWith (hx_y k) (hx_by k) (hx_ml k) (hx_rt k) (h :: t)
/-- a catch row beside the table's row -/
def hx_hk (k : Nat) : List (Nat × Nat × Nat × Nat) → List (Nat × Nat × Nat × Nat) → Bool
  | [], [] => true
  | h :: hs, q :: qs => decide (h.2.2.1 = q.2.1) && decide (q.1 < 3) && decide (h.2.2.2 ≠ 0) && hx_has hx_CL (hx_own k, h.2.2.2, q.1) &&
      (if q.2.2.2 = q.2.1 + 1 then (match decode (hx_by k) q.2.1 with
        | .ok (.astore_n j, 1) => decide (j.val = q.2.2.1)
        | _ => false) else decide (q.2.2.2 = q.2.1 + 2) && hx_isd (hx_by k) q.2.1 (.astore q.2.2.1) 2) && hx_hk k hs qs
  | _, _ => false
def hx_mok (k : Nat) : Bool := match hx_nth hx_mp k with
  | none => false
  | some (cp, sp, ep, ip) => hx_wi cp (hx_cw k) && (if hx_stat k then hx_wi sp (.static (hx_y k)) else hx_wi sp (.instanceMethod (hx_y k)) && (decide ((hx_y k).name = "<init>") || hx_wi ep (.selects (hx_y k).cls (hx_y k) (hx_y k)))) && hx_wi ip (.initialized (hx_y k).cls) &&
    plainName (hx_y k).cls && decide ((hx_y k).cls = hx_R (hx_own k)) && decide ((hx_y k).cls ≠ "java/lang/invoke/MethodHandle") && decide ((hx_y k).cls ≠ "java/lang/invoke/VarHandle") &&
    decide ((parseMethodDescriptor (hx_y k).desc).map (fun d => d.parameters.length) = some (hx_np k)) && decide (hx_ml k ≤ 40) && hx_hk k (hx_hh k) (hx_ct k)
def hx_xw : List Jvm.Cond := [.castable (hx_E 0) (hx_E 0), .castable (hx_E 1) (hx_E 1), .castable (hx_E 2) (hx_E 2), .declares ⟨"java/lang/RuntimeException", "<init>", "()V"⟩, .declares ⟨"java/lang/RuntimeException", "<init>", "(Ljava/lang/String;)V"⟩, .declares ⟨"java/lang/Exception", "<init>", "()V"⟩, .declares ⟨"java/lang/Exception", "<init>", "(Ljava/lang/String;)V"⟩, .declares ⟨"java/lang/Throwable", "<init>", "()V"⟩, .declares ⟨"java/lang/Throwable", "<init>", "(Ljava/lang/String;)V"⟩]
def hx_flok (q : (Nat × Nat × Nat × Nat) × Nat) : Bool := match hx_nth vwCl q.1.2.2.1 with
  | some (C, T, N) => decide (q.1.2.2.1 < 6) && decide (q.1.2.2.2 < N) && decide ((T q.1.2.2.2).1 = C) && hx_wi q.2 (.fieldLink (hx_R q.1.1) q.1.2.1 C (T q.1.2.2.2).2.1 (T q.1.2.2.2).2.2.1)
  | none => false
def hx_klok (q : (Nat × Nat × Value) × Nat) : Bool := match q.1.2.2 with
  | .int x => hx_wi q.2 (.constant (hx_R q.1.1) q.1.2.1 x)
  | .long x => hx_wi q.2 (.constantLong (hx_R q.1.1) q.1.2.1 x)
  | .float x => hx_wi q.2 (.constantFloat (hx_R q.1.1) q.1.2.1 x)
  | .double x => hx_wi q.2 (.constantDouble (hx_R q.1.1) q.1.2.1 x)
  | _ => false
def hx_nlok (q : (Nat × Nat × Nat) × Nat) : Bool := match hx_nth vwCl q.1.2.2 with
  | some (C, _, N) => decide (q.1.2.2 < 6) && hx_wd (.classLink (hx_R q.1.1) q.1.2.1 C) && hx_wd (.instantiable C N) && hx_wd (.initialized C)
  | none => false
def hx_slok (q : (Nat × Nat × Nat) × Nat) : Bool := match q.1.2.2 with
  | 0 => hx_wi q.2 (.methodLink (hx_R q.1.1) q.1.2.1 Lib.objectInit)
  | 1 => hx_wi q.2 (.methodLink (hx_R q.1.1) q.1.2.1 Lib.Math.abs.name)
  | 2 => hx_wi q.2 (.methodLink (hx_R q.1.1) q.1.2.1 Lib.Math.min.name)
  | 3 => hx_wi q.2 (.methodLink (hx_R q.1.1) q.1.2.1 arraycopyName)
  | _ => false
def hx_xlok (q : (Nat × Nat × Nat × Nat) × Nat) : Bool := decide (q.1.2.2.1 < 3) && hx_wd (.classLink (hx_R q.1.1) q.1.2.1 (hx_E q.1.2.2.1)) && hx_wd (.initialized (hx_E q.1.2.2.1)) && (vx_atS (hx_R q.1.1) q.1.2.2.2 (hx_E q.1.2.2.1) hx_En).all (fun w => hx_wd w || (decide (w ∈ hx_xw) && w.onTables))
def hx_clok (q : (Nat × Nat × Nat) × Nat) : Bool := hx_wd (.classLink (hx_R q.1.1) q.1.2.1 (hx_E q.1.2.2))
theorem hx_FL_ok : ∀ q ∈ hx_FL, hx_flok q = true := by decide +kernel
theorem hx_KL_ok : ∀ q ∈ hx_KL, hx_klok q = true := by decide +kernel
theorem hx_NL_ok : ∀ q ∈ hx_NL, hx_nlok q = true := by decide +kernel
theorem hx_SL_ok : ∀ q ∈ hx_SL, hx_slok q = true := by decide +kernel
theorem hx_XL_ok : ∀ q ∈ hx_XL, hx_xlok q = true := by decide +kernel
theorem hx_CL_ok : ∀ q ∈ hx_CL, hx_clok q = true := by decide +kernel
theorem hx_ML_ok : ∀ q ∈ hx_ML, hx_wi q.2 (.methodLink (hx_R q.1.1) q.1.2.1 (hx_y q.1.2.2)) = true := by decide +kernel
theorem hx_w_abs : hx_wd (.static Lib.Math.abs.name) = true ∧ hx_wd (.initialized "java/lang/Math") = true ∧ hx_wd (.code Lib.Math.abs.name Lib.Math.abs.code 1 (some .int)) = true := by decide +kernel
theorem hx_w_min : hx_wd (.static Lib.Math.min.name) = true ∧ hx_wd (.code Lib.Math.min.name Lib.Math.min.code 2 (some .int)) = true := by decide +kernel
theorem hx_w_copy : hx_wd (.native arraycopyName) = true ∧ hx_wd (.static arraycopyName) = true ∧ hx_wd (.initialized "java/lang/System") = true := by decide +kernel
theorem hx_w_obj : hx_wd (.instanceMethod Lib.objectInit) = true ∧ hx_wd (.code Lib.objectInit ⟨#[0xb1]⟩ 1 none) = true := by decide +kernel
theorem hx_w_arr : hx_wd (.arrayClass .int) = true ∧ hx_wd (.arrayClass .boolean) = true ∧ hx_wd (.arrayClass .char) = true ∧ hx_wd (.arrayClass .long) = true := by decide +kernel
end
section
/-! ===== the tables hold ===== -/
theorem hx_kl0 : ((cd_202.drop 0).take 70).all (hx_ck 202) = true := by decide +kernel
theorem hx_kl70 : ((cd_202.drop 70).take 70).all (hx_ck 202) = true := by decide +kernel
theorem hx_kl140 : ((cd_202.drop 140).take 70).all (hx_ck 202) = true := by decide +kernel
theorem hx_kl210 : ((cd_202.drop 210).take 70).all (hx_ck 202) = true := by decide +kernel
theorem hx_kl280 : ((cd_202.drop 280).take 70).all (hx_ck 202) = true := by decide +kernel
theorem hx_kl350 : ((cd_202.drop 350).take 70).all (hx_ck 202) = true := by decide +kernel
theorem hx_kl420 : ((cd_202.drop 420).take 70).all (hx_ck 202) = true := by decide +kernel
theorem hx_kl490 : ((cd_202.drop 490).take 70).all (hx_ck 202) = true := by decide +kernel
theorem hx_kl560 : ((cd_202.drop 560).take 70).all (hx_ck 202) = true := by decide +kernel
theorem hx_kl630 : ((cd_202.drop 630).take 70).all (hx_ck 202) = true := by decide +kernel
theorem hx_kl700 : ((cd_202.drop 700).take 70).all (hx_ck 202) = true := by decide +kernel
theorem hx_kl770 : ((cd_202.drop 770).take 70).all (hx_ck 202) = true := by decide +kernel
theorem hx_kl840 : ((cd_202.drop 840).take 70).all (hx_ck 202) = true := by decide +kernel
theorem hx_kl910 : ((cd_202.drop 910).take 70).all (hx_ck 202) = true := by decide +kernel
theorem hx_all_cut {α : Type} (f : α → Bool) (l : List α) (n m : Nat) (h1 : ((l.drop n).take m).all f = true) (h2 : (l.drop (n + m)).all f = true) : (l.drop n).all f = true := by
  rw [← List.take_append_drop m (l.drop n), List.all_append, h1, List.drop_drop, h2]
  rfl
theorem hx_kc202 : hx_chk 202 = true := by
  show cd_202.all (hx_ck 202) = true
  have h980 : (cd_202.drop 980).all (hx_ck 202) = true := by decide +kernel
  have h910 := hx_all_cut (hx_ck 202) cd_202 910 70 hx_kl910 h980
  have h840 := hx_all_cut (hx_ck 202) cd_202 840 70 hx_kl840 h910
  have h770 := hx_all_cut (hx_ck 202) cd_202 770 70 hx_kl770 h840
  have h700 := hx_all_cut (hx_ck 202) cd_202 700 70 hx_kl700 h770
  have h630 := hx_all_cut (hx_ck 202) cd_202 630 70 hx_kl630 h700
  have h560 := hx_all_cut (hx_ck 202) cd_202 560 70 hx_kl560 h630
  have h490 := hx_all_cut (hx_ck 202) cd_202 490 70 hx_kl490 h560
  have h420 := hx_all_cut (hx_ck 202) cd_202 420 70 hx_kl420 h490
  have h350 := hx_all_cut (hx_ck 202) cd_202 350 70 hx_kl350 h420
  have h280 := hx_all_cut (hx_ck 202) cd_202 280 70 hx_kl280 h350
  have h210 := hx_all_cut (hx_ck 202) cd_202 210 70 hx_kl210 h280
  have h140 := hx_all_cut (hx_ck 202) cd_202 140 70 hx_kl140 h210
  have h70 := hx_all_cut (hx_ck 202) cd_202 70 70 hx_kl70 h140
  have h0 := hx_all_cut (hx_ck 202) cd_202 0 70 hx_kl0 h70
  exact h0
theorem hx_kc0 : ∀ k ∈ (List.range 10).map (· + 0), hx_chk k = true := by decide +kernel
theorem hx_kc10 : ∀ k ∈ (List.range 10).map (· + 10), hx_chk k = true := by decide +kernel
theorem hx_kc20 : ∀ k ∈ (List.range 10).map (· + 20), hx_chk k = true := by decide +kernel
theorem hx_kc30 : ∀ k ∈ (List.range 10).map (· + 30), hx_chk k = true := by decide +kernel
theorem hx_kc40 : ∀ k ∈ (List.range 10).map (· + 40), hx_chk k = true := by decide +kernel
theorem hx_kc50 : ∀ k ∈ (List.range 10).map (· + 50), hx_chk k = true := by decide +kernel
theorem hx_kc60 : ∀ k ∈ (List.range 10).map (· + 60), hx_chk k = true := by decide +kernel
theorem hx_kc70 : ∀ k ∈ (List.range 10).map (· + 70), hx_chk k = true := by decide +kernel
theorem hx_kc80 : ∀ k ∈ (List.range 10).map (· + 80), hx_chk k = true := by decide +kernel
theorem hx_kc90 : ∀ k ∈ (List.range 10).map (· + 90), hx_chk k = true := by decide +kernel
theorem hx_kc100 : ∀ k ∈ (List.range 10).map (· + 100), hx_chk k = true := by decide +kernel
theorem hx_kc110 : ∀ k ∈ (List.range 10).map (· + 110), hx_chk k = true := by decide +kernel
theorem hx_kc120 : ∀ k ∈ (List.range 10).map (· + 120), hx_chk k = true := by decide +kernel
theorem hx_kc130 : ∀ k ∈ (List.range 10).map (· + 130), hx_chk k = true := by decide +kernel
theorem hx_kc140 : ∀ k ∈ (List.range 10).map (· + 140), hx_chk k = true := by decide +kernel
theorem hx_kc150 : ∀ k ∈ (List.range 10).map (· + 150), hx_chk k = true := by decide +kernel
theorem hx_kc160 : ∀ k ∈ (List.range 10).map (· + 160), hx_chk k = true := by decide +kernel
theorem hx_kc170 : ∀ k ∈ (List.range 10).map (· + 170), hx_chk k = true := by decide +kernel
theorem hx_kc180 : ∀ k ∈ (List.range 10).map (· + 180), hx_chk k = true := by decide +kernel
theorem hx_kc190 : ∀ k ∈ (List.range 10).map (· + 190), hx_chk k = true := by decide +kernel
theorem hx_kc200 : ∀ k ∈ (List.range 2).map (· + 200), hx_chk k = true := by decide +kernel
theorem hx_in_range {i j k : Nat} (h1 : i ≤ k) (h2 : k < i + j) : k ∈ (List.range j).map (· + i) := List.mem_map.mpr ⟨k - i, List.mem_range.mpr (by omega), show k - i + i = k by omega⟩
theorem hx_chk_all (k : Nat) : hx_chk k = true := by
  by_cases h0 : k < 10
  · exact hx_kc0 k (hx_in_range (by omega) (by omega))
  by_cases h1 : k < 20
  · exact hx_kc10 k (hx_in_range (by omega) (by omega))
  by_cases h2 : k < 30
  · exact hx_kc20 k (hx_in_range (by omega) (by omega))
  by_cases h3 : k < 40
  · exact hx_kc30 k (hx_in_range (by omega) (by omega))
  by_cases h4 : k < 50
  · exact hx_kc40 k (hx_in_range (by omega) (by omega))
  by_cases h5 : k < 60
  · exact hx_kc50 k (hx_in_range (by omega) (by omega))
  by_cases h6 : k < 70
  · exact hx_kc60 k (hx_in_range (by omega) (by omega))
  by_cases h7 : k < 80
  · exact hx_kc70 k (hx_in_range (by omega) (by omega))
  by_cases h8 : k < 90
  · exact hx_kc80 k (hx_in_range (by omega) (by omega))
  by_cases h9 : k < 100
  · exact hx_kc90 k (hx_in_range (by omega) (by omega))
  by_cases h10 : k < 110
  · exact hx_kc100 k (hx_in_range (by omega) (by omega))
  by_cases h11 : k < 120
  · exact hx_kc110 k (hx_in_range (by omega) (by omega))
  by_cases h12 : k < 130
  · exact hx_kc120 k (hx_in_range (by omega) (by omega))
  by_cases h13 : k < 140
  · exact hx_kc130 k (hx_in_range (by omega) (by omega))
  by_cases h14 : k < 150
  · exact hx_kc140 k (hx_in_range (by omega) (by omega))
  by_cases h15 : k < 160
  · exact hx_kc150 k (hx_in_range (by omega) (by omega))
  by_cases h16 : k < 170
  · exact hx_kc160 k (hx_in_range (by omega) (by omega))
  by_cases h17 : k < 180
  · exact hx_kc170 k (hx_in_range (by omega) (by omega))
  by_cases h18 : k < 190
  · exact hx_kc180 k (hx_in_range (by omega) (by omega))
  by_cases h19 : k < 200
  · exact hx_kc190 k (hx_in_range (by omega) (by omega))
  by_cases h20 : k < 202
  · exact hx_kc200 k (hx_in_range (by omega) (by omega))
  by_cases hz : k = 202
  · rw [hz]; exact hx_kc202
  · unfold hx_chk
    rw [hx_nth_eq, List.getElem?_eq_none (by show 203 ≤ k; omega)]
theorem hx_mo0 : ∀ k ∈ (List.range 25).map (· + 0), hx_mok k = true := by decide +kernel
theorem hx_mo1 : ∀ k ∈ (List.range 25).map (· + 25), hx_mok k = true := by decide +kernel
theorem hx_mo2 : ∀ k ∈ (List.range 25).map (· + 50), hx_mok k = true := by decide +kernel
theorem hx_mo3 : ∀ k ∈ (List.range 25).map (· + 75), hx_mok k = true := by decide +kernel
theorem hx_mo4 : ∀ k ∈ (List.range 25).map (· + 100), hx_mok k = true := by decide +kernel
theorem hx_mo5 : ∀ k ∈ (List.range 25).map (· + 125), hx_mok k = true := by decide +kernel
theorem hx_mo6 : ∀ k ∈ (List.range 25).map (· + 150), hx_mok k = true := by decide +kernel
theorem hx_mo7 : ∀ k ∈ (List.range 25).map (· + 175), hx_mok k = true := by decide +kernel
theorem hx_mo8 : ∀ k ∈ (List.range 2).map (· + 200), hx_mok k = true := by decide +kernel
theorem hx_mok_all (k : Nat) (hk : k < 202) : hx_mok k = true := by
  by_cases h0 : k < 25
  · exact hx_mo0 k (hx_in_range (by omega) (by omega))
  by_cases h1 : k < 50
  · exact hx_mo1 k (hx_in_range (by omega) (by omega))
  by_cases h2 : k < 75
  · exact hx_mo2 k (hx_in_range (by omega) (by omega))
  by_cases h3 : k < 100
  · exact hx_mo3 k (hx_in_range (by omega) (by omega))
  by_cases h4 : k < 125
  · exact hx_mo4 k (hx_in_range (by omega) (by omega))
  by_cases h5 : k < 150
  · exact hx_mo5 k (hx_in_range (by omega) (by omega))
  by_cases h6 : k < 175
  · exact hx_mo6 k (hx_in_range (by omega) (by omega))
  by_cases h7 : k < 200
  · exact hx_mo7 k (hx_in_range (by omega) (by omega))
  by_cases h8 : k < 202
  · exact hx_mo8 k (hx_in_range (by omega) (by omega))
  · omega
end
section
/-! ===== soundness, 3: a frame's standing facts; the plain instructions ===== -/
def hx_T (s : State) (ac : Nat → ClassId) (Hs : hx_HS) : Prop := ∀ (k : Nat) (o : FieldType × Nat × List (Option Nat)), hx_nth Hs.1 k = some (.inr o) → ArrOfT s (ac k) o.1 ∧ va_RA s (ac k) o.1
/-- the addresses that stood at the start are as they were -/
def hx_G (G : Nat × (Nat → Nat)) (ad : Nat → Nat) (Hs : hx_HS) : Prop := G.1 ≤ Hs.1.length ∧ ∀ z, z < G.1 → ad z = G.2 z
theorem hx_G_same {G : Nat × (Nat → Nat)} {ad : Nat → Nat} {Hs H2 : hx_HS} (h : hx_G G ad Hs) (e : H2.1.length = Hs.1.length) : hx_G G ad H2 := ⟨by rw [e]; exact h.1, h.2⟩
theorem hx_G_push {G : Nat × (Nat → Nat)} {ad ad' : Nat → Nat} {Hs H2 : hx_HS} (h : hx_G G ad Hs) (ag : ∀ z, z < Hs.1.length → ad' z = ad z) (e : Hs.1.length ≤ H2.1.length) : hx_G G ad' H2 := ⟨Nat.le_trans h.1 e, fun z hz => by rw [ag z (Nat.lt_of_lt_of_le hz h.1)]; exact h.2 z hz⟩
def hx_I (dC : Nat → ClassId) (dI : Nat → Nat → Nat) (A : Nat → Prop) (s : State) (b : Nat) (G : Nat × (Nat → Nat)) (H : Heap) (locs : List Loc) (ad : Nat → Nat) (ac : Nat → ClassId) (Hs : hx_HS) : Prop := va_P (dC, dI) vwCl (hx_ws ad ac b Hs) H ∧ va_D A (hx_ws ad ac b Hs) ∧ va_S A s.heap H locs ∧ hx_T s ac Hs ∧ hx_G G ad Hs
def hx_St (sc : Nat × (Nat → Int32)) (b : Nat) (A : Nat → Prop) (U : State) (H : Heap) : Prop :=
  va_X b sc.1 sc.2 U H ∧ b < H.size ∧ ¬ A b ∧ vx_Zq Bundle.tN "UNASSIGNED_STACK" Bundle.steD A U H ∧ vx_Zq Bundle.tN "SUPPRESSED_SENTINEL" Bundle.listD A U H ∧ (∀ q ∈ hx_strs, ∃ a, vk_R q.1 q.2.1 q.2.2 a U) ∧ va_AO RX3 U ∧ (∀ q ∈ hx_nests, va_Nw (.methodLinkNest RX4 q.1 q.2 RX4) U) ∧ (∀ q ∈ hx_ncs, va_Nc q.1 q.2 U) ∧ (∀ w ∈ hx_xw, va_Nw w U)
def hx_F (p : Program) (l : Launch) (R : Room) (s : State) (m : MethodId) (args : Array Value) (meth : Method) (c : Code) (dC : Nat → ClassId) (dI : Nat → Nat → Nat) (A : Nat → Prop) (b : Nat) (sc : Nat × (Nat → Int32)) (d k : Nat) : Prop :=
  p.tables.exec = Jvm.exec ∧ c.code = hx_by k ∧ c.maxLocals = hx_ml k ∧ s.vm.findClass (hx_R (hx_own k)) = some m.cls ∧ (∀ w ∈ hx_LW, w.before args s = true) ∧ meth.sig.returnType = hx_rt k ∧ meth.locks = false ∧ (hx_hh k ≠ [] → c.exceptionTable.toList = tableOf (hx_hh k)) ∧ l.stackTraces = false ∧ va_K (dC, dI) vwCl [] s ∧ (∀ q, s.heap.size ≤ q → A q) ∧ hx_St sc b A s s.heap ∧ (d + 20 ≤ R.frames ∧ 60 * d + 200 ≤ R.locals ∧ hx_bud k ≤ R.cells ∧ 1000 * hx_bud k ≤ R.slots) ∧ ((hx_y k).name = "<init>" → meth.name = "<init>")
section HXS
variable {p : Program} {l : Launch} {e : Env} {R : Room} {s : State} {m : MethodId} {args : Array Value} {below : List Frame} {meth : Method} {c : Code} {Q : State → Prop}
variable {dC : Nat → ClassId} {dI : Nat → Nat → Nat} {A : Nat → Prop} {b : Nat} {G : Nat × (Nat → Nat)} {sc : Nat × (Nat → Int32)} {d k : Nat}
def hx_Wt (p : Program) (l : Launch) (e : Env) (R : Room) (s : State) (m : MethodId) (args : Array Value) (below : List Frame) (meth : Method) (c : Code) (Q : State → Prop) (dC : Nat → ClassId) (dI : Nat → Nat → Nat) (A : Nat → Prop) (b : Nat) (G : Nat × (Nat → Nat)) (k : Nat) (fs : hx_FS) : Prop :=
  ∀ (H : Heap) (locs : List Loc) (ad : Nat → Nat) (ac : Nat → ClassId) (lc : Array Slot), hx_I dC dI A s b G H locs ad ac fs.2.2.2.1 → hx_L ad b lc (hx_ml k) fs.2.1 → W p l e R s m args below meth c H locs fs.2.2.2.2 (1000 * fs.2.2.2.2) Q (F0 m fs.1 lc (fs.2.2.1.map (hx_cv ad b)))
variable {pc : Nat} {ls : List (Option Value)} {st : List Value} {Hs : hx_HS} {u : Nat} {fs : hx_FS}
theorem hx_k_inj {pc : Nat} {ls : List (Option Value)} {st : List Value} {Hs : hx_HS} {u : Nat} {fs : hx_FS} (h : hx_k pc ls st Hs u = some (.inl fs)) : fs = (pc, ls, st, Hs, u) := by
  unfold hx_k at h
  cases h
  rfl
theorem hx_drop_L {ad : Nat → Nat} {b : Nat} {lc : Array Slot} {nL : Nat} : ∀ (tg : List Nat) {ls : List (Option Value)}, hx_L ad b lc nL ls → hx_L ad b lc nL (hx_drop tg ls)
  | [], _, h => h
  | i :: t, ls, h => by
    refine hx_drop_L t (ls := ls.set i none) ⟨h.1, by rw [List.length_set]; exact h.2.1, h.2.2.1, fun j v hj => ?_⟩
    by_cases hz : j = i
    · subst hz
      have := hx_nth_set_eq hj
      cases this
    · rw [hx_nth_set_ne hz] at hj
      exact h.2.2.2 j v hj
/-- a push of a value that is itself -/
theorem hx_s_push {n : Nat} {v : Value} (hv : ∀ ad, hx_cv ad b v = v) (row : ∀ {H : Heap} {locs : List Loc} {cells slots : Nat} {lc : Array Slot} {rest : List Value}, W p l e R s m args below meth c H locs cells slots Q (F0 m (pc + n) lc (v :: rest)) → W p l e R s m args below meth c H locs cells slots Q (F0 m pc lc rest))
    (h : hx_k (pc + n) ls (v :: st) Hs u = some (.inl fs)) (K : hx_Wt p l e R s m args below meth c Q dC dI A b G k fs) : hx_Wt p l e R s m args below meth c Q dC dI A b G k (pc, ls, st, Hs, u) := by
  have e1 := hx_k_inj h
  subst e1
  intro H locs ad ac lc hI hL
  refine row ?_
  have := K H locs ad ac lc hI hL
  simp only [List.map_cons, hv] at this
  exact this
theorem hx_s_ild {i n : Nat} (row : ∀ {H : Heap} {locs : List Loc} {cells slots : Nat} {lc : Array Slot} {rest : List Value} {x : Int32}, lc[i]? = some (.val (.int x)) → W p l e R s m args below meth c H locs cells slots Q (F0 m (pc + n) lc (.int x :: rest)) → W p l e R s m args below meth c H locs cells slots Q (F0 m pc lc rest))
    (h : hx_ild i n pc ls st Hs u = some (.inl fs)) (K : hx_Wt p l e R s m args below meth c Q dC dI A b G k fs) : hx_Wt p l e R s m args below meth c Q dC dI A b G k (pc, ls, st, Hs, u) := by
  unfold hx_ild at h
  split at h
  · rename_i x hx
    have e1 := hx_k_inj h
    subst e1
    intro H locs ad ac lc hI hL
    exact row (hL.2.2.2 i _ hx) (K H locs ad ac lc hI hL)
  · cases h
theorem hx_s_lld {i n : Nat} (row : ∀ {H : Heap} {locs : List Loc} {cells slots : Nat} {lc : Array Slot} {rest : List Value} {x : Int64}, lc[i]? = some (.val (.long x)) → W p l e R s m args below meth c H locs cells slots Q (F0 m (pc + n) lc (.long x :: rest)) → W p l e R s m args below meth c H locs cells slots Q (F0 m pc lc rest))
    (h : hx_lld i n pc ls st Hs u = some (.inl fs)) (K : hx_Wt p l e R s m args below meth c Q dC dI A b G k fs) : hx_Wt p l e R s m args below meth c Q dC dI A b G k (pc, ls, st, Hs, u) := by
  unfold hx_lld at h
  split at h
  · rename_i x hx
    have e1 := hx_k_inj h
    subst e1
    intro H locs ad ac lc hI hL
    exact row (hL.2.2.2 i _ hx) (K H locs ad ac lc hI hL)
  · cases h
theorem hx_s_fld {i n : Nat} (row : ∀ {H : Heap} {locs : List Loc} {cells slots : Nat} {lc : Array Slot} {rest : List Value} {x : UInt32}, lc[i]? = some (.val (.float x)) → W p l e R s m args below meth c H locs cells slots Q (F0 m (pc + n) lc (.float x :: rest)) → W p l e R s m args below meth c H locs cells slots Q (F0 m pc lc rest))
    (h : hx_fld i n pc ls st Hs u = some (.inl fs)) (K : hx_Wt p l e R s m args below meth c Q dC dI A b G k fs) : hx_Wt p l e R s m args below meth c Q dC dI A b G k (pc, ls, st, Hs, u) := by
  unfold hx_fld at h
  split at h
  · rename_i x hx
    have e1 := hx_k_inj h
    subst e1
    intro H locs ad ac lc hI hL
    exact row (hL.2.2.2 i _ hx) (K H locs ad ac lc hI hL)
  · cases h
theorem hx_s_dld {i n : Nat} (row : ∀ {H : Heap} {locs : List Loc} {cells slots : Nat} {lc : Array Slot} {rest : List Value} {x : UInt64}, lc[i]? = some (.val (.double x)) → W p l e R s m args below meth c H locs cells slots Q (F0 m (pc + n) lc (.double x :: rest)) → W p l e R s m args below meth c H locs cells slots Q (F0 m pc lc rest))
    (h : hx_dld i n pc ls st Hs u = some (.inl fs)) (K : hx_Wt p l e R s m args below meth c Q dC dI A b G k fs) : hx_Wt p l e R s m args below meth c Q dC dI A b G k (pc, ls, st, Hs, u) := by
  unfold hx_dld at h
  split at h
  · rename_i x hx
    have e1 := hx_k_inj h
    subst e1
    intro H locs ad ac lc hI hL
    exact row (hL.2.2.2 i _ hx) (K H locs ad ac lc hI hL)
  · cases h
theorem hx_s_ald {i n : Nat} (row : ∀ {H : Heap} {locs : List Loc} {cells slots : Nat} {lc : Array Slot} {rest : List Value} {x : Nat}, lc[i]? = some (.val (.ref x)) → W p l e R s m args below meth c H locs cells slots Q (F0 m (pc + n) lc (.ref x :: rest)) → W p l e R s m args below meth c H locs cells slots Q (F0 m pc lc rest))
    (h : hx_ald i n pc ls st Hs u = some (.inl fs)) (K : hx_Wt p l e R s m args below meth c Q dC dI A b G k fs) : hx_Wt p l e R s m args below meth c Q dC dI A b G k (pc, ls, st, Hs, u) := by
  unfold hx_ald at h
  split at h
  · rename_i x hx
    have e1 := hx_k_inj h
    subst e1
    intro H locs ad ac lc hI hL
    exact row (hL.2.2.2 i _ hx) (K H locs ad ac lc hI hL)
  · rename_i x hx
    have e1 := hx_k_inj h
    subst e1
    intro H locs ad ac lc hI hL
    exact row (hL.2.2.2 i _ hx) (K H locs ad ac lc hI hL)
  · cases h
/-- stores of one slot -/
theorem hx_s_ist {tg : List Nat} {i n : Nat} (row : ∀ {H : Heap} {locs : List Loc} {cells slots : Nat} {lc : Array Slot} {rest : List Value} {x : Int32} {lv : List (Nat × Value)}, lv_has lc (hx_ml k) lv → i < hx_ml k → (∀ lc' : Array Slot, lv_has lc' (hx_ml k) ((i, Value.int x) :: lv.filter (fun q => !(q.1 == i) && !(q.1 + 1 == i && q.2.category == 2))) → W p l e R s m args below meth c H locs cells slots Q (F0 m (pc + n) lc' rest)) → W p l e R s m args below meth c H locs cells slots Q (F0 m pc lc (.int x :: rest)))
    (h : hx_ist tg i n pc ls st Hs u = some (.inl fs)) (K : hx_Wt p l e R s m args below meth c Q dC dI A b G k fs) : hx_Wt p l e R s m args below meth c Q dC dI A b G k (pc, ls, st, Hs, u) := by
  unfold hx_ist at h
  split at h
  · rename_i x r
    split at h
    · rename_i hi
      have e1 := hx_k_inj h
      subst e1
      intro H locs ad ac lc hI hL
      exact row hL.has (by rw [← hL.2.1]; exact hi) (fun lc' hl' => K H locs ad ac lc' hI (hx_drop_L tg (hx_st1_L (v := .int x) hL.2.1 hl')))
    · cases h
  · cases h
theorem hx_s_fst {tg : List Nat} {i n : Nat} (row : ∀ {H : Heap} {locs : List Loc} {cells slots : Nat} {lc : Array Slot} {rest : List Value} {x : UInt32} {lv : List (Nat × Value)}, lv_has lc (hx_ml k) lv → i < hx_ml k → (∀ lc' : Array Slot, lv_has lc' (hx_ml k) ((i, Value.float x) :: lv.filter (fun q => !(q.1 == i) && !(q.1 + 1 == i && q.2.category == 2))) → W p l e R s m args below meth c H locs cells slots Q (F0 m (pc + n) lc' rest)) → W p l e R s m args below meth c H locs cells slots Q (F0 m pc lc (.float x :: rest)))
    (h : hx_fst tg i n pc ls st Hs u = some (.inl fs)) (K : hx_Wt p l e R s m args below meth c Q dC dI A b G k fs) : hx_Wt p l e R s m args below meth c Q dC dI A b G k (pc, ls, st, Hs, u) := by
  unfold hx_fst at h
  split at h
  · rename_i x r
    split at h
    · rename_i hi
      have e1 := hx_k_inj h
      subst e1
      intro H locs ad ac lc hI hL
      exact row hL.has (by rw [← hL.2.1]; exact hi) (fun lc' hl' => K H locs ad ac lc' hI (hx_drop_L tg (hx_st1_L (v := .float x) hL.2.1 hl')))
    · cases h
  · cases h
theorem hx_s_ast {tg : List Nat} {i n : Nat} (row : ∀ {H : Heap} {locs : List Loc} {cells slots : Nat} {lc : Array Slot} {rest : List Value} {x : Nat} {lv : List (Nat × Value)}, lv_has lc (hx_ml k) lv → i < hx_ml k → (∀ lc' : Array Slot, lv_has lc' (hx_ml k) ((i, Value.ref x) :: lv.filter (fun q => !(q.1 == i) && !(q.1 + 1 == i && q.2.category == 2))) → W p l e R s m args below meth c H locs cells slots Q (F0 m (pc + n) lc' rest)) → W p l e R s m args below meth c H locs cells slots Q (F0 m pc lc (.ref x :: rest)))
    (h : hx_ast tg i n pc ls st Hs u = some (.inl fs)) (K : hx_Wt p l e R s m args below meth c Q dC dI A b G k fs) : hx_Wt p l e R s m args below meth c Q dC dI A b G k (pc, ls, st, Hs, u) := by
  unfold hx_ast at h
  split at h
  · rename_i x r
    split at h
    · rename_i hi
      have e1 := hx_k_inj h
      subst e1
      intro H locs ad ac lc hI hL
      exact row hL.has (by rw [← hL.2.1]; exact hi) (fun lc' hl' => K H locs ad ac lc' hI (hx_drop_L tg (hx_st1_L (v := .ref x) hL.2.1 hl')))
    · cases h
  · cases h
theorem hx_s_lst {tg : List Nat} {i n : Nat} (row : ∀ {H : Heap} {locs : List Loc} {cells slots : Nat} {lc : Array Slot} {rest : List Value} {x : Int64} {lv : List (Nat × Value)}, lv_has lc (hx_ml k) lv → i + 1 < hx_ml k → (∀ lc' : Array Slot, lv_has lc' (hx_ml k) ((i, Value.long x) :: lv.filter (fun q => !(q.1 == i) && (!(q.1 == i + 1) && !(q.1 + 1 == i && q.2.category == 2)))) → W p l e R s m args below meth c H locs cells slots Q (F0 m (pc + n) lc' rest)) → W p l e R s m args below meth c H locs cells slots Q (F0 m pc lc (.long x :: rest)))
    (h : hx_lst tg i n pc ls st Hs u = some (.inl fs)) (K : hx_Wt p l e R s m args below meth c Q dC dI A b G k fs) : hx_Wt p l e R s m args below meth c Q dC dI A b G k (pc, ls, st, Hs, u) := by
  unfold hx_lst at h
  split at h
  · rename_i x r
    split at h
    · rename_i hi
      have e1 := hx_k_inj h
      subst e1
      intro H locs ad ac lc hI hL
      exact row hL.has (by rw [← hL.2.1]; exact hi) (fun lc' hl' => K H locs ad ac lc' hI (hx_drop_L tg (hx_st2_L (v := .long x) hL.2.1 hl')))
    · cases h
  · cases h
theorem hx_s_dst {tg : List Nat} {i n : Nat} (row : ∀ {H : Heap} {locs : List Loc} {cells slots : Nat} {lc : Array Slot} {rest : List Value} {x : UInt64} {lv : List (Nat × Value)}, lv_has lc (hx_ml k) lv → i + 1 < hx_ml k → (∀ lc' : Array Slot, lv_has lc' (hx_ml k) ((i, Value.double x) :: lv.filter (fun q => !(q.1 == i) && (!(q.1 == i + 1) && !(q.1 + 1 == i && q.2.category == 2)))) → W p l e R s m args below meth c H locs cells slots Q (F0 m (pc + n) lc' rest)) → W p l e R s m args below meth c H locs cells slots Q (F0 m pc lc (.double x :: rest)))
    (h : hx_dst tg i n pc ls st Hs u = some (.inl fs)) (K : hx_Wt p l e R s m args below meth c Q dC dI A b G k fs) : hx_Wt p l e R s m args below meth c Q dC dI A b G k (pc, ls, st, Hs, u) := by
  unfold hx_dst at h
  split at h
  · rename_i x r
    split at h
    · rename_i hi
      have e1 := hx_k_inj h
      subst e1
      intro H locs ad ac lc hI hL
      exact row hL.has (by rw [← hL.2.1]; exact hi) (fun lc' hl' => K H locs ad ac lc' hI (hx_drop_L tg (hx_st2_L (v := .double x) hL.2.1 hl')))
    · cases h
  · cases h
theorem hx_s_inc {tg : List Nat} {i : Nat} {n : Int} (row : ∀ {H : Heap} {locs : List Loc} {cells slots : Nat} {lc : Array Slot} {rest : List Value} {x : Int32} {lv : List (Nat × Value)} {j : Nat}, lv_has lc (hx_ml k) lv → lv[j]? = some (i, .int x) → i < hx_ml k → (∀ lc' : Array Slot, lv_has lc' (hx_ml k) ((i, Value.int (x + Int32.ofInt n)) :: lv.filter (fun q => !(q.1 == i) && !(q.1 + 1 == i && q.2.category == 2))) → W p l e R s m args below meth c H locs cells slots Q (F0 m (pc + 3) lc' rest)) → W p l e R s m args below meth c H locs cells slots Q (F0 m pc lc rest))
    (h : hx_inc tg i n pc ls st Hs u = some (.inl fs)) (K : hx_Wt p l e R s m args below meth c Q dC dI A b G k fs) : hx_Wt p l e R s m args below meth c Q dC dI A b G k (pc, ls, st, Hs, u) := by
  unfold hx_inc at h
  split at h
  · rename_i x hx
    have e1 := hx_k_inj h
    subst e1
    intro H locs ad ac lc hI hL
    have hm := hx_as_in (ad := ad) (b := b) (i := 0) hx
    rw [Nat.zero_add] at hm
    obtain ⟨j, hj⟩ := List.getElem?_of_mem hm
    have hi : i < hx_ml k := by
      rw [← hL.2.1]
      rw [hx_nth_eq] at hx
      exact (List.getElem?_eq_some_iff.mp hx).1
    exact row hL.has hj hi (fun lc' hl' => K H locs ad ac lc' hI (hx_drop_L tg (hx_st1_L (v := .int (x + Int32.ofInt n)) hL.2.1 hl')))
  · cases h
theorem hx_s_ii {f : Int32 → Int32 → Int32} (row : ∀ {H : Heap} {locs : List Loc} {cells slots : Nat} {lc : Array Slot} {rest : List Value} {x y : Int32}, W p l e R s m args below meth c H locs cells slots Q (F0 m (pc + 1) lc (.int (f x y) :: rest)) → W p l e R s m args below meth c H locs cells slots Q (F0 m pc lc (.int y :: .int x :: rest)))
    (h : hx_ii f pc ls st Hs u = some (.inl fs)) (K : hx_Wt p l e R s m args below meth c Q dC dI A b G k fs) : hx_Wt p l e R s m args below meth c Q dC dI A b G k (pc, ls, st, Hs, u) := by
  unfold hx_ii at h
  split at h
  · have e1 := hx_k_inj h
    subst e1
    intro H locs ad ac lc hI hL
    exact row (K H locs ad ac lc hI hL)
  · cases h
theorem hx_s_id {f : Int32 → Int32 → Int32} (row : ∀ {H : Heap} {locs : List Loc} {cells slots : Nat} {lc : Array Slot} {rest : List Value} {x y : Int32}, ¬ y = 0 → W p l e R s m args below meth c H locs cells slots Q (F0 m (pc + 1) lc (.int (f x y) :: rest)) → W p l e R s m args below meth c H locs cells slots Q (F0 m pc lc (.int y :: .int x :: rest)))
    (h : hx_id f pc ls st Hs u = some (.inl fs)) (K : hx_Wt p l e R s m args below meth c Q dC dI A b G k fs) : hx_Wt p l e R s m args below meth c Q dC dI A b G k (pc, ls, st, Hs, u) := by
  unfold hx_id at h
  split at h
  · split at h
    · cases h
    · rename_i hy
      have e1 := hx_k_inj h
      subst e1
      intro H locs ad ac lc hI hL
      exact row hy (K H locs ad ac lc hI hL)
  · cases h
theorem hx_s_i1 {f : Int32 → Value} (hv : ∀ ad x, hx_cv ad b (f x) = f x) (row : ∀ {H : Heap} {locs : List Loc} {cells slots : Nat} {lc : Array Slot} {rest : List Value} {x : Int32}, W p l e R s m args below meth c H locs cells slots Q (F0 m (pc + 1) lc (f x :: rest)) → W p l e R s m args below meth c H locs cells slots Q (F0 m pc lc (.int x :: rest)))
    (h : hx_i1 f pc ls st Hs u = some (.inl fs)) (K : hx_Wt p l e R s m args below meth c Q dC dI A b G k fs) : hx_Wt p l e R s m args below meth c Q dC dI A b G k (pc, ls, st, Hs, u) := by
  unfold hx_i1 at h
  split at h
  · have e1 := hx_k_inj h
    subst e1
    intro H locs ad ac lc hI hL
    have := K H locs ad ac lc hI hL
    simp only [List.map_cons, hv] at this
    exact row this
  · cases h
theorem hx_s_ll {f : Int64 → Int64 → Value} (hv : ∀ ad x y, hx_cv ad b (f x y) = f x y) (row : ∀ {H : Heap} {locs : List Loc} {cells slots : Nat} {lc : Array Slot} {rest : List Value} {x y : Int64}, W p l e R s m args below meth c H locs cells slots Q (F0 m (pc + 1) lc (f x y :: rest)) → W p l e R s m args below meth c H locs cells slots Q (F0 m pc lc (.long y :: .long x :: rest)))
    (h : hx_ll f pc ls st Hs u = some (.inl fs)) (K : hx_Wt p l e R s m args below meth c Q dC dI A b G k fs) : hx_Wt p l e R s m args below meth c Q dC dI A b G k (pc, ls, st, Hs, u) := by
  unfold hx_ll at h
  split at h
  · have e1 := hx_k_inj h
    subst e1
    intro H locs ad ac lc hI hL
    have := K H locs ad ac lc hI hL
    simp only [List.map_cons, hv] at this
    exact row this
  · cases h
theorem hx_s_li {f : Int64 → Int32 → Int64} (row : ∀ {H : Heap} {locs : List Loc} {cells slots : Nat} {lc : Array Slot} {rest : List Value} {x : Int64} {y : Int32}, W p l e R s m args below meth c H locs cells slots Q (F0 m (pc + 1) lc (.long (f x y) :: rest)) → W p l e R s m args below meth c H locs cells slots Q (F0 m pc lc (.int y :: .long x :: rest)))
    (h : hx_li f pc ls st Hs u = some (.inl fs)) (K : hx_Wt p l e R s m args below meth c Q dC dI A b G k fs) : hx_Wt p l e R s m args below meth c Q dC dI A b G k (pc, ls, st, Hs, u) := by
  unfold hx_li at h
  split at h
  · have e1 := hx_k_inj h
    subst e1
    intro H locs ad ac lc hI hL
    exact row (K H locs ad ac lc hI hL)
  · cases h
theorem hx_s_ff {f : UInt32 → UInt32 → UInt32} (row : ∀ {H : Heap} {locs : List Loc} {cells slots : Nat} {lc : Array Slot} {rest : List Value} {x y : UInt32}, vf_n32 (f x y) → W p l e R s m args below meth c H locs cells slots Q (F0 m (pc + 1) lc (.float (f x y) :: rest)) → W p l e R s m args below meth c H locs cells slots Q (F0 m pc lc (.float y :: .float x :: rest)))
    (h : hx_ff f pc ls st Hs u = some (.inl fs)) (K : hx_Wt p l e R s m args below meth c Q dC dI A b G k fs) : hx_Wt p l e R s m args below meth c Q dC dI A b G k (pc, ls, st, Hs, u) := by
  unfold hx_ff at h
  split at h
  · split at h
    · rename_i hn
      have e1 := hx_k_inj h
      subst e1
      intro H locs ad ac lc hI hL
      exact row hn (K H locs ad ac lc hI hL)
    · cases h
  · cases h
theorem hx_s_dd {f : UInt64 → UInt64 → UInt64} (row : ∀ {H : Heap} {locs : List Loc} {cells slots : Nat} {lc : Array Slot} {rest : List Value} {x y : UInt64}, vf_n64 (f x y) → W p l e R s m args below meth c H locs cells slots Q (F0 m (pc + 1) lc (.double (f x y) :: rest)) → W p l e R s m args below meth c H locs cells slots Q (F0 m pc lc (.double y :: .double x :: rest)))
    (h : hx_dd f pc ls st Hs u = some (.inl fs)) (K : hx_Wt p l e R s m args below meth c Q dC dI A b G k fs) : hx_Wt p l e R s m args below meth c Q dC dI A b G k (pc, ls, st, Hs, u) := by
  unfold hx_dd at h
  split at h
  · split at h
    · rename_i hn
      have e1 := hx_k_inj h
      subst e1
      intro H locs ad ac lc hI hL
      exact row hn (K H locs ad ac lc hI hL)
    · cases h
  · cases h
theorem hx_s_fcmp {op : CmpOp} (row : ∀ {H : Heap} {locs : List Loc} {cells slots : Nat} {lc : Array Slot} {rest : List Value} {x y : UInt32}, W p l e R s m args below meth c H locs cells slots Q (F0 m (pc + 1) lc (.int (Op.cmpValue (FP.fcmp x y) op) :: rest)) → W p l e R s m args below meth c H locs cells slots Q (F0 m pc lc (.float y :: .float x :: rest)))
    (h : hx_fcmp op pc ls st Hs u = some (.inl fs)) (K : hx_Wt p l e R s m args below meth c Q dC dI A b G k fs) : hx_Wt p l e R s m args below meth c Q dC dI A b G k (pc, ls, st, Hs, u) := by
  unfold hx_fcmp at h
  split at h
  · have e1 := hx_k_inj h
    subst e1
    intro H locs ad ac lc hI hL
    exact row (K H locs ad ac lc hI hL)
  · cases h
theorem hx_s_dcmp {op : CmpOp} (row : ∀ {H : Heap} {locs : List Loc} {cells slots : Nat} {lc : Array Slot} {rest : List Value} {x y : UInt64}, W p l e R s m args below meth c H locs cells slots Q (F0 m (pc + 1) lc (.int (Op.cmpValue (FP.dcmp x y) op) :: rest)) → W p l e R s m args below meth c H locs cells slots Q (F0 m pc lc (.double y :: .double x :: rest)))
    (h : hx_dcmp op pc ls st Hs u = some (.inl fs)) (K : hx_Wt p l e R s m args below meth c Q dC dI A b G k fs) : hx_Wt p l e R s m args below meth c Q dC dI A b G k (pc, ls, st, Hs, u) := by
  unfold hx_dcmp at h
  split at h
  · have e1 := hx_k_inj h
    subst e1
    intro H locs ad ac lc hI hL
    exact row (K H locs ad ac lc hI hL)
  · cases h
theorem hx_s_fu {f : UInt32 → Value} (hv : ∀ ad x, hx_cv ad b (f x) = f x) (row : ∀ {H : Heap} {locs : List Loc} {cells slots : Nat} {lc : Array Slot} {rest : List Value} {x : UInt32}, W p l e R s m args below meth c H locs cells slots Q (F0 m (pc + 1) lc (f x :: rest)) → W p l e R s m args below meth c H locs cells slots Q (F0 m pc lc (.float x :: rest)))
    (h : hx_fu f pc ls st Hs u = some (.inl fs)) (K : hx_Wt p l e R s m args below meth c Q dC dI A b G k fs) : hx_Wt p l e R s m args below meth c Q dC dI A b G k (pc, ls, st, Hs, u) := by
  unfold hx_fu at h
  split at h
  · have e1 := hx_k_inj h
    subst e1
    intro H locs ad ac lc hI hL
    have := K H locs ad ac lc hI hL
    simp only [List.map_cons, hv] at this
    exact row this
  · cases h
theorem hx_s_f2d (row : ∀ {H : Heap} {locs : List Loc} {cells slots : Nat} {lc : Array Slot} {rest : List Value} {x : UInt32}, vf_n64 (FP.f2d x) → W p l e R s m args below meth c H locs cells slots Q (F0 m (pc + 1) lc (.double (FP.f2d x) :: rest)) → W p l e R s m args below meth c H locs cells slots Q (F0 m pc lc (.float x :: rest)))
    (h : hx_f2d pc ls st Hs u = some (.inl fs)) (K : hx_Wt p l e R s m args below meth c Q dC dI A b G k fs) : hx_Wt p l e R s m args below meth c Q dC dI A b G k (pc, ls, st, Hs, u) := by
  unfold hx_f2d at h
  split at h
  · split at h
    · rename_i hn
      have e1 := hx_k_inj h
      subst e1
      intro H locs ad ac lc hI hL
      exact row hn (K H locs ad ac lc hI hL)
    · cases h
  · cases h
theorem hx_s_d2l (row : ∀ {H : Heap} {locs : List Loc} {cells slots : Nat} {lc : Array Slot} {rest : List Value} {x : UInt64}, W p l e R s m args below meth c H locs cells slots Q (F0 m (pc + 1) lc (.long (FP.d2l x) :: rest)) → W p l e R s m args below meth c H locs cells slots Q (F0 m pc lc (.double x :: rest)))
    (h : hx_d2l pc ls st Hs u = some (.inl fs)) (K : hx_Wt p l e R s m args below meth c Q dC dI A b G k fs) : hx_Wt p l e R s m args below meth c Q dC dI A b G k (pc, ls, st, Hs, u) := by
  unfold hx_d2l at h
  split at h
  · have e1 := hx_k_inj h
    subst e1
    intro H locs ad ac lc hI hL
    exact row (K H locs ad ac lc hI hL)
  · cases h
theorem hx_s_dup (row : ∀ {H : Heap} {locs : List Loc} {cells slots : Nat} {lc : Array Slot} {rest : List Value} {v : Value}, v.category = 1 → W p l e R s m args below meth c H locs cells slots Q (F0 m (pc + 1) lc (v :: v :: rest)) → W p l e R s m args below meth c H locs cells slots Q (F0 m pc lc (v :: rest)))
    (h : hx_dup pc ls st Hs u = some (.inl fs)) (K : hx_Wt p l e R s m args below meth c Q dC dI A b G k fs) : hx_Wt p l e R s m args below meth c Q dC dI A b G k (pc, ls, st, Hs, u) := by
  unfold hx_dup at h
  split at h
  · split at h
    · cases h
    · rename_i hc
      have e1 := hx_k_inj h
      subst e1
      intro H locs ad ac lc hI hL
      exact row (by rw [hx_cv_cat]; exact hx_c2_no (Bool.eq_false_iff.mpr hc)) (K H locs ad ac lc hI hL)
  · cases h
theorem hx_s_pop (row : ∀ {H : Heap} {locs : List Loc} {cells slots : Nat} {lc : Array Slot} {rest : List Value} {v : Value}, v.category = 1 → W p l e R s m args below meth c H locs cells slots Q (F0 m (pc + 1) lc rest) → W p l e R s m args below meth c H locs cells slots Q (F0 m pc lc (v :: rest)))
    (h : hx_pop pc ls st Hs u = some (.inl fs)) (K : hx_Wt p l e R s m args below meth c Q dC dI A b G k fs) : hx_Wt p l e R s m args below meth c Q dC dI A b G k (pc, ls, st, Hs, u) := by
  unfold hx_pop at h
  split at h
  · split at h
    · cases h
    · rename_i hc
      have e1 := hx_k_inj h
      subst e1
      intro H locs ad ac lc hI hL
      exact row (by rw [hx_cv_cat]; exact hx_c2_no (Bool.eq_false_iff.mpr hc)) (K H locs ad ac lc hI hL)
  · cases h
theorem hx_s_dup2 (row : ∀ {H : Heap} {locs : List Loc} {cells slots : Nat} {lc : Array Slot} {rest : List Value} {v w : Value}, v.category = 1 → w.category = 1 → W p l e R s m args below meth c H locs cells slots Q (F0 m (pc + 1) lc (v :: w :: v :: w :: rest)) → W p l e R s m args below meth c H locs cells slots Q (F0 m pc lc (v :: w :: rest)))
    (h : hx_dup2 pc ls st Hs u = some (.inl fs)) (K : hx_Wt p l e R s m args below meth c Q dC dI A b G k fs) : hx_Wt p l e R s m args below meth c Q dC dI A b G k (pc, ls, st, Hs, u) := by
  unfold hx_dup2 at h
  split at h
  · split at h
    · cases h
    · rename_i hc
      rw [Bool.or_eq_true, not_or] at hc
      have e1 := hx_k_inj h
      subst e1
      intro H locs ad ac lc hI hL
      exact row (by rw [hx_cv_cat]; exact hx_c2_no (Bool.eq_false_iff.mpr hc.1)) (by rw [hx_cv_cat]; exact hx_c2_no (Bool.eq_false_iff.mpr hc.2)) (K H locs ad ac lc hI hL)
  · cases h
/-- branches -/
theorem hx_s_br {P : Prop} [Decidable P] {t : Nat} {v : List Value} (row : ∀ {H : Heap} {locs : List Loc} {cells slots : Nat} {lc : Array Slot} {ad : Nat → Nat}, (P → W p l e R s m args below meth c H locs cells slots Q (F0 m t lc (st.map (hx_cv ad b)))) → (¬ P → W p l e R s m args below meth c H locs cells slots Q (F0 m (pc + 3) lc (st.map (hx_cv ad b)))) → W p l e R s m args below meth c H locs cells slots Q (F0 m pc lc ((v ++ st).map (hx_cv ad b))))
    (h : hx_br P t pc ls st Hs u = some (.inl fs)) (K : hx_Wt p l e R s m args below meth c Q dC dI A b G k fs) : hx_Wt p l e R s m args below meth c Q dC dI A b G k (pc, ls, v ++ st, Hs, u) := by
  unfold hx_br at h
  split at h
  · rename_i hP
    have e1 := hx_k_inj h
    subst e1
    intro H locs ad ac lc hI hL
    exact row (fun _ => K H locs ad ac lc hI hL) (fun z => absurd hP z)
  · rename_i hP
    have e1 := hx_k_inj h
    subst e1
    intro H locs ad ac lc hI hL
    exact row (fun z => absurd z hP) (fun _ => K H locs ad ac lc hI hL)
theorem hx_s_goto {t : Nat} {tg : List Nat} (row : ∀ {H : Heap} {locs : List Loc} {cells slots : Nat} {lc : Array Slot} {rest : List Value}, W p l e R s m args below meth c H locs cells slots Q (F0 m t lc rest) → W p l e R s m args below meth c H locs cells slots Q (F0 m pc lc rest))
    (h : hx_k t (hx_drop tg ls) st Hs u = some (.inl fs)) (K : hx_Wt p l e R s m args below meth c Q dC dI A b G k fs) : hx_Wt p l e R s m args below meth c Q dC dI A b G k (pc, ls, st, Hs, u) := by
  have e1 := hx_k_inj h
  subst e1
  intro H locs ad ac lc hI hL
  exact row (K H locs ad ac lc hI (hx_drop_L tg hL))
end HXS
end
section
/-! ===== soundness, 4: branches on ints, switches, fields, arrays, what is made, natives ===== -/
theorem hx_at_in {k pc : Nat} {ce : hx_CE} (h : hx_at k pc = some ce) : hx_ck k (pc, ce) = true := by
  unfold hx_at at h
  have hc := hx_chk_all k
  unfold hx_chk at hc
  split at h
  · rename_i l hl
    rw [hl] at hc
    have key : ∀ (l : List (Nat × hx_CE)), hx_look l pc = some ce → (pc, ce) ∈ l := by
      intro l
      induction l with
      | nil => intro z; cases z
      | cons q l ih =>
        intro z
        unfold hx_look at z
        split at z
        · rename_i hq
          cases z
          subst hq
          exact List.mem_cons_self
        · exact List.mem_cons_of_mem _ (ih z)
    exact List.all_eq_true.mp hc _ (key l h)
  · cases h
theorem hx_ck_d {k pc : Nat} {ce : hx_CE} (h : hx_ck k (pc, ce) = true) : decode (hx_by k) pc = .ok (ce.1, hx_il ce.1 ce.2.2.2.1) := by
  unfold hx_ck at h
  rw [Bool.and_eq_true] at h
  exact hx_isd_ok h.1
theorem hx_ck_l {k pc : Nat} {ce : hx_CE} (h : hx_ck k (pc, ce) = true) : hx_lk k pc ce = true := by
  unfold hx_ck at h
  rw [Bool.and_eq_true] at h
  exact h.2
/-- the classes of the worlds -/
def hx_cok (ci : Nat) : Bool := match hx_nth vwCl ci with
  | some (C, T, N) => decide (C = hx_R ci) && (u_ws C T N).all hx_wd && (List.range N).all (fun j => decide (parseFieldDescriptor (T j).2.2.1 = some (hx_fty ci j)) && (List.range N).all (fun i => decide (j = i) || decide ((T j).2.1 ≠ (T i).2.1)) && decide (hx_nth (hx_kinds ci) j = some (defaultValue (hx_fty ci j)))) && decide ((hx_kinds ci).length = N) && decide (N ≤ 1000)
  | none => false
theorem hx_cok_all : ∀ ci ∈ List.range 6, hx_cok ci = true := by decide +kernel
theorem hx_cls {ci : Nat} {C : String} {T : u_T} {N : Nat} (hci : ci < 6) (h : hx_nth vwCl ci = some (C, T, N)) : C = hx_R ci ∧ (∀ w ∈ u_ws C T N, w ∈ hx_LW) ∧ (∀ j, j < N → parseFieldDescriptor (T j).2.2.1 = some (hx_fty ci j)) ∧ (∀ a, a < N → ∀ b, b < N → a ≠ b → (T a).2.1 ≠ (T b).2.1) ∧ (∀ j, j < N → hx_nth (hx_kinds ci) j = some (defaultValue (hx_fty ci j))) ∧ (hx_kinds ci).length = N ∧ N ≤ 1000 := by
  have hk := hx_cok_all ci (List.mem_range.mpr hci)
  unfold hx_cok at hk
  rw [h] at hk
  simp only [Bool.and_eq_true, decide_eq_true_eq] at hk
  obtain ⟨⟨⟨⟨h1, h2⟩, h3⟩, h4⟩, h5⟩ := hk
  have h3' : ∀ j, j < N → parseFieldDescriptor (T j).2.2.1 = some (hx_fty ci j) ∧ (∀ i, i < N → j = i ∨ (T j).2.1 ≠ (T i).2.1) ∧ hx_nth (hx_kinds ci) j = some (defaultValue (hx_fty ci j)) := by
    intro j hj
    have h := List.all_eq_true.mp h3 j (List.mem_range.mpr hj)
    simp only [Bool.and_eq_true, decide_eq_true_eq] at h
    refine ⟨h.1.1, fun i hi => ?_, h.2⟩
    have h6 := List.all_eq_true.mp h.1.2 i (List.mem_range.mpr hi)
    simp only [Bool.or_eq_true, decide_eq_true_eq] at h6
    exact h6
  exact ⟨h1, fun w hw => hx_wd_in (List.all_eq_true.mp h2 w hw), fun j hj => (h3' j hj).1, fun a ha b hb hab => ((h3' a ha).2.1 b hb).resolve_left hab, fun j hj => (h3' j hj).2.2, h4, h5⟩
theorem hx_FL_at {o i ci j : Nat} (h : hx_has hx_FL (o, i, ci, j) = true) : ∃ (C : String) (T : u_T) (N : Nat), hx_nth vwCl ci = some (C, T, N) ∧ ci < 6 ∧ j < N ∧ (T j).1 = C ∧ Jvm.Cond.fieldLink (hx_R o) i C (T j).2.1 (T j).2.2.1 ∈ hx_LW := by
  obtain ⟨n, hn⟩ := hx_has_in h
  have hq := hx_FL_ok _ hn
  unfold hx_flok at hq
  dsimp only at hq
  split at hq
  · rename_i C T N hC
    simp only [Bool.and_eq_true, decide_eq_true_eq] at hq
    exact ⟨C, T, N, hC, hq.1.1.1, hq.1.1.2, hq.1.2, hx_wi_in hq.2⟩
  · cases hq
section HXS
variable {p : Program} {l : Launch} {e : Env} {R : Room} {s : State} {m : MethodId} {args : Array Value} {below : List Frame} {meth : Method} {c : Code} {Q : State → Prop}
variable {dC : Nat → ClassId} {dI : Nat → Nat → Nat} {A : Nat → Prop} {b : Nat} {G : Nat × (Nat → Nat)} {sc : Nat × (Nat → Int32)} {d k : Nat}
variable {pc : Nat} {ls : List (Option Value)} {st : List Value} {Hs : hx_HS} {u : Nat} {fs : hx_FS}
theorem hx_s_if {cond : Jvm.ClassFile.Cond} {o : Int} {t : Nat} (hx : p.tables.exec = Jvm.exec) (hb : c.code = hx_by k) (hd : decode (hx_by k) pc = .ok (.ifCond cond o, 3)) (ht : (pc : Int) + o = (t : Int))
    (h : hx_if cond t pc ls st Hs u = some (.inl fs)) (K : hx_Wt p l e R s m args below meth c Q dC dI A b G k fs) : hx_Wt p l e R s m args below meth c Q dC dI A b G k (pc, ls, st, Hs, u) := by
  unfold hx_if at h
  split at h
  · rename_i x r
    cases cond with
    | eq => exact hx_s_br (v := [.int x]) (fun kt kf => lv_if_eq hx hb hd ht kt kf) h K
    | ne => exact hx_s_br (v := [.int x]) (fun kt kf => lv_if_ne hx hb hd ht kt (fun z => kf (fun z2 => z2 z))) h K
    | lt => exact hx_s_br (v := [.int x]) (fun kt kf => lv_if_lt hx hb hd ht kt kf) h K
    | ge => exact hx_s_br (v := [.int x]) (fun kt kf => lv_if_ge hx hb hd ht kt kf) h K
    | gt => exact hx_s_br (v := [.int x]) (fun kt kf => lv_if_gt hx hb hd ht kt kf) h K
    | le => exact hx_s_br (v := [.int x]) (fun kt kf => lv_if_le hx hb hd ht kt kf) h K
  · cases h
theorem hx_s_icmp {cond : Jvm.ClassFile.Cond} {o : Int} {t : Nat} (hx : p.tables.exec = Jvm.exec) (hb : c.code = hx_by k) (hd : decode (hx_by k) pc = .ok (.if_icmp cond o, 3)) (ht : (pc : Int) + o = (t : Int))
    (h : hx_icmp cond t pc ls st Hs u = some (.inl fs)) (K : hx_Wt p l e R s m args below meth c Q dC dI A b G k fs) : hx_Wt p l e R s m args below meth c Q dC dI A b G k (pc, ls, st, Hs, u) := by
  unfold hx_icmp at h
  split at h
  · rename_i y x r
    cases cond with
    | eq => exact hx_s_br (v := [.int y, .int x]) (fun kt kf => lv_icmp_eq hx hb hd ht kt kf) h K
    | ne => exact hx_s_br (v := [.int y, .int x]) (fun kt kf => lv_icmp_ne hx hb hd ht kt (fun z => kf (fun z2 => z2 z))) h K
    | lt => exact hx_s_br (v := [.int y, .int x]) (fun kt kf => lv_icmp_lt hx hb hd ht kt kf) h K
    | ge => exact hx_s_br (v := [.int y, .int x]) (fun kt kf => lv_icmp_ge hx hb hd ht kt kf) h K
    | gt => exact hx_s_br (v := [.int y, .int x]) (fun kt kf => lv_icmp_gt hx hb hd ht kt kf) h K
    | le => exact hx_s_br (v := [.int y, .int x]) (fun kt kf => lv_icmp_le hx hb hd ht kt kf) h K
  · cases h
theorem hx_s_sw {df lo hi : Int} {os : Array Int} {len t : Nat} {tg : List Nat} (hx : p.tables.exec = Jvm.exec) (hb : c.code = hx_by k) (hd : decode (hx_by k) pc = .ok (.tableswitch df lo hi os, len)) (ht : (pc : Int) + df = (t : Int)) (hg : os.toList.map (fun o => (pc : Int) + o) = tg.map Int.ofNat)
    (h : hx_sw lo hi t tg ls st Hs u = some (.inl fs)) (K : hx_Wt p l e R s m args below meth c Q dC dI A b G k fs) : hx_Wt p l e R s m args below meth c Q dC dI A b G k (pc, ls, st, Hs, u) := by
  unfold hx_sw at h
  split at h
  · rename_i x r
    split at h
    · rename_i hout
      have e1 := hx_k_inj h
      subst e1
      intro H locs ad ac lc hI hL
      exact lv_tableOut hx hb hd hout ht (K H locs ad ac lc hI hL)
    · rename_i hin
      rw [not_or] at hin
      split at h
      · rename_i t2 ht2
        have e1 := hx_k_inj h
        subst e1
        intro H locs ad ac lc hI hL
        rw [hx_nth_eq] at ht2
        have h3 : (tg.map Int.ofNat)[(x.toInt - lo).toNat]? = some (Int.ofNat t2) := by rw [List.getElem?_map, ht2]; rfl
        rw [← hg, List.getElem?_map] at h3
        cases ho : os.toList[(x.toInt - lo).toNat]? with
        | none => rw [ho] at h3; cases h3
        | some off =>
          rw [ho] at h3
          have h4 : (pc : Int) + off = (t2 : Int) := Option.some.inj h3
          rw [Array.getElem?_toList] at ho
          exact lv_tableIn hx hb hd hin.1 hin.2 ho h4 (K H locs ad ac lc hI hL)
      · cases h
  · cases h
theorem hx_mapIdx_at {ks : List Value} {j : Nat} {w : Value} {f : Nat → Value → Value} (h : hx_nth ks j = some w) : (ks.mapIdx f)[j]? = some (f j w) := by
  rw [hx_nth_eq] at h
  rw [List.getElem?_mapIdx, h]
  rfl
theorem hx_s_get {i ci j : Nat} (hx : p.tables.exec = Jvm.exec) (hb : c.code = hx_by k) (hown : s.vm.findClass (hx_R (hx_own k)) = some m.cls) (hts : ∀ w ∈ hx_LW, w.before args s = true) (hK : va_K (dC, dI) vwCl [] s) (hd : decode (hx_by k) pc = .ok (.getfield i, 3)) (hl : hx_has hx_FL (hx_own k, i, ci, j) = true)
    (h : hx_get ci j pc ls st Hs u = some (.inl fs)) (K : hx_Wt p l e R s m args below meth c Q dC dI A b G k fs) : hx_Wt p l e R s m args below meth c Q dC dI A b G k (pc, ls, st, Hs, u) := by
  obtain ⟨C, T, N, hC, hci, hj, hTC, hw⟩ := hx_FL_at hl
  obtain ⟨hCR, hin, -⟩ := hx_cls hci hC
  unfold hx_get at h
  split at h
  · rename_i a r
    split at h
    · rename_i c9 ks hcell
      split at h
      · rename_i hcc
        subst hcc
        split at h
        · rename_i w hw9
          have e1 := hx_k_inj h
          subst e1
          intro H locs ad ac lc hI hL
          have he := hx_ws_at (ad := ad) (ac := ac) (b := b) hcell
          exact va_get hx hb hts hin hown hK hI.1 a he (by rw [← hx_nth_eq]; exact hC) j hj (hts _ hw) (fun x hx9 => by rw [hTC] at hx9; exact hx9) (hx_mapIdx_at hw9) hd (K H locs ad ac lc hI hL)
        · cases h
      · cases h
    · cases h
  · cases h
theorem hx_fit_ok {ty : FieldType} {x : Int32} (h : hx_fit ty x = true) : narrow ty (.int x) = .int x ∧ fits ty (.int x) = true := by
  unfold hx_fit at h
  split at h
  · exact ⟨rfl, rfl⟩
  · simp only [Bool.or_eq_true, decide_eq_true_eq] at h
    rcases h with rfl | rfl
    · exact ⟨by decide, by decide⟩
    · exact ⟨by decide, by decide⟩
  · cases h
theorem hx_rty_ok {ty : FieldType} {q : Nat} (h : hx_rty ty = true) : narrow ty (.ref q) = .ref q ∧ fits ty (.ref q) = true := by
  unfold hx_rty at h
  split at h
  · exact ⟨rfl, rfl⟩
  · exact ⟨rfl, rfl⟩
  · cases h
/-- a store in a field, final or not -/
theorem hx_putw {i ci j q0 a : Nat} {C : String} {T : u_T} {N : Nat} {H : Heap} {locs : List Loc} {ws : va_W} {cells slots : Nat} {lc : Array Slot} {rest : List Value} {v : Value} {gs : List Value} (hx : p.tables.exec = Jvm.exec) (hb : c.code = hx_by k) (hown : s.vm.findClass (hx_R (hx_own k)) = some m.cls) (hts : ∀ w ∈ hx_LW, w.before args s = true) (hK : va_K (dC, dI) vwCl [] s) (hd : decode (hx_by k) pc = .ok (.putfield i, 3))
    (hC : hx_nth vwCl ci = some (C, T, N)) (hci : ci < 6) (hj : j < N) (hTC : (T j).1 = C) (hw : Jvm.Cond.fieldLink (hx_R (hx_own k)) i C (T j).2.1 (T j).2.2.1 ∈ hx_LW) (hini : (hx_y k).name = "<init>" → meth.name = "<init>") (hfin : ((T j).2.2.2 = false ∨ ((hx_y k).name = "<init>" ∧ hx_own k = ci)))
    (hP : va_P (dC, dI) vwCl ws H) (hD : va_D A ws) (hS : va_S A s.heap H locs) (he : ws[q0]? = some (a, .inr (ci, gs))) (hn : narrow (hx_fty ci j) v = v) (hf : fits (hx_fty ci j) v = true) (hg : j < gs.length)
    (kk : ∀ (H1 : Heap) (locs1 : List Loc), va_P (dC, dI) vwCl (ws.set q0 (a, .inr (ci, gs.set j v))) H1 → va_D A (ws.set q0 (a, .inr (ci, gs.set j v))) → va_S A s.heap H1 locs1 → W p l e R s m args below meth c H1 locs1 cells slots Q (F0 m (pc + 3) lc rest)) : W p l e R s m args below meth c H locs cells slots Q (F0 m pc lc (v :: .ref a :: rest)) := by
  obtain ⟨hCR, hin, hty, hnm, -⟩ := hx_cls hci hC
  cases hz : (T j).2.2.2 with
  | false => exact va_put hx hb hts hin (hx_fty ci) hty hnm hown hK hP hD hS q0 he (by rw [← hx_nth_eq]; exact hC) j hj (hts _ hw) (fun x hx9 => by rw [hTC] at hx9; exact hx9) hz (hty j hj) hn hf hg hd kk
  | true =>
    rcases hfin with h | ⟨h1, h2⟩
    · rw [hz] at h; cases h
    · exact va_putF hx hb hts hin (hx_fty ci) hty hnm hown hK hP hD hS q0 he (by rw [← hx_nth_eq]; exact hC) j hj (hts _ hw) (fun x hx9 => by rw [hTC] at hx9; exact hx9) hz (hini h1) (by rw [hTC, hCR, h2]) (hty j hj) hn hf hg hd kk
theorem hx_mapIdx_set {ks : List Value} {j : Nat} {w : Value} {f g : Nat → Value → Value} (ho : ∀ i z, i ≠ j → g i z = f i z) : (ks.set j w).mapIdx g = (ks.mapIdx f).set j (g j w) := by
  apply List.ext_getElem?
  intro i
  by_cases hi : i = j
  · subst hi
    by_cases hl : i < ks.length
    · rw [List.getElem?_mapIdx, List.getElem?_set_self hl, List.getElem?_set_self (by rw [List.length_mapIdx]; exact hl)]
      rfl
    · rw [List.getElem?_eq_none (by rw [List.length_mapIdx, List.length_set]; omega), List.getElem?_eq_none (by rw [List.length_set, List.length_mapIdx]; omega)]
  · rw [List.getElem?_mapIdx, List.getElem?_set_ne (Ne.symm hi), List.getElem?_set_ne (Ne.symm hi), List.getElem?_mapIdx]
    cases ks[i]? with
    | none => rfl
    | some z => show some (g i z) = some (f i z); rw [ho i z hi]
theorem hx_set_same {α : Type} {l : List α} {j : Nat} {w : α} (h : hx_nth l j = some w) : l.set j w = l := by
  apply List.ext_getElem?
  intro i
  by_cases hi : i = j
  · subst hi
    rw [hx_nth_eq] at h
    rw [List.getElem?_set_self (List.getElem?_eq_some_iff.mp h).1, h]
  · rw [List.getElem?_set_ne (Ne.symm hi)]
theorem hx_lt_nth {α : Type} {l : List α} {j : Nat} {w : α} (h : hx_nth l j = some w) : j < l.length := by
  rw [hx_nth_eq] at h
  exact (List.getElem?_eq_some_iff.mp h).1
theorem hx_T_same {ac : Nat → ClassId} {Hs H2 : hx_HS} (h : hx_T s ac Hs) (e1 : H2.1 = Hs.1) : hx_T s ac H2 := fun k o hk => h k o (by rw [← e1]; exact hk)
theorem hx_s_put {i ci j : Nat} (hx : p.tables.exec = Jvm.exec) (hb : c.code = hx_by k) (hown : s.vm.findClass (hx_R (hx_own k)) = some m.cls) (hts : ∀ w ∈ hx_LW, w.before args s = true) (hK : va_K (dC, dI) vwCl [] s) (hini : (hx_y k).name = "<init>" → meth.name = "<init>") (hd : decode (hx_by k) pc = .ok (.putfield i, 3)) (hl : hx_has hx_FL (hx_own k, i, ci, j) = true)
    (hfin : (match hx_nth vwCl ci with
      | some (_, T, _) => decide ((T j).2.2.2 = false) || (decide ((hx_y k).name = "<init>") && decide (hx_own k = ci))
      | none => false) = true)
    (h : hx_put (hx_fty ci j) ci j pc ls st Hs u = some (.inl fs)) (K : hx_Wt p l e R s m args below meth c Q dC dI A b G k fs) : hx_Wt p l e R s m args below meth c Q dC dI A b G k (pc, ls, st, Hs, u) := by
  obtain ⟨C, T, N, hC, hci, hj, hTC, hw⟩ := hx_FL_at hl
  rw [hC] at hfin
  simp only [Bool.or_eq_true, Bool.and_eq_true, decide_eq_true_eq] at hfin
  unfold hx_put at h
  split at h
  · rename_i v a r
    split at h
    · rename_i c9 ks hcell
      split at h
      · rename_i hcc
        subst hcc
        have hlk : a < Hs.1.length := hx_lt_nth hcell
        split at h
        · rename_i z x hw9
          split at h
          · rename_i hfit
            obtain ⟨hn, hf⟩ := hx_fit_ok hfit
            have e1 := hx_k_inj h
            subst e1
            intro H locs ad ac lc hI hL
            have he := hx_ws_at (ad := ad) (ac := ac) (b := b) hcell
            refine hx_putw hx hb hown hts hK hd hC hci hj hTC hw hini hfin hI.1 hI.2.1 hI.2.2.1 he hn hf (by rw [List.length_mapIdx]; exact hx_lt_nth hw9) (fun H1 locs1 hP hD hS => ?_)
            have e2 : hx_ws ad ac b (Hs.1, hx_up Hs.2.1 a j x, Hs.2.2) = (hx_ws ad ac b Hs).set a (ad a, .inr (c9, (ks.mapIdx (fun j w => hx_cv ad b (hx_fv w (Hs.2.1 a j) (Hs.2.2 a j)))).set j (.int x))) := by
              rw [hx_ws_set (Hs := Hs) (H2 := (Hs.1, hx_up Hs.2.1 a j x, Hs.2.2)) (k := a) (e := .inl (c9, ks)) hcell rfl (fun z hz => ⟨rfl, hx_up_ne hz, rfl⟩)]
              congr 2
              show Sum.inr (c9, ks.mapIdx _) = _
              congr 2
              have := hx_mapIdx_set (ks := ks) (j := j) (w := .int z) (f := fun j w => hx_cv ad b (hx_fv w (Hs.2.1 a j) (Hs.2.2 a j))) (g := fun j2 w => hx_cv ad b (hx_fv w ((hx_up Hs.2.1 a j x) a j2) (Hs.2.2 a j2))) (fun i w hi => by simp only [hx_up_eq, if_neg hi])
              rw [hx_set_same hw9] at this
              rw [this]
              congr 1
              show Value.int (hx_up Hs.2.1 a j x a j) = _
              rw [hx_up_eq]
              simp
            exact K H1 locs1 ad ac lc ⟨by rw [e2]; exact hP, by rw [e2]; exact hD, hS, hx_T_same hI.2.2.2.1 rfl, hx_G_same hI.2.2.2.2 rfl⟩ hL
          · cases h
        · rename_i z x hw9
          split at h
          · rename_i hfit
            have e1 := hx_k_inj h
            subst e1
            intro H locs ad ac lc hI hL
            have he := hx_ws_at (ad := ad) (ac := ac) (b := b) hcell
            refine hx_putw hx hb hown hts hK hd hC hci hj hTC hw hini hfin hI.1 hI.2.1 hI.2.2.1 he (by rw [hfit]; rfl) (by rw [hfit]; rfl) (by rw [List.length_mapIdx]; exact hx_lt_nth hw9) (fun H1 locs1 hP hD hS => ?_)
            have e2 : hx_ws ad ac b (Hs.1, Hs.2.1, hx_up Hs.2.2 a j x) = (hx_ws ad ac b Hs).set a (ad a, .inr (c9, (ks.mapIdx (fun j w => hx_cv ad b (hx_fv w (Hs.2.1 a j) (Hs.2.2 a j)))).set j (.long x))) := by
              rw [hx_ws_set (Hs := Hs) (H2 := (Hs.1, Hs.2.1, hx_up Hs.2.2 a j x)) (k := a) (e := .inl (c9, ks)) hcell rfl (fun z hz => ⟨rfl, rfl, hx_up_ne hz⟩)]
              congr 2
              show Sum.inr (c9, ks.mapIdx _) = _
              congr 2
              have := hx_mapIdx_set (ks := ks) (j := j) (w := .long z) (f := fun j w => hx_cv ad b (hx_fv w (Hs.2.1 a j) (Hs.2.2 a j))) (g := fun j2 w => hx_cv ad b (hx_fv w (Hs.2.1 a j2) ((hx_up Hs.2.2 a j x) a j2))) (fun i w hi => by simp only [hx_up_eq, if_neg hi])
              rw [hx_set_same hw9] at this
              rw [this]
              congr 1
              show Value.long (hx_up Hs.2.2 a j x a j) = _
              rw [hx_up_eq]
              simp
            exact K H1 locs1 ad ac lc ⟨by rw [e2]; exact hP, by rw [e2]; exact hD, hS, hx_T_same hI.2.2.2.1 rfl, hx_G_same hI.2.2.2.2 rfl⟩ hL
          · cases h
        · rename_i q hw9
          split at h
          · rename_i hfit
            obtain ⟨hn, hf⟩ := hx_rty_ok (q := q) hfit
            have e1 := hx_k_inj h
            subst e1
            intro H locs ad ac lc hI hL
            have he := hx_ws_at (ad := ad) (ac := ac) (b := b) hcell
            obtain ⟨hn2, hf2⟩ := hx_rty_ok (q := ad q) hfit
            refine hx_putw hx hb hown hts hK hd hC hci hj hTC hw hini hfin hI.1 hI.2.1 hI.2.2.1 he (v := .ref (ad q)) hn2 hf2 (by rw [List.length_mapIdx]; exact hx_lt_nth hw9) (fun H1 locs1 hP hD hS => ?_)
            have e2 : hx_ws ad ac b (Hs.1.set a (.inl (c9, ks.set j (.ref q))), Hs.2) = (hx_ws ad ac b Hs).set a (ad a, .inr (c9, (ks.mapIdx (fun j w => hx_cv ad b (hx_fv w (Hs.2.1 a j) (Hs.2.2 a j)))).set j (.ref (ad q)))) := by
              rw [hx_ws_set (Hs := Hs) (H2 := (Hs.1.set a (.inl (c9, ks.set j (.ref q))), Hs.2)) (k := a) (e := .inl (c9, ks.set j (.ref q))) (hx_nth_set_self hlk) (List.length_set) (fun z hz => ⟨hx_nth_set_ne hz, rfl, rfl⟩)]
              congr 2
              show Sum.inr (c9, (ks.set j (.ref q)).mapIdx _) = _
              congr 2
              exact hx_mapIdx_set (fun i w hi => rfl)
            refine K H1 locs1 ad ac lc ⟨by rw [e2]; exact hP, by rw [e2]; exact hD, hS, fun k9 o hk9 => ?_, hx_G_same hI.2.2.2.2 (List.length_set)⟩ hL
            by_cases hz : k9 = a
            · subst hz
              have := hx_nth_set_eq hk9
              cases this
            · exact hI.2.2.2.1 k9 o (by rw [hx_nth_set_ne hz] at hk9; exact hk9)
          · cases h
        · cases h
      · cases h
    · cases h
  · cases h
end HXS
end
section
/-! ===== soundness, 5: arrays, what is made, natives ===== -/
theorem hx_K1 {dC : Nat → ClassId} {dI : Nat → Nat → Nat} {s : State} {cA : ClassId} {ty : FieldType} (hK : va_K (dC, dI) vwCl [] s) (h : ArrOfT s cA ty ∧ va_RA s cA ty) : va_K (dC, dI) vwCl [(cA, ty)] s := by
  refine ⟨hK.1, fun k q hk => ?_⟩
  cases k with
  | zero => cases hk; exact h
  | succ k => cases hk
theorem hx_inb_ok {i : Int32} {n : Nat} (h : hx_inb i n = true) : vp_in i n := by
  unfold hx_inb at h
  show ¬ (i < 0 ∨ n ≤ i.toNatClampNeg)
  exact of_decide_eq_true h
section HXS
variable {p : Program} {l : Launch} {e : Env} {R : Room} {s : State} {m : MethodId} {args : Array Value} {below : List Frame} {meth : Method} {c : Code} {Q : State → Prop}
variable {dC : Nat → ClassId} {dI : Nat → Nat → Nat} {A : Nat → Prop} {b : Nat} {G : Nat × (Nat → Nat)} {sc : Nat × (Nat → Int32)} {d k : Nat}
variable {pc : Nat} {ls : List (Option Value)} {st : List Value} {Hs : hx_HS} {u : Nat} {fs : hx_FS}
def hx_ldi (ty : FieldType) : Instr := match ty with
  | .int => .iaload
  | .boolean => .baload
  | .char => .caload
  | .long => .laload
  | _ => .aaload
theorem hx_s_arl {ty : FieldType} (hx : p.tables.exec = Jvm.exec) (hb : c.code = hx_by k) (hK : va_K (dC, dI) vwCl [] s) (hX : va_X b sc.1 sc.2 s s.heap) (hbl : b < s.heap.size) (hbA : ¬ A b) (hd : decode (hx_by k) pc = .ok (hx_ldi ty, 1))
    (h : hx_arl ty sc pc ls st Hs u = some (.inl fs)) (K : hx_Wt p l e R s m args below meth c Q dC dI A b G k fs) : hx_Wt p l e R s m args below meth c Q dC dI A b G k (pc, ls, st, Hs, u) := by
  unfold hx_arl at h
  split at h
  · rename_i i a r
    split at h
    · rename_i t n cs hcell
      split at h
      · rename_i hc
        obtain ⟨rfl, hin⟩ := hc
        have hin := hx_inb_ok hin
        have he := fun (ad : Nat → Nat) (ac : Nat → ClassId) => hx_ws_at (ad := ad) (ac := ac) (b := b) hcell
        split at h
        · have e1 := hx_k_inj h
          subst e1
          intro H locs ad ac lc hI hL
          exact va_iald hx hb (hx_K1 hK (hI.2.2.2.1 a _ hcell)) hI.1 a 0 (he ad ac) rfl hin hd (K H locs ad ac lc hI hL)
        · have e1 := hx_k_inj h
          subst e1
          intro H locs ad ac lc hI hL
          exact va_zald hx hb (hx_K1 hK (hI.2.2.2.1 a _ hcell)) hI.1 a 0 (he ad ac) rfl hin hd (K H locs ad ac lc hI hL)
        · have e1 := hx_k_inj h
          subst e1
          intro H locs ad ac lc hI hL
          exact va_cald hx hb (hx_K1 hK (hI.2.2.2.1 a _ hcell)) hI.1 a 0 (he ad ac) rfl hin hd (K H locs ad ac lc hI hL)
        · have e1 := hx_k_inj h
          subst e1
          intro H locs ad ac lc hI hL
          exact va_lald hx hb (hx_K1 hK (hI.2.2.2.1 a _ hcell)) hI.1 a 0 (he ad ac) rfl hin hd (K H locs ad ac lc hI hL)
        · split at h
          · rename_i q hq
            have e1 := hx_k_inj h
            subst e1
            intro H locs ad ac lc hI hL
            refine va_aldq hx hb (hx_K1 hK (hI.2.2.2.1 a _ hcell)) hI.1 a 0 (he ad ac) rfl hin hd ?_
            dsimp only
            rw [hq]
            exact K H locs ad ac lc hI hL
          · cases h
        · cases h
      · cases h
    · cases h
  · rename_i i z r
    split at h
    · rename_i hc
      obtain ⟨rfl, hin⟩ := hc
      have e1 := hx_k_inj h
      subst e1
      intro H locs ad ac lc hI hL
      exact va_sld hx hb hX hbl hbA hI.2.2.1 (hx_inb_ok hin) hd (K H locs ad ac lc hI hL)
    · cases h
  · cases h
def hx_sti (ty : FieldType) : Instr := match ty with
  | .int => .iastore
  | .boolean => .bastore
  | .char => .castore
  | .long => .lastore
  | _ => .aastore
theorem hx_s_ars {ty : FieldType} (hx : p.tables.exec = Jvm.exec) (hb : c.code = hx_by k) (hK : va_K (dC, dI) vwCl [] s) (hd : decode (hx_by k) pc = .ok (hx_sti ty, 1))
    (h : hx_ars ty pc ls st Hs u = some (.inl fs)) (K : hx_Wt p l e R s m args below meth c Q dC dI A b G k fs) : hx_Wt p l e R s m args below meth c Q dC dI A b G k (pc, ls, st, Hs, u) := by
  unfold hx_ars at h
  split at h
  · rename_i x i a r
    split at h
    · rename_i t n cs hcell
      split at h
      · rename_i hc
        obtain ⟨rfl, hin⟩ := hc
        have hin := hx_inb_ok hin
        have he := fun (ad : Nat → Nat) (ac : Nat → ClassId) => hx_ws_at (ad := ad) (ac := ac) (b := b) hcell
        split at h
        · have e1 := hx_k_inj h
          subst e1
          intro H locs ad ac lc hI hL
          refine va_iast hx hb (hx_K1 hK (hI.2.2.2.1 a _ hcell)) hI.1 hI.2.1 hI.2.2.1 a 0 (he ad ac) rfl hin hd (fun H1 locs1 hP hD hS => ?_)
          have e2 : hx_ws ad ac b (Hs.1, hx_up Hs.2.1 a i.toNatClampNeg x, Hs.2.2) = (hx_ws ad ac b Hs).set a (ad a, .inl (ac a, n, .inl (upd (Hs.2.1 a) i.toNatClampNeg x))) := by
            rw [hx_ws_set (Hs := Hs) (H2 := (Hs.1, hx_up Hs.2.1 a i.toNatClampNeg x, Hs.2.2)) (k := a) (e := .inr (.int, n, cs)) hcell rfl (fun z hz => ⟨rfl, hx_up_ne hz, rfl⟩)]
            show List.set _ a (ad a, Sum.inl (ac a, n, Sum.inl (hx_up Hs.2.1 a i.toNatClampNeg x a))) = _
            rw [hx_up_eq]
            rfl
          exact K H1 locs1 ad ac lc ⟨by rw [e2]; exact hP, by rw [e2]; exact hD, hS, hx_T_same hI.2.2.2.1 rfl, hx_G_same hI.2.2.2.2 rfl⟩ hL
        · have e1 := hx_k_inj h
          subst e1
          intro H locs ad ac lc hI hL
          refine va_zast hx hb (hx_K1 hK (hI.2.2.2.1 a _ hcell)) hI.1 hI.2.1 hI.2.2.1 a 0 (he ad ac) rfl hin hd (fun H1 locs1 hP hD hS => ?_)
          have e2 : hx_ws ad ac b (Hs.1, hx_up Hs.2.1 a i.toNatClampNeg (vp_nar .boolean x), Hs.2.2) = (hx_ws ad ac b Hs).set a (ad a, .inl (ac a, n, .inl (upd (Hs.2.1 a) i.toNatClampNeg (vp_nar .boolean x)))) := by
            rw [hx_ws_set (Hs := Hs) (H2 := (Hs.1, hx_up Hs.2.1 a i.toNatClampNeg (vp_nar .boolean x), Hs.2.2)) (k := a) (e := .inr (.boolean, n, cs)) hcell rfl (fun z hz => ⟨rfl, hx_up_ne hz, rfl⟩)]
            show List.set _ a (ad a, Sum.inl (ac a, n, Sum.inl (hx_up Hs.2.1 a i.toNatClampNeg (vp_nar .boolean x) a))) = _
            rw [hx_up_eq]
            rfl
          exact K H1 locs1 ad ac lc ⟨by rw [e2]; exact hP, by rw [e2]; exact hD, hS, hx_T_same hI.2.2.2.1 rfl, hx_G_same hI.2.2.2.2 rfl⟩ hL
        · have e1 := hx_k_inj h
          subst e1
          intro H locs ad ac lc hI hL
          refine va_cast hx hb (hx_K1 hK (hI.2.2.2.1 a _ hcell)) hI.1 hI.2.1 hI.2.2.1 a 0 (he ad ac) rfl hin hd (fun H1 locs1 hP hD hS => ?_)
          have e2 : hx_ws ad ac b (Hs.1, hx_up Hs.2.1 a i.toNatClampNeg (vp_nar .char x), Hs.2.2) = (hx_ws ad ac b Hs).set a (ad a, .inl (ac a, n, .inl (upd (Hs.2.1 a) i.toNatClampNeg (vp_nar .char x)))) := by
            rw [hx_ws_set (Hs := Hs) (H2 := (Hs.1, hx_up Hs.2.1 a i.toNatClampNeg (vp_nar .char x), Hs.2.2)) (k := a) (e := .inr (.char, n, cs)) hcell rfl (fun z hz => ⟨rfl, hx_up_ne hz, rfl⟩)]
            show List.set _ a (ad a, Sum.inl (ac a, n, Sum.inl (hx_up Hs.2.1 a i.toNatClampNeg (vp_nar .char x) a))) = _
            rw [hx_up_eq]
            rfl
          exact K H1 locs1 ad ac lc ⟨by rw [e2]; exact hP, by rw [e2]; exact hD, hS, hx_T_same hI.2.2.2.1 rfl, hx_G_same hI.2.2.2.2 rfl⟩ hL
        · cases h
      · cases h
    · cases h
  · rename_i x i a r
    split at h
    · rename_i t n cs hcell
      split at h
      · rename_i hc
        obtain ⟨rfl, rfl, hin⟩ := hc
        have hin := hx_inb_ok hin
        have he := fun (ad : Nat → Nat) (ac : Nat → ClassId) => hx_ws_at (ad := ad) (ac := ac) (b := b) hcell
        have e1 := hx_k_inj h
        subst e1
        intro H locs ad ac lc hI hL
        refine va_last hx hb (hx_K1 hK (hI.2.2.2.1 a _ hcell)) hI.1 hI.2.1 hI.2.2.1 a 0 (he ad ac) rfl hin hd (fun H1 locs1 hP hD hS => ?_)
        have e2 : hx_ws ad ac b (Hs.1, Hs.2.1, hx_up Hs.2.2 a i.toNatClampNeg x) = (hx_ws ad ac b Hs).set a (ad a, .inl (ac a, n, .inr (.inl (vp_updL (Hs.2.2 a) i.toNatClampNeg x)))) := by
          rw [hx_ws_set (Hs := Hs) (H2 := (Hs.1, Hs.2.1, hx_up Hs.2.2 a i.toNatClampNeg x)) (k := a) (e := .inr (.long, n, cs)) hcell rfl (fun z hz => ⟨rfl, rfl, hx_up_ne hz⟩)]
          show List.set _ a (ad a, Sum.inl (ac a, n, Sum.inr (Sum.inl (hx_up Hs.2.2 a i.toNatClampNeg x a)))) = _
          rw [hx_up_eq]
          rfl
        exact K H1 locs1 ad ac lc ⟨by rw [e2]; exact hP, by rw [e2]; exact hD, hS, hx_T_same hI.2.2.2.1 rfl, hx_G_same hI.2.2.2.2 rfl⟩ hL
      · cases h
    · cases h
  · rename_i q i a r
    split at h
    · rename_i t n cs ci ks hcell hq
      cases hcl : hx_nth vwCl ci with
      | none =>
        simp only [hcl] at h
        split at h
        · rename_i hc
          exact absurd hc.2.2.2 (by simp)
        · cases h
      | some cl =>
        simp only [hcl] at h
        split at h
        · rename_i hc
          obtain ⟨hin, hlen, rfl, hty⟩ := hc
          have hin := hx_inb_ok hin
          have ht := decide_eq_true_eq.mp hty
          subst ht
          have he := fun (ad : Nat → Nat) (ac : Nat → ClassId) => hx_ws_at (ad := ad) (ac := ac) (b := b) hcell
          have hv := fun (ad : Nat → Nat) (ac : Nat → ClassId) => hx_ws_at (ad := ad) (ac := ac) (b := b) hq
          have hlk : a < Hs.1.length := hx_lt_nth hcell
          have hlt : i.toNatClampNeg < n := Nat.not_le.mp fun z => hin (Or.inr z)
          have e1 := hx_k_inj h
          subst e1
          intro H locs ad ac lc hI hL
          refine va_astq hx hb (hx_K1 hK (hI.2.2.2.1 a _ hcell)) hI.1 hI.2.1 hI.2.2.1 a 0 q ci (r := cl) (he ad ac) rfl (hv ad ac) (by rw [← hx_nth_eq]; exact hcl) hin hd (fun H1 locs1 hP hD hS => ?_)
          have e2 : hx_ws ad ac b (Hs.1.set a (.inr (.object cl.1, n, cs.set i.toNatClampNeg (some q))), Hs.2) = (hx_ws ad ac b Hs).set a (ad a, .inl (ac a, n, .inr (.inr (.inr (.inr (va_up (fun i => match hx_nth cs i with
              | some (some q) => some (ad q)
              | _ => none) i.toNatClampNeg (some (ad q)))))))) := by
            rw [hx_ws_set (Hs := Hs) (H2 := (Hs.1.set a (.inr (.object cl.1, n, cs.set i.toNatClampNeg (some q))), Hs.2)) (k := a) (e := .inr (.object cl.1, n, cs.set i.toNatClampNeg (some q))) (hx_nth_set_self hlk) (List.length_set) (fun z hz => ⟨hx_nth_set_ne hz, rfl, rfl⟩)]
            show List.set _ a (ad a, Sum.inl (ac a, n, Sum.inr (Sum.inr (Sum.inr (Sum.inr _))))) = _
            congr 9
            funext z
            unfold va_up
            by_cases hz : z = i.toNatClampNeg
            · subst hz
              rw [if_pos rfl, hx_nth_set_self (by rw [hlen]; exact hlt)]
            · rw [if_neg hz, hx_nth_set_ne hz]
              rfl
          refine K H1 locs1 ad ac lc ⟨by rw [e2]; exact hP, by rw [e2]; exact hD, hS, fun k9 o hk9 => ?_, hx_G_same hI.2.2.2.2 (List.length_set)⟩ hL
          by_cases hz : k9 = a
          · subst hz
            have := hx_nth_set_eq hk9
            cases this
            have h5 := hI.2.2.2.1 _ _ hcell
            exact h5
          · exact hI.2.2.2.1 k9 o (by rw [hx_nth_set_ne hz] at hk9; exact hk9)
        · cases h
    · cases h
  · cases h
theorem hx_s_len (hx : p.tables.exec = Jvm.exec) (hb : c.code = hx_by k) (hX : va_X b sc.1 sc.2 s s.heap) (hbl : b < s.heap.size) (hbA : ¬ A b) (hd : decode (hx_by k) pc = .ok (.arraylength, 1))
    (h : hx_len sc pc ls st Hs u = some (.inl fs)) (K : hx_Wt p l e R s m args below meth c Q dC dI A b G k fs) : hx_Wt p l e R s m args below meth c Q dC dI A b G k (pc, ls, st, Hs, u) := by
  unfold hx_len at h
  split at h
  · have e1 := hx_k_inj h
    subst e1
    intro H locs ad ac lc hI hL
    exact va_slen hx hb hX hbl hbA hI.2.2.1 hd (K H locs ad ac lc hI hL)
  · cases h
theorem hx_s_copy {i : Nat} (hx : p.tables.exec = Jvm.exec) (hb : c.code = hx_by k) (hml : c.maxLocals = hx_ml k) (hown : s.vm.findClass (hx_R (hx_own k)) = some m.cls) (hts : ∀ w ∈ hx_LW, w.before args s = true) (hK : va_K (dC, dI) vwCl [] s) (hR : 20 ≤ R.frames ∧ 200 ≤ R.locals) (hl : hx_has hx_SL (hx_own k, i, 3) = true) (hd : decode (hx_by k) pc = .ok (.invokestatic i, 3))
    (h : hx_copy pc ls st Hs u = some (.inl fs)) (K : hx_Wt p l e R s m args below meth c Q dC dI A b G k fs) : hx_Wt p l e R s m args below meth c Q dC dI A b G k (pc, ls, st, Hs, u) := by
  obtain ⟨z9, hz9⟩ := hx_has_in hl
  have hw := hx_wi_in (hx_SL_ok _ hz9)
  have hw2 := hx_w_copy
  unfold hx_copy at h
  split at h
  · rename_i n dp b9 sp a r
    split at h
    · rename_i t1 n1 cs1 t2 n2 cs2 hc1 hc2
      split at h
      · rename_i hc
        obtain ⟨rfl, rfl, h1, h2, h3, h4, h5, h6⟩ := hc
        have e1 := hx_k_inj h
        subst e1
        intro H locs ad ac lc hI hL
        have he1 := hx_ws_at (ad := ad) (ac := ac) (b := b) hc1
        have he2 := hx_ws_at (ad := ad) (ac := ac) (b := b) hc2
        have hK2 : va_K (dC, dI) vwCl [(ac a, .int), (ac b9, .int)] s := (hx_K1 hK (hI.2.2.2.1 a _ hc1)).app (hx_K1 hK (hI.2.2.2.1 b9 _ hc2))
        refine va_copyi (ty := .int) hx hb (hml.trans hL.1.symm) hown (hts _ hw) (hts _ (hx_wd_in hw2.1)) (hts _ (hx_wd_in hw2.2.1)) (hts _ (hx_wd_in hw2.2.2)) hK2 hI.1 hI.2.1 hI.2.2.1 a b9 0 1 he1 he2 rfl rfl rfl h1 h2 h3 h4 h5 (fun _ _ => rfl) (by omega) ?_ hd (fun H1 locs1 hP hD hS => ?_)
        · rw [hx_cat_map]
          have : nativeFrameWords "java/lang/System" "arraycopy" 5 = 7 := by decide
          omega
        · have e2 : hx_ws ad ac b (Hs.1, hx_row Hs.2.1 b9 (va_cpy (Hs.2.1 a) (Hs.2.1 b9) sp.toNatClampNeg dp.toNatClampNeg n.toNatClampNeg), Hs.2.2) = (hx_ws ad ac b Hs).set b9 (ad b9, .inl (ac b9, n2, .inl (va_cpy (Hs.2.1 a) (Hs.2.1 b9) sp.toNatClampNeg dp.toNatClampNeg n.toNatClampNeg))) := by
            rw [hx_ws_set (Hs := Hs) (H2 := (Hs.1, hx_row Hs.2.1 b9 (va_cpy (Hs.2.1 a) (Hs.2.1 b9) sp.toNatClampNeg dp.toNatClampNeg n.toNatClampNeg), Hs.2.2)) (k := b9) (e := .inr (.int, n2, cs2)) hc2 rfl (fun z hz => ⟨rfl, hx_row_ne hz, rfl⟩)]
            show List.set _ b9 (ad b9, Sum.inl (ac b9, n2, Sum.inl (hx_row Hs.2.1 b9 _ b9))) = _
            rw [hx_row_eq]
          exact K H1 locs1 ad ac lc ⟨by rw [e2]; exact hP, by rw [e2]; exact hD, hS, hx_T_same hI.2.2.2.1 rfl, hx_G_same hI.2.2.2.2 rfl⟩ hL
      · cases h
    · cases h
  · cases h
theorem hx_s_abs {i : Nat} (hx : p.tables.exec = Jvm.exec) (hb : c.code = hx_by k) (hml : c.maxLocals = hx_ml k) (hown : s.vm.findClass (hx_R (hx_own k)) = some m.cls) (hts : ∀ w ∈ hx_LW, w.before args s = true) (hR : 20 ≤ R.frames ∧ 200 ≤ R.locals) (hRc : hx_bud k ≤ R.cells ∧ 1000 * hx_bud k ≤ R.slots) (hl : hx_has hx_SL (hx_own k, i, 1) = true) (hd : decode (hx_by k) pc = .ok (.invokestatic i, 3))
    (h : hx_abs (hx_bud k) pc ls st Hs u = some (.inl fs)) (K : hx_Wt p l e R s m args below meth c Q dC dI A b G k fs) : hx_Wt p l e R s m args below meth c Q dC dI A b G k (pc, ls, st, Hs, u) := by
  obtain ⟨z9, hz9⟩ := hx_has_in hl
  have hw := hx_wi_in (hx_SL_ok _ hz9)
  have hw2 := hx_w_abs
  unfold hx_abs at h
  split at h
  · rename_i x r
    split at h
    · rename_i hc
      have e1 := hx_k_inj h
      subst e1
      intro H locs ad ac lc hI hL
      refine va_mabs hx hb (hml.trans hL.1.symm) hown (hts _ hw) (hts _ (hx_wd_in hw2.1)) (hts _ (hx_wd_in hw2.2.1)) (hts _ (hx_wd_in hw2.2.2)) (by omega) ?_ (by show u ≤ _; omega) (by show 1000 * u ≤ _; omega) hd (K H locs ad ac lc hI hL)
      rw [hx_cat_map]
      omega
    · cases h
  · cases h
theorem hx_s_min {i : Nat} (hx : p.tables.exec = Jvm.exec) (hb : c.code = hx_by k) (hml : c.maxLocals = hx_ml k) (hown : s.vm.findClass (hx_R (hx_own k)) = some m.cls) (hts : ∀ w ∈ hx_LW, w.before args s = true) (hR : 20 ≤ R.frames ∧ 200 ≤ R.locals) (hRc : hx_bud k ≤ R.cells ∧ 1000 * hx_bud k ≤ R.slots) (hl : hx_has hx_SL (hx_own k, i, 2) = true) (hd : decode (hx_by k) pc = .ok (.invokestatic i, 3))
    (h : hx_min (hx_bud k) pc ls st Hs u = some (.inl fs)) (K : hx_Wt p l e R s m args below meth c Q dC dI A b G k fs) : hx_Wt p l e R s m args below meth c Q dC dI A b G k (pc, ls, st, Hs, u) := by
  obtain ⟨z9, hz9⟩ := hx_has_in hl
  have hw := hx_wi_in (hx_SL_ok _ hz9)
  have hw2 := hx_w_min
  unfold hx_min at h
  split at h
  · rename_i y x r
    split at h
    · rename_i hc
      have e1 := hx_k_inj h
      subst e1
      intro H locs ad ac lc hI hL
      refine va_mmin hx hb (hml.trans hL.1.symm) hown (hts _ hw) (hts _ (hx_wd_in hw2.1)) (hts _ (hx_wd_in hx_w_abs.2.1)) (hts _ (hx_wd_in hw2.2)) (by omega) ?_ (by show u ≤ _; omega) (by show 1000 * u ≤ _; omega) hd (K H locs ad ac lc hI hL)
      rw [hx_cat_map]
      omega
    · cases h
  · cases h
theorem hx_s_obj {i : Nat} (hx : p.tables.exec = Jvm.exec) (hb : c.code = hx_by k) (hml : c.maxLocals = hx_ml k) (hown : s.vm.findClass (hx_R (hx_own k)) = some m.cls) (hts : ∀ w ∈ hx_LW, w.before args s = true) (hR : 20 ≤ R.frames ∧ 200 ≤ R.locals) (hl : hx_has hx_SL (hx_own k, i, 0) = true) (hd : decode (hx_by k) pc = .ok (.invokespecial i, 3))
    (h : hx_objI pc ls st Hs u = some (.inl fs)) (K : hx_Wt p l e R s m args below meth c Q dC dI A b G k fs) : hx_Wt p l e R s m args below meth c Q dC dI A b G k (pc, ls, st, Hs, u) := by
  obtain ⟨z9, hz9⟩ := hx_has_in hl
  have hw := hx_wi_in (hx_SL_ok _ hz9)
  have hw2 := hx_w_obj
  unfold hx_objI at h
  split at h
  · rename_i a r
    split at h
    · rename_i hc
      have e1 := hx_k_inj h
      subst e1
      intro H locs ad ac lc hI hL
      refine W.objInit hx hb hown (hts _ hw) (hts _ (hx_wd_in hw2.1)) (hts _ (hx_wd_in hw2.2)) rfl (show lc.size = _ by rw [hL.1]; exact hml.symm) rfl hd (by omega) ?_ (K H locs ad ac lc hI hL)
      show 2 * 0 + ((r.map (hx_cv ad b)).map fun v => v.category).sum + 12 ≤ _
      rw [hx_cat_map]
      omega
    · cases h
  · cases h
end HXS
end
section
/-! ===== soundness, 6: what is made ===== -/
theorem hx_cv_ag {ad ad' : Nat → Nat} {b n : Nat} {v : Value} (hv : hx_wv n v = true) (ag : ∀ k, k < n → ad' k = ad k) : hx_cv ad' b v = hx_cv ad b v := by
  cases v with
  | ref a => show Value.ref (ad' a) = Value.ref (ad a); rw [ag a (of_decide_eq_true hv)]
  | _ => rfl
theorem hx_wv_fv {n : Nat} {w : Value} {x : Int32} {y : Int64} (h : hx_wv n w = true) : hx_wv n (hx_fv w x y) = true := by
  cases w with
  | int _ => rfl
  | long _ => rfl
  | _ => exact h
theorem hx_st_ag {ad ad' : Nat → Nat} {b n : Nat} {st : List Value} (h : hx_wvs n st = true) (ag : ∀ k, k < n → ad' k = ad k) : st.map (hx_cv ad' b) = st.map (hx_cv ad b) := by
  apply List.map_congr_left
  intro v hv
  exact hx_cv_ag (List.all_eq_true.mp h v hv) ag
theorem hx_L_ag {ad ad' : Nat → Nat} {b n nL : Nat} {lc : Array Slot} {ls : List (Option Value)} (hw : hx_wls n ls = true) (ag : ∀ k, k < n → ad' k = ad k) (h : hx_L ad b lc nL ls) : hx_L ad' b lc nL ls := by
  refine ⟨h.1, h.2.1, h.2.2.1, fun i v hi => ?_⟩
  have h2 := h.2.2.2 i v hi
  rw [hx_nth_eq] at hi
  have h3 := List.all_eq_true.mp hw _ (List.mem_of_getElem? hi)
  rw [hx_cv_ag h3 ag]
  exact h2
theorem hx_ec_ag {ad ad' : Nat → Nat} {ac ac' : Nat → ClassId} {b k n : Nat} {e : hx_SE} {d : Nat → Int32} {g : Nat → Int64} (he : hx_we n e = true) (ag : ∀ k, k < n → ad' k = ad k) (agc : ac' k = ac k) : hx_ec ad' ac' b k e d g = hx_ec ad ac b k e d g := by
  cases e with
  | inl o =>
    show Sum.inr (o.1, _) = Sum.inr (o.1, _)
    congr 2
    apply List.ext_getElem?
    intro i
    rw [List.getElem?_mapIdx, List.getElem?_mapIdx]
    cases hi : o.2[i]? with
    | none => rfl
    | some w =>
      show some (hx_cv ad' b _) = some (hx_cv ad b _)
      have h1 := List.all_eq_true.mp he w (List.mem_of_getElem? hi)
      rw [hx_cv_ag (hx_wv_fv h1) ag]
  | inr o =>
    obtain ⟨ty, m, cs⟩ := o
    cases ty with
    | object C =>
      have hf : (fun i => match hx_nth cs i with
        | some (some q) => some (ad' q)
        | _ => none) = (fun i => match hx_nth cs i with
        | some (some q) => some (ad q)
        | _ => none) := by
        funext i
        cases hi : hx_nth cs i with
        | none => rfl
        | some r =>
          cases r with
          | none => rfl
          | some q =>
            rw [hx_nth_eq] at hi
            have h1 := List.all_eq_true.mp he _ (List.mem_of_getElem? hi)
            show some (ad' q) = some (ad q)
            rw [ag q (of_decide_eq_true h1)]
      show Sum.inl (ac' k, m, _) = Sum.inl (ac k, m, _)
      rw [agc]
      exact congrArg (fun z => (Sum.inl (ac k, m, Sum.inr (Sum.inr (Sum.inr (Sum.inr z)))) : va_E)) hf
    | _ =>
      show Sum.inl (ac' k, m, _) = Sum.inl (ac k, m, _)
      rw [agc]
/-- one cell more -/
theorem hx_ws_push {ad ad' : Nat → Nat} {ac ac' : Nat → ClassId} {b : Nat} {Hs : hx_HS} {e : hx_SE} {f : Nat → Int32} {g : Nat → Int64} (hS : hx_wsh Hs.1 = true) (ag : ∀ k, k < Hs.1.length → ad' k = ad k) (agc : ∀ k, k < Hs.1.length → ac' k = ac k) :
    hx_ws ad' ac' b (Hs.1 ++ [e], hx_row Hs.2.1 Hs.1.length f, hx_row Hs.2.2 Hs.1.length g) = hx_ws ad ac b Hs ++ [(ad' Hs.1.length, hx_ec ad' ac' b Hs.1.length e f g)] := by
  apply List.ext_getElem?
  intro i
  unfold hx_ws
  rw [List.getElem?_mapIdx]
  by_cases hi : i < Hs.1.length
  · rw [List.getElem?_append_left hi, List.getElem?_append_left (by rw [List.length_mapIdx]; exact hi), List.getElem?_mapIdx]
    have hz : Hs.1[i]? = some Hs.1[i] := List.getElem?_eq_getElem hi
    rw [hz]
    have h1 := List.all_eq_true.mp hS _ (List.mem_of_getElem? hz)
    show some (ad' i, hx_ec ad' ac' b i _ (hx_row Hs.2.1 Hs.1.length f i) (hx_row Hs.2.2 Hs.1.length g i)) = some (ad i, _)
    rw [hx_row_ne (by omega), hx_row_ne (by omega), ag i hi, hx_ec_ag h1 ag (agc i hi)]
  · by_cases hj : i = Hs.1.length
    · subst hj
      rw [List.getElem?_append_right (Nat.le_refl _), List.getElem?_append_right (by rw [List.length_mapIdx]; exact Nat.le_refl _), Nat.sub_self, List.length_mapIdx, Nat.sub_self]
      show some (ad' _, hx_ec ad' ac' b _ _ (hx_row Hs.2.1 _ f _) (hx_row Hs.2.2 _ g _)) = some (_, _)
      rw [hx_row_eq, hx_row_eq]
    · rw [List.getElem?_eq_none (by simp; omega), List.getElem?_eq_none (by simp; omega)]
      rfl
theorem hx_dv (t : FieldType) (ad : Nat → Nat) (b : Nat) : hx_cv ad b (hx_fv (defaultValue t) 0 0) = defaultValue t := by cases t <;> rfl
theorem hx_kinds_wf (ci n : Nat) : (hx_kinds ci).all (hx_wv n) = true := by
  unfold hx_kinds
  split <;> rfl
theorem hx_nth_append {α : Type} {l : List α} {e : α} {k : Nat} {o : α} (h : hx_nth (l ++ [e]) k = some o) : (k < l.length ∧ hx_nth l k = some o) ∨ (k = l.length ∧ o = e) := by
  rw [hx_nth_eq] at h
  by_cases hk : k < l.length
  · rw [List.getElem?_append_left hk] at h
    exact Or.inl ⟨hk, by rw [hx_nth_eq]; exact h⟩
  · rw [List.getElem?_append_right (by omega)] at h
    cases hz : k - l.length with
    | zero =>
      rw [hz] at h
      cases h
      exact Or.inr ⟨by omega, rfl⟩
    | succ j => rw [hz] at h; cases h
theorem hx_clen {x : Int32} {n : Nat} (h : ¬ x < 0) : Int32.ofNat x.toNatClampNeg = x := by
  obtain ⟨j, hj, rfl⟩ := nI_of h
  rw [nI_clamp hj]
  rfl
section HXS
variable {p : Program} {l : Launch} {e : Env} {R : Room} {s : State} {m : MethodId} {args : Array Value} {below : List Frame} {meth : Method} {c : Code} {Q : State → Prop}
variable {dC : Nat → ClassId} {dI : Nat → Nat → Nat} {A : Nat → Prop} {b : Nat} {G : Nat × (Nat → Nat)} {sc : Nat × (Nat → Int32)} {d k : Nat}
variable {pc : Nat} {ls : List (Option Value)} {st : List Value} {Hs : hx_HS} {u : Nat} {fs : hx_FS}
theorem hx_s_newo {i ci : Nat} (hx : p.tables.exec = Jvm.exec) (hb : c.code = hx_by k) (hown : s.vm.findClass (hx_R (hx_own k)) = some m.cls) (hts : ∀ w ∈ hx_LW, w.before args s = true) (hK : va_K (dC, dI) vwCl [] s) (hA : ∀ q, s.heap.size ≤ q → A q) (hRc : hx_bud k ≤ R.cells ∧ 1000 * hx_bud k ≤ R.slots) (hl : hx_has hx_NL (hx_own k, i, ci) = true) (hd : decode (hx_by k) pc = .ok (.new i, 3))
    (h : hx_newo ci (hx_bud k) pc ls st Hs u = some (.inl fs)) (K : hx_Wt p l e R s m args below meth c Q dC dI A b G k fs) : hx_Wt p l e R s m args below meth c Q dC dI A b G k (pc, ls, st, Hs, u) := by
  obtain ⟨z9, hz9⟩ := hx_has_in hl
  have hq := hx_NL_ok _ hz9
  unfold hx_nlok at hq
  dsimp only at hq
  split at hq
  · rename_i C T N hC
    simp only [Bool.and_eq_true, decide_eq_true_eq] at hq
    obtain ⟨⟨⟨hci, hw1⟩, hw2⟩, hw3⟩ := hq
    obtain ⟨hCR, hin, hty, hnm, hdf, hlen, hN⟩ := hx_cls hci hC
    unfold hx_newo at h
    split at h
    · rename_i hc
      obtain ⟨hwf, hu⟩ := hc
      unfold hx_wf at hwf
      simp only [Bool.and_eq_true] at hwf
      have e1 := hx_k_inj h
      subst e1
      intro H locs ad ac lc hI hL
      have GG := hI.2.2.2.2
      refine va_new (fs := (hx_kinds ci).mapIdx (fun _ w => hx_cv ad b (hx_fv w 0 0))) hx hb hts hin (hx_fty ci) hty hown (hts _ (hx_wd_in hw1)) (hts _ (hx_wd_in hw2)) (hts _ (hx_wd_in hw3)) hK hI.1 hI.2.1 hI.2.2.1 hA (by rw [← hx_nth_eq]; exact hC) (fun j hj => ?_) (by show u + 1 ≤ _; omega) (by show 1000 * u + N ≤ _; omega) hd (fun q H1 hP hD hS => ?_)
      · have h3 := hdf j hj
        show _ = List.getD _ j _
        rw [List.getD_eq_getElem?_getD, hx_mapIdx_at h3]
        exact (hx_dv _ _ _).symm
      · have ag : ∀ z, z < Hs.1.length → (fun z => if z = Hs.1.length then q else ad z) z = ad z := fun z hz => if_neg (by omega)
        have e2 := hx_ws_push (ad := ad) (ad' := fun z => if z = Hs.1.length then q else ad z) (ac := ac) (ac' := ac) (b := b) (Hs := Hs) (e := .inl (ci, hx_kinds ci)) (f := fun _ => 0) (g := fun _ => 0) hwf.2 ag (fun _ _ => rfl)
        have e3 : hx_ec (fun z => if z = Hs.1.length then q else ad z) ac b Hs.1.length (.inl (ci, hx_kinds ci)) (fun _ => 0) (fun _ => 0) = hx_ec ad ac b Hs.1.length (.inl (ci, hx_kinds ci)) (fun _ => 0) (fun _ => 0) := hx_ec_ag (n := Hs.1.length) (hx_kinds_wf ci _) ag rfl
        rw [e3] at e2
        try dsimp only at e2
        rw [if_pos rfl] at e2
        refine W.widen (k := u + 1) (n := 1000 * (u + 1)) (Nat.le_refl _) (by show 1000 * u + N ≤ _; omega) ?_
        have K9 := K H1 locs (fun z => if z = Hs.1.length then q else ad z) ac lc ⟨by rw [e2]; exact hP, by rw [e2]; exact hD, hS, fun k9 o hk9 => ?_, hx_G_push GG ag (by simp only [List.length_append]; omega)⟩ (hx_L_ag hwf.1.1 ag hL)
        · simp only [List.map_cons] at K9
          rw [hx_st_ag hwf.1.2 ag] at K9
          have e4 : hx_cv (fun z => if z = Hs.1.length then q else ad z) b (.ref Hs.1.length) = .ref q := by
            show Value.ref (if _ then _ else _) = _
            rw [if_pos rfl]
          rw [e4] at K9
          exact K9
        · rcases hx_nth_append hk9 with ⟨-, h5⟩ | ⟨-, h5⟩
          · exact hI.2.2.2.1 k9 o h5
          · cases h5
    · cases h
  · cases hq
/-- a new array: what is common to the kinds -/
theorem hx_newx {ty : FieldType} {n : Nat} {cs : List (Option Nat)} {r : List Value} {q : Nat} {cA : ClassId} {H1 : Heap} {locs : List Loc} {ad : Nat → Nat} {ac : Nat → ClassId} {lc : Array Slot} {a0 : vp_A} {pc2 : Nat} (hwf : hx_wf ls r Hs.1 = true) (GG : hx_G G ad Hs) (hT : hx_T s ac Hs) (hL : hx_L ad b lc (hx_ml k) ls)
    (ha : ∀ ad2 ac2, hx_ec ad2 ac2 b Hs.1.length (.inr (ty, n, cs)) (fun _ => 0) (fun _ => 0) = .inl (ac2 Hs.1.length, a0)) (hn : n ≤ 1000) (hty : ArrOfT s cA ty ∧ va_RA s cA ty)
    (hP : va_P (dC, dI) vwCl (hx_ws ad ac b Hs ++ [(q, .inl (cA, a0))]) H1) (hD : va_D A (hx_ws ad ac b Hs ++ [(q, .inl (cA, a0))])) (hS : va_S A s.heap H1 locs)
    (K : hx_Wt p l e R s m args below meth c Q dC dI A b G k (pc2, ls, .ref Hs.1.length :: r, (Hs.1 ++ [.inr (ty, n, cs)], hx_row Hs.2.1 Hs.1.length (fun _ => 0), hx_row Hs.2.2 Hs.1.length (fun _ => 0)), u + 1)) :
    W p l e R s m args below meth c H1 locs (u + 1) (1000 * u + n) Q (F0 m pc2 lc (.ref q :: r.map (hx_cv ad b))) := by
  unfold hx_wf at hwf
  simp only [Bool.and_eq_true] at hwf
  have ag : ∀ z, z < Hs.1.length → (fun z => if z = Hs.1.length then q else ad z) z = ad z := fun z hz => if_neg (by omega)
  have agc : ∀ z, z < Hs.1.length → (fun z => if z = Hs.1.length then cA else ac z) z = ac z := fun z hz => if_neg (by omega)
  have e2 := hx_ws_push (ad := ad) (ad' := fun z => if z = Hs.1.length then q else ad z) (ac := ac) (ac' := fun z => if z = Hs.1.length then cA else ac z) (b := b) (Hs := Hs) (e := .inr (ty, n, cs)) (f := fun _ => 0) (g := fun _ => 0) hwf.2 ag agc
  rw [ha] at e2
  try dsimp only at e2
  rw [if_pos rfl, if_pos rfl] at e2
  refine W.widen (k := u + 1) (n := 1000 * (u + 1)) (Nat.le_refl _) (by omega) ?_
  have K9 := K H1 locs (fun z => if z = Hs.1.length then q else ad z) (fun z => if z = Hs.1.length then cA else ac z) lc ⟨by rw [e2]; exact hP, by rw [e2]; exact hD, hS, fun k9 o hk9 => ?_, hx_G_push GG ag (by simp only [List.length_append]; omega)⟩ (hx_L_ag hwf.1.1 ag hL)
  · simp only [List.map_cons] at K9
    rw [hx_st_ag hwf.1.2 ag] at K9
    have e4 : hx_cv (fun z => if z = Hs.1.length then q else ad z) b (.ref Hs.1.length) = .ref q := by
      show Value.ref (if _ then _ else _) = _
      rw [if_pos rfl]
    rw [e4] at K9
    exact K9
  · rcases hx_nth_append hk9 with ⟨h4, h5⟩ | ⟨h4, h5⟩
    · dsimp only
      rw [if_neg (by omega)]
      exact hT k9 o h5
    · cases h5
      dsimp only
      rw [if_pos h4]
      exact hty
theorem hx_s_newa {t : ArrayType} (hx : p.tables.exec = Jvm.exec) (hb : c.code = hx_by k) (hts : ∀ w ∈ hx_LW, w.before args s = true) (hK : va_K (dC, dI) vwCl [] s) (hA : ∀ q, s.heap.size ≤ q → A q) (hRc : hx_bud k ≤ R.cells ∧ 1000 * hx_bud k ≤ R.slots) (ht : t = .int ∨ t = .boolean ∨ t = .char ∨ t = .long) (hd : decode (hx_by k) pc = .ok (.newarray t, 2))
    (h : hx_newa (newarray.typeOf t) (hx_bud k) pc ls st Hs u = some (.inl fs)) (K : hx_Wt p l e R s m args below meth c Q dC dI A b G k fs) : hx_Wt p l e R s m args below meth c Q dC dI A b G k (pc, ls, st, Hs, u) := by
  have hw2 := hx_w_arr
  unfold hx_newa at h
  split at h
  · rename_i n r
    split at h
    · rename_i hc
      obtain ⟨hwf, hu, hn0, hn⟩ := hc
      have e1 := hx_k_inj h
      subst e1
      intro H locs ad ac lc hI hL
      rcases ht with rfl | rfl | rfl | rfl
      · exact va_newa (a0 := (n.toNatClampNeg, .inl (fun _ => 0))) (N' := n.toNatClampNeg) (ty := .int) (atype := .int) hx hb (hts _ (hx_wd_in hw2.1)) rfl hK hI.1 hI.2.1 hI.2.2.1 hA (fun _ => rfl) hn0 rfl (by show n.toNatClampNeg * 4 ≤ _; omega) (by show u + 1 ≤ _; omega) (by show 1000 * u + _ ≤ _; omega) hd (fun q cA H1 hK1 hP hD hS => hx_newx hwf hI.2.2.2.2 hI.2.2.2.1 hL (fun _ _ => rfl) hn (hK1.2 0 _ rfl) hP hD hS K)
      · exact va_newa (a0 := (n.toNatClampNeg, .inl (fun _ => 0))) (N' := n.toNatClampNeg) (ty := .boolean) (atype := .boolean) hx hb (hts _ (hx_wd_in hw2.2.1)) rfl hK hI.1 hI.2.1 hI.2.2.1 hA (fun _ => rfl) hn0 rfl (by show n.toNatClampNeg * 1 ≤ _; omega) (by show u + 1 ≤ _; omega) (by show 1000 * u + _ ≤ _; omega) hd (fun q cA H1 hK1 hP hD hS => hx_newx hwf hI.2.2.2.2 hI.2.2.2.1 hL (fun _ _ => rfl) hn (hK1.2 0 _ rfl) hP hD hS K)
      · exact va_newa (a0 := (n.toNatClampNeg, .inl (fun _ => 0))) (N' := n.toNatClampNeg) (ty := .char) (atype := .char) hx hb (hts _ (hx_wd_in hw2.2.2.1)) rfl hK hI.1 hI.2.1 hI.2.2.1 hA (fun _ => rfl) hn0 rfl (by show n.toNatClampNeg * 2 ≤ _; omega) (by show u + 1 ≤ _; omega) (by show 1000 * u + _ ≤ _; omega) hd (fun q cA H1 hK1 hP hD hS => hx_newx hwf hI.2.2.2.2 hI.2.2.2.1 hL (fun _ _ => rfl) hn (hK1.2 0 _ rfl) hP hD hS K)
      · exact va_newa (a0 := (n.toNatClampNeg, .inr (.inl (fun _ => 0)))) (N' := n.toNatClampNeg) (ty := .long) (atype := .long) hx hb (hts _ (hx_wd_in hw2.2.2.2)) rfl hK hI.1 hI.2.1 hI.2.2.1 hA (fun _ => rfl) hn0 rfl (by show n.toNatClampNeg * 8 ≤ _; omega) (by show u + 1 ≤ _; omega) (by show 1000 * u + _ ≤ _; omega) hd (fun q cA H1 hK1 hP hD hS => hx_newx hwf hI.2.2.2.2 hI.2.2.2.1 hL (fun _ _ => rfl) hn (hK1.2 0 _ rfl) hP hD hS K)
    · cases h
  · cases h
theorem hx_s_newq {i : Nat} (hx : p.tables.exec = Jvm.exec) (hb : c.code = hx_by k) (hown : s.vm.findClass (hx_R (hx_own k)) = some m.cls) (hts : ∀ w ∈ hx_LW, w.before args s = true) (hK : va_K (dC, dI) vwCl [] s) (hAO : va_AO RX3 s) (hA : ∀ q, s.heap.size ≤ q → A q) (hRc : hx_bud k ≤ R.cells ∧ 1000 * hx_bud k ≤ R.slots) (hl : hx_has hx_NL (hx_own k, i, 3) = true) (hd : decode (hx_by k) pc = .ok (.anewarray i, 3))
    (h : hx_newq RX3 (hx_bud k) pc ls st Hs u = some (.inl fs)) (K : hx_Wt p l e R s m args below meth c Q dC dI A b G k fs) : hx_Wt p l e R s m args below meth c Q dC dI A b G k (pc, ls, st, Hs, u) := by
  obtain ⟨z9, hz9⟩ := hx_has_in hl
  have hq := hx_NL_ok _ hz9
  have hq2 : hx_wd (.classLink (hx_R (hx_own k)) i RX3) = true := by
    unfold hx_nlok at hq
    dsimp only at hq
    rw [show hx_nth vwCl 3 = some (RX3, TX3, 8) from rfl] at hq
    simp only [Bool.and_eq_true] at hq
    exact hq.1.1.2
  unfold hx_newq at h
  split at h
  · rename_i n r
    split at h
    · rename_i hc
      obtain ⟨hwf, hu, hn0, hn⟩ := hc
      have e1 := hx_k_inj h
      subst e1
      intro H locs ad ac lc hI hL
      refine va_newq (N' := n.toNatClampNeg) hx hb hown (hts _ (hx_wd_in hq2)) hAO hK hI.1 hI.2.1 hI.2.2.1 hA hn0 rfl (by omega) (by show u + 1 ≤ _; omega) (by show 1000 * u + _ ≤ _; omega) hd (fun q cA H1 hK1 hP hD hS => hx_newx hwf hI.2.2.2.2 hI.2.2.2.1 hL (fun ad2 ac2 => ?_) hn (hK1.2 0 _ rfl) hP hD hS K)
      have hf : (fun z => match hx_nth (List.replicate n.toNatClampNeg none) z with
        | some (some q) => some (ad2 q)
        | _ => none) = (fun _ => none) := by
        funext z
        have h7 : ∀ (w : Nat), hx_nth (List.replicate w (none : Option Nat)) z = none ∨ hx_nth (List.replicate w (none : Option Nat)) z = some none := by
          intro w
          rw [hx_nth_eq, List.getElem?_replicate]
          split
          · exact Or.inr rfl
          · exact Or.inl rfl
        rcases h7 n.toNatClampNeg with h8 | h8 <;> rw [h8]
      exact congrArg (fun z => (Sum.inl (ac2 Hs.1.length, n.toNatClampNeg, Sum.inr (Sum.inr (Sum.inr (Sum.inr z)))) : va_E)) hf
    · cases h
  · cases h
end HXS
end
section
/-! ===== soundness, 7: contracts out of runs: entry, premises that move, what comes behind a call ===== -/
theorem hx_args_len (ad : Nat → Nat) (b : Nat) : ∀ as : List Value, (lg_sl (as.map (hx_cv ad b))).length = (hx_args as).length
  | [] => rfl
  | v :: as => by
    have ih := hx_args_len ad b as
    unfold lg_sl at ih ⊢
    rw [List.map_cons, List.flatMap_cons, List.length_append, ih, hx_cv_cat, show hx_args (v :: as) = if hx_c2 v then some v :: none :: hx_args as else some v :: hx_args as from rfl]
    by_cases hc : hx_c2 v = true
    · rw [if_pos ((hx_c2_cat v).mp hc), if_pos hc]
      simp only [List.length_cons, List.length_nil]
      omega
    · rw [if_neg (fun z => hc ((hx_c2_cat v).mpr z)), if_neg hc]
      simp only [List.length_cons, List.length_nil]
      omega
theorem hx_args_mem (ad : Nat → Nat) (b : Nat) : ∀ (as : List Value) (m j i : Nat) (v : Value), hx_nth (hx_args as ++ List.replicate m none) i = some (some v) → (j + i, hx_cv ad b v) ∈ lv_args j (as.map (hx_cv ad b))
  | [], m, j, i, v, h => by
    rw [hx_nth_eq] at h
    have h1 := List.mem_of_getElem? h
    rcases List.mem_append.mp h1 with h2 | h2
    · cases h2
    · have := (List.mem_replicate.mp h2).2
      cases this
  | w :: as, m, j, i, v, h => by
    rw [List.map_cons]
    unfold lv_args
    rw [hx_cv_cat]
    unfold hx_args at h
    by_cases hc : hx_c2 w = true
    · rw [if_pos hc] at h
      rw [if_pos ((hx_c2_cat w).mp hc)]
      match i, h with
      | 0, h => cases h; exact List.mem_cons_self
      | 1, h => cases h
      | i + 2, h =>
        have := hx_args_mem ad b as m (j + 2) i v h
        rw [show j + 2 + i = j + (i + 2) by omega] at this
        exact List.mem_cons_of_mem _ this
    · rw [if_neg hc] at h
      rw [if_neg (fun z => hc ((hx_c2_cat w).mpr z))]
      match i, h with
      | 0, h => cases h; exact List.mem_cons_self
      | i + 1, h =>
        have := hx_args_mem ad b as m (j + 1) i v h
        rw [show j + 1 + i = j + (i + 1) by omega] at this
        exact List.mem_cons_of_mem _ this
theorem hx_L_entry (ad : Nat → Nat) (b : Nat) (as : List Value) {n : Nat} (hn : (hx_args as).length ≤ n) : hx_L ad b ((lg_sl (as.map (hx_cv ad b)) ++ List.replicate (n - (lg_sl (as.map (hx_cv ad b))).length) Slot.unset).toArray) n (hx_entry as n) := by
  have h := lv_entry (as.map (hx_cv ad b)) (n := n) (by rw [hx_args_len]; exact hn)
  refine ⟨h.1, ?_, h.2.1, fun i v hi => ?_⟩
  · unfold hx_entry
    rw [List.length_append, List.length_replicate]
    omega
  · have h2 := hx_args_mem ad b as _ 0 i v hi
    rw [Nat.zero_add] at h2
    exact h.2.2 _ h2
theorem hx_St_move {sc : Nat × (Nat → Int32)} {b : Nat} {A A' : Nat → Prop} {s U : State} {H : Heap} {locs : List Loc} (h : hx_St sc b A s s.heap) (hS : va_S A s.heap H locs) (hU : U.heap = H) (hW : s.WarmedH U.vm) (hA : ∀ q, A' q → A q) : hx_St sc b A' U U.heap := by
  obtain ⟨h1, h2, h3, h4, h5, h6, h7, h8, h9, h10⟩ := h
  have kept : ∀ a : Nat, a < s.heap.size → ¬ A a → U.heap[a]? = s.heap[a]? := fun a ha hz => by rw [hU]; exact hS.2.1 a ha hz
  refine ⟨va_X.moved hW.alike (h1.kept (kept b h2 h3)), by rw [hU]; exact Nat.lt_of_lt_of_le h2 hS.1, fun z => h3 (hA _ z), (vx_Zq.moved hW.alike (h4.kept kept)).narrow hA, (vx_Zq.moved hW.alike (h5.kept kept)).narrow hA, fun q hq => ?_, h7.moved hW.alike, fun q hq => (h8 q hq).warmM hW, fun q hq => (h9 q hq).moved hW.alike, fun w hw => ?_⟩
  · obtain ⟨a, ha⟩ := h6 q hq
    exact ⟨a, ha.warm hW⟩
  · have := h10 w hw
    simp only [hx_xw, List.mem_cons, List.not_mem_nil, or_false] at hw
    rcases hw with rfl | rfl | rfl | rfl | rfl | rfl | rfl | rfl | rfl
    · exact this.warmC hW
    · exact this.warmC hW
    · exact this.warmC hW
    · exact this.warmD hW
    · exact this.warmD hW
    · exact this.warmD hW
    · exact this.warmD hW
    · exact this.warmD hW
    · exact this.warmD hW
theorem hx_T_moved {s U : State} {ac : Nat → ClassId} {Hs : hx_HS} (hvm : s.vm.Alike U.vm) (h : hx_T s ac Hs) : hx_T U ac Hs := fun k o hk => ⟨arrOfT_moved hvm (h k o hk).1, (h k o hk).2.moved hvm⟩
/-- a method's start, and its ends -/
def hx_W0 (dC : Nat → ClassId) (dI : Nat → Nat → Nat) (ad : Nat → Nat) (ac : Nat → ClassId) (b : Nat) (sc : Nat × (Nat → Int32)) (Hs : hx_HS) (sz : Nat) (U : State) : Prop :=
  U.heap.size = sz ∧ va_P (dC, dI) vwCl (hx_ws ad ac b Hs) U.heap ∧ va_K (dC, dI) vwCl [] U ∧ hx_T U ac Hs ∧ va_D (fun _ => True) (hx_ws ad ac b Hs) ∧ hx_St sc b (va_A (hx_ws ad ac b Hs) sz) U U.heap
def hx_W1 (dC : Nat → ClassId) (dI : Nat → Nat → Nat) (ad : Nat → Nat) (b n0 : Nat) (A : Nat → Prop) (Hs : hx_HS) (ad' : Nat → Nat) (t : State) : Prop :=
  hx_G (n0, ad) ad' Hs ∧ ∃ ac' : Nat → ClassId, va_P (dC, dI) vwCl (hx_ws ad' ac' b Hs) t.heap ∧ hx_T t ac' Hs ∧ va_D A (hx_ws ad' ac' b Hs)
def hx_Qc (dC : Nat → ClassId) (dI : Nat → Nat → Nat) (ad : Nat → Nat) (b n0 : Nat) (A : Nat → Prop) (res : hx_RS) (Hs : hx_HS) : Array Value → State → Outcome → State → Prop := fun _ st o t =>
  (∃ (v : Option Value) (ad' : Nat → Nat), res = .inl v ∧ o = .returned (v.map (hx_cv ad' b)) ∧ hx_W1 dC dI ad b n0 A Hs ad' t) ∧ va_F A st t
def hx_XC (dC : Nat → ClassId) (dI : Nat → Nat → Nat) (ad : Nat → Nat) (b n0 : Nat) (A : Nat → Prop) (res : hx_RS) (Hs : hx_HS) : String → State → State → Prop := fun E st t =>
  (∃ (E0 : Nat) (ad' : Nat → Nat), res = .inr E0 ∧ E = hx_E E0 ∧ hx_W1 dC dI ad b n0 A Hs ad' t) ∧ va_F A st t
def hx_rm (d k : Nat) : Room := { frames := d + 20, cells := hx_bud k, slots := 1000 * hx_bud k, locals := 60 * d + 200 }
def hx_cws (k : Nat) : List Jvm.Cond := hx_cw k :: hx_LW
theorem hx_blind {dC : Nat → ClassId} {dI : Nat → Nat → Nat} {ad : Nat → Nat} {ac : Nat → ClassId} {b : Nat} {sc : Nat × (Nat → Int32)} {Hs : hx_HS} {sz : Nat} {av : List Value} : FrameBlind (va_Pc av (hx_W0 dC dI ad ac b sc Hs sz)) := by
  intro a U g mk q
  obtain ⟨q1, q2, q3, q4, q5, q6, q7⟩ := q
  refine ⟨q1, q2, q3, va_K.moved (u := U) (U := U.calling g mk a) (Vm.Alike.refl U.vm) q4, hx_T_moved (s := U) (U := U.calling g mk a) (Vm.Alike.refl U.vm) q5, q6, ?_⟩
  exact hx_St_move (s := U) (U := U.calling g mk a) (H := U.heap) q7 va_S.rf rfl (State.WarmedH.refl U) (fun _ z => z)
theorem hx_LW_good : ∀ w ∈ hx_LW, goodWord w = true := fun w hw => (List.mem_filter.mp hw).2
theorem hx_GoodIn {ws : List Jvm.Cond} (h : ∀ w ∈ ws, w ∈ hx_LW) : GoodIn hx_LW ws := fun w hw => ⟨h w hw, good_of_word (hx_LW_good w (h w hw))⟩
theorem hx_LW_lw : ∀ w ∈ hx_LW, w ∈ lw_tbl := fun w hw => (List.mem_filter.mp hw).1
/-- what the tables say of a callee -/
theorem hx_mokS {k : Nat} (hk : k < 202) : hx_cw k ∈ hx_LW ∧ (if hx_stat k = true then Jvm.Cond.static (hx_y k) ∈ hx_LW else Jvm.Cond.instanceMethod (hx_y k) ∈ hx_LW ∧ ((hx_y k).name = "<init>" ∨ Jvm.Cond.selects (hx_y k).cls (hx_y k) (hx_y k) ∈ hx_LW)) ∧ Jvm.Cond.initialized (hx_y k).cls ∈ hx_LW ∧ plainName (hx_y k).cls = true ∧ (hx_y k).cls = hx_R (hx_own k) ∧
    (hx_y k).cls ≠ "java/lang/invoke/MethodHandle" ∧ (hx_y k).cls ≠ "java/lang/invoke/VarHandle" ∧ (parseMethodDescriptor (hx_y k).desc).map (fun d => d.parameters.length) = some (hx_np k) ∧ hx_ml k ≤ 40 ∧ hx_hk k (hx_hh k) (hx_ct k) = true := by
  have h := hx_mok_all k hk
  unfold hx_mok at h
  split at h
  · cases h
  · simp only [Bool.and_eq_true, decide_eq_true_eq] at h
    obtain ⟨⟨⟨⟨⟨⟨⟨⟨⟨h1, h2⟩, h3⟩, h4⟩, h5⟩, h6⟩, h7⟩, h8⟩, h9⟩, h10⟩ := h
    refine ⟨hx_wi_in h1, ?_, hx_wi_in h3, h4, h5, h6, h7, h8, h9, h10⟩
    by_cases hs : hx_stat k = true
    · rw [if_pos hs] at h2 ⊢
      exact hx_wi_in h2
    · rw [if_neg hs] at h2 ⊢
      simp only [Bool.and_eq_true, Bool.or_eq_true, decide_eq_true_eq] at h2
      refine ⟨hx_wi_in h2.1, ?_⟩
      rcases h2.2 with z | z
      · exact Or.inl z
      · exact Or.inr (hx_wi_in z)
theorem hx_hk_all (k : Nat) : hx_hk k (hx_hh k) (hx_ct k) = true := by
  by_cases hk : k < 202
  · exact (hx_mokS hk).2.2.2.2.2.2.2.2.2
  · by_cases h2 : k = 202
    · rw [h2]; rfl
    · have e1 : hx_hh k = [] := by
        unfold hx_hh
        rw [hx_nth_eq, List.getElem?_eq_none (by show 203 ≤ k; omega)]
      have e2 : hx_ct k = [] := by
        unfold hx_ct
        rw [hx_nth_eq, List.getElem?_eq_none (by show 203 ≤ k; omega)]
      rw [e1, e2]
      rfl
section HXC
variable {p : Program} {l : Launch} {e : Env} {R : Room} {s : State} {m : MethodId} {args : Array Value} {below : List Frame} {meth : Method} {c : Code} {H : Heap} {locs : List Loc} {cells slots : Nat} {Q : State → Prop}
theorem hx_after {mc ms pc : Nat} {lc : Array Slot} {st0 rest : List Value} {Qa : State → Outcome → State → Prop} {XC : String → State → State → Prop} {free : Addr → Prop} (hr : vx_Run p l e R s m args below meth c H locs cells slots mc ms (F0 m pc lc st0) rest Qa XC free)
    (kx : ∀ (E : String) (ce : Cell) (q9 : Addr) (st₀ t : State) (H1 : Heap) (L : List Loc), st₀.heap = H → t.heap = H1 → s.vm.Alike t.vm → XC E st₀ t → (∀ z ∈ L, free z.base) → H1[q9]? = some ce → ce.vm = .none → s.vm.findClass E = some ce.cls → vx_W p l e R s m args below meth c H1 (locs ++ L) (cells + mc) (slots + ms) Q (F0 m pc lc rest) q9)
    (kk : ∀ (v : Option Value) (st₀ t : State) (H1 : Heap) (L : List Loc), st₀.heap = H → t.heap = H1 → s.vm.Alike t.vm → Qa st₀ (.returned v) t → (∀ z ∈ L, free z.base) → W p l e R s m args below meth c H1 (locs ++ L) (cells + mc) (slots + ms) Q (F0 m (pc + 3) lc (v.toList ++ rest))) : W p l e R s m args below meth c H locs cells slots Q (F0 m pc lc st0) := by
  intro T hT X
  rcases hr T hT X with ⟨v, st₀, t, T', L, h0, X', hL, e1, e2, hQ, st⟩ | ⟨q, st₀, t, T', L, E, ce, h0, X', hL, e1, e2, hX, hce, hcv, hcl, st⟩
  · obtain ⟨t2, a1, b1⟩ := kk v st₀ t T'.heap L h0 e1.symm (by rw [← e2]; exact X'.warmed.alike) hQ hL T' rfl X'
    exact ⟨t2, st t2 a1, b1⟩
  · obtain ⟨t2, a1, b1⟩ := kx E ce q st₀ t T'.heap L h0 e1.symm (by rw [← e2]; exact X'.warmed.alike) hX hL (by rw [e1]; exact hce) hcv hcl T' rfl X'
    exact ⟨t2, st.trans a1, b1⟩
end HXC
/-- which row of the table takes it -/
theorem hx_hk_find {k E j npc : Nat} : ∀ (hs qs : List (Nat × Nat × Nat × Nat)), hx_hk k hs qs = true → hx_find qs E = some (j, npc) → ∃ (pre : List (Nat × Nat × Nat × Nat)) (x : Nat × Nat × Nat × Nat) (suf : List (Nat × Nat × Nat × Nat)), hs = pre ++ x :: suf ∧ (∀ z ∈ pre, z.2.2.2 ≠ 0 ∧ ∃ E2, E2 < 3 ∧ E2 ≠ E ∧ Jvm.Cond.classLink (hx_R (hx_own k)) z.2.2.2 (hx_E E2) ∈ hx_LW) ∧ x.2.2.2 ≠ 0 ∧ E < 3 ∧ Jvm.Cond.classLink (hx_R (hx_own k)) x.2.2.2 (hx_E E) ∈ hx_LW ∧
    ((npc = x.2.2.1 + 1 ∧ ∃ j2 : Fin 4, j2.val = j ∧ decode (hx_by k) x.2.2.1 = .ok (.astore_n j2, 1)) ∨ (npc = x.2.2.1 + 2 ∧ decode (hx_by k) x.2.2.1 = .ok (.astore j, 2)))
  | [], [], _, h => by cases h
  | [], _ :: _, h, _ => by cases h
  | _ :: _, [], h, _ => by cases h
  | h :: hs, q :: qs, hh, hf => by
    unfold hx_hk at hh
    simp only [Bool.and_eq_true, decide_eq_true_eq] at hh
    obtain ⟨⟨⟨⟨⟨h1, h2⟩, h3⟩, h4⟩, h5⟩, h6⟩ := hh
    obtain ⟨z9, hz9⟩ := hx_has_in h4
    have hw : Jvm.Cond.classLink (hx_R (hx_own k)) h.2.2.2 (hx_E q.1) ∈ hx_LW := hx_wd_in (hx_CL_ok _ hz9)
    unfold hx_find at hf
    split at hf
    · rename_i he
      cases hf
      subst he
      refine ⟨[], h, hs, rfl, (fun z hz => by cases hz), h3, h2, hw, ?_⟩
      rw [h1]
      split at h5
      · rename_i h7
        split at h5
        · rename_i j2 hj2
          exact Or.inl ⟨h7, j2, of_decide_eq_true h5, hj2⟩
        · cases h5
      · simp only [Bool.and_eq_true, decide_eq_true_eq] at h5
        exact Or.inr ⟨h5.1, hx_isd_ok h5.2⟩
    · rename_i hne
      obtain ⟨pre, x, suf, e1, e2, e3⟩ := hx_hk_find hs qs h6 hf
      refine ⟨h :: pre, x, suf, by rw [e1]; rfl, fun z hz => ?_, e3⟩
      rcases List.mem_cons.mp hz with rfl | hz
      · exact ⟨h3, q.1, h2, hne, hw⟩
      · exact e2 z hz
end
section
/-! ===== soundness, 8: runs, frames, contracts: the whole of it ===== -/
def hx_rok (i : Instr) (rt : Option FieldType) (st : List Value) (v : Option Value) : Prop :=
  (∃ x, i = .ireturn ∧ st = [.int x] ∧ v = some (.int x) ∧ (rt = some .int ∨ (rt = some .boolean ∧ (x = 0 ∨ x = 1)))) ∨ (∃ x, i = .lreturn ∧ st = [.long x] ∧ v = some (.long x) ∧ rt = some .long) ∨ (∃ x, i = .freturn ∧ st = [.float x] ∧ v = some (.float x) ∧ rt = some .float) ∨ (∃ x, i = .dreturn ∧ st = [.double x] ∧ v = some (.double x) ∧ rt = some .double) ∨ (i = .return_ ∧ st = [] ∧ v = none ∧ rt = none) ∨ (∃ x C, i = .areturn ∧ st = [.ref x] ∧ v = some (.ref x) ∧ rt = some (.object C))
def hx_Ret (p : Program) (l : Launch) (e : Env) (R : Room) (s : State) (m : MethodId) (args : Array Value) (below : List Frame) (meth : Method) (c : Code) (Q : State → Prop) (dC : Nat → ClassId) (dI : Nat → Nat → Nat) (A : Nat → Prop) (b : Nat) (G : Nat × (Nat → Nat)) (k : Nat) (res : hx_RS) (Hs : hx_HS) (u : Nat) : Prop :=
  ∀ v, res = .inl v → ∀ (pc0 : Nat) (i : Instr) (st0 : List Value) (H : Heap) (locs : List Loc) (ad : Nat → Nat) (ac : Nat → ClassId) (lc : Array Slot), decode (hx_by k) pc0 = .ok (i, 1) → hx_rok i (hx_rt k) st0 v → hx_I dC dI A s b G H locs ad ac Hs → lc.size = hx_ml k → W p l e R s m args below meth c H locs u (1000 * u) Q (F0 m pc0 lc (st0.map (hx_cv ad b)))
def hx_Out (p : Program) (l : Launch) (e : Env) (R : Room) (s : State) (m : MethodId) (args : Array Value) (below : List Frame) (meth : Method) (c : Code) (Q : State → Prop) (dC : Nat → ClassId) (dI : Nat → Nat → Nat) (A : Nat → Prop) (b : Nat) (G : Nat × (Nat → Nat)) (k : Nat) (res : hx_RS) (Hs : hx_HS) (u : Nat) : Prop :=
  ∀ E, res = .inr E → ∀ (pc0 : Nat) (H : Heap) (locs : List Loc) (ad : Nat → Nat) (ac : Nat → ClassId) (lc : Array Slot) (rest : List Value) (q : Nat) (ce : Cell), hx_hh k = [] → hx_I dC dI A s b G H locs ad ac Hs → H[q]? = some ce → ce.vm = .none → s.vm.findClass (hx_E E) = some ce.cls → vx_W p l e R s m args below meth c H locs u (1000 * u) Q (F0 m pc0 lc rest) q
def hx_Thr (p : Program) (l : Launch) (e : Env) (R : Room) (s : State) (m : MethodId) (args : Array Value) (below : List Frame) (meth : Method) (c : Code) (Q : State → Prop) (dC : Nat → ClassId) (dI : Nat → Nat → Nat) (A : Nat → Prop) (b : Nat) (G : Nat × (Nat → Nat)) (k : Nat) (res : hx_RS) (Hs : hx_HS) (u : Nat) : Prop :=
  ∀ E, res = .inr E → ∀ (pc0 ik si ic ln bb u0 : Nat) (v : Value) (st0 : List Value) (H : Heap) (locs : List Loc) (ad : Nat → Nat) (ac : Nat → ClassId) (lc : Array Slot), hx_at k pc0 = some (.new ik, E, bb, v, [si, ic, ln]) → hx_I dC dI A s b G H locs ad ac Hs → lc.size = hx_ml k → hx_cat st0 ≤ 8 → u0 + 1 = u → W p l e R s m args below meth c H locs u0 (1000 * u0) Q (F0 m pc0 lc (st0.map (hx_cv ad b)))
def hx_A (n : Nat) : Prop := ∀ (sc : Nat × (Nat → Int32)) (d k pc : Nat) (ls : List (Option Value)) (st : List Value) (Hs : hx_HS) (u : Nat) (res : hx_RS) (H2 : hx_HS) (u2 : Nat), hx_run sc n d k (pc, ls, st, Hs, u) = some (res, H2, u2) →
  ∀ (p : Program) (l : Launch) (e : Env) (R : Room) (s : State) (m : MethodId) (args : Array Value) (below : List Frame) (meth : Method) (c : Code) (Q : State → Prop) (dC : Nat → ClassId) (dI : Nat → Nat → Nat) (A : Nat → Prop) (b : Nat) (G : Nat × (Nat → Nat)), hx_F p l R s m args meth c dC dI A b sc d k →
  hx_Ret p l e R s m args below meth c Q dC dI A b G k res H2 u2 → hx_Out p l e R s m args below meth c Q dC dI A b G k res H2 u2 → hx_Thr p l e R s m args below meth c Q dC dI A b G k res H2 u2 → hx_Wt p l e R s m args below meth c Q dC dI A b G k (pc, ls, st, Hs, u)
theorem hx_run_le {sc : Nat × (Nat → Int32)} : ∀ (n d k : Nat) (fs : hx_FS) (res : hx_RS) (H2 : hx_HS) (u2 : Nat), hx_run sc n d k fs = some (res, H2, u2) → u2 ≤ hx_bud k
  | 0, _, _, _, _, _, _, h => by cases h
  | n + 1, d, k, (pc, ls, st, Hs, u), res, H2, u2, h => by
    unfold hx_run at h
    split at h
    · cases h
    · split at h
      · cases h
      · exact hx_run_le n _ _ _ _ _ _ h
      · split at h
        · rename_i hu
          cases h
          exact hu
        · cases h
      · split at h
        · cases h
        · split at h
          · rename_i hu
            split at h
            · cases h
            · exact hx_run_le n _ _ _ _ _ _ h
            · split at h
              · cases h
                exact hu.1
              · split at h
                · split at h
                  · exact hx_run_le n _ _ _ _ _ _ h
                  · cases h
                · cases h
          · cases h
/-- a run of a method is its contract -/
theorem hx_body {n : Nat} (hA : hx_A n) {sc : Nat × (Nat → Int32)} {d k : Nat} {as : List Value} {Hs H2 : hx_HS} {res : hx_RS} {u2 : Nat} (hk : k < 202) (hrun : hx_run sc n d k (0, hx_entry as (hx_ml k), [], Hs, 0) = some (res, H2, u2)) (hn : (hx_args as).length ≤ hx_ml k) {l : Launch} (hl : l.stackTraces = false) {dC : Nat → ClassId} {dI : Nat → Nat → Nat} {ad : Nat → Nat} {ac : Nat → ClassId} {b sz : Nat}
    {p : Program} {e : Env} {s : State} {m : MethodId} {args : Array Value} {below : List Frame} {meth : Method} {c : Code} {s₁ : State} (B : BodyLoose p l (hx_y k) (headSpec (hx_cws k) (hx_rm d k)) (hx_by k) (hx_ml k) (hx_rt k) e s m args below meth c s₁) (hml : c.maxLocals = hx_ml k) (htab : c.exceptionTable.toList = tableOf (hx_hh k)) (hv : va_Pc (as.map (hx_cv ad b)) (hx_W0 dC dI ad ac b sc Hs sz) args s) :
    W p l e (hx_rm d k) s m args below meth c s.heap [] 0 0 (vx_MQ below (hx_Qc dC dI ad b Hs.1.length (va_A (hx_ws ad ac b Hs) sz) res H2) (hx_XC dC dI ad b Hs.1.length (va_A (hx_ws ad ac b Hs) sz) res H2) args s (hx_bud k) (1000 * hx_bud k) (va_A (hx_ws ad ac b Hs) sz)) (entryFrame m args (hx_ml k)) := by
  obtain ⟨hw1, hw2, hw3, hw4, hw5, hw6, hw7, hw8, hw9, hw10⟩ := hx_mokS hk
  obtain ⟨rfl, hsz, hP, hK, hT, hD0, hSt⟩ := hv
  subst hsz
  have hD := hD0.self (sz := s.heap.size)
  have hx := B.exec
  have hb := B.bytes
  have hr := B.returns
  have hlocks := B.notSynchronized
  have hts0 := atoms_spec (ws := hx_cws k) B.pre
  have hts : ∀ w ∈ hx_LW, w.before (as.map (hx_cv ad b)).toArray s = true := fun w hw => hts0 w (List.mem_cons_of_mem _ hw)
  have hown : s.vm.findClass (hx_R (hx_own k)) = some m.cls := by rw [← hw5]; exact findClass_of_methodNamed B.named
  have hin : meth.name = (hx_y k).name := (name_of_methodNamed B.named B.method).1
  have hle := hx_run_le _ _ _ _ _ _ _ hrun
  have hF : hx_F p l (hx_rm d k) s m (as.map (hx_cv ad b)).toArray meth c dC dI (va_A (hx_ws ad ac b Hs) s.heap.size) b sc d k := ⟨hx, hb, hml, hown, hts, hr, hlocks, fun _ => htab, hl, hK, fun q h => Or.inr h, hSt, ⟨Nat.le_refl _, Nat.le_refl _, Nat.le_refl _, Nat.le_refl _⟩, fun h => by rw [hin]; exact h⟩
  rw [lg_entry_eq]
  refine hA sc d k 0 _ [] Hs 0 res H2 u2 hrun p l e (hx_rm d k) s m _ below meth c _ dC dI _ b (Hs.1.length, ad) hF ?_ ?_ ?_ s.heap [] ad ac _ ⟨hP, hD, va_S.rf, hT, Nat.le_refl _, fun _ _ => rfl⟩ (hx_L_entry ad b as hn)
  · intro v hv pc0 i st0 H locs ad' ac' lc hd hrk hI hsize
    refine vx_ret ?_
    refine W.widen (k := hx_bud k) (n := 1000 * hx_bud k) hle (Nat.mul_le_mul_left _ hle) ?_
    have post : ∀ t : State, t.heap = H → s.WarmedH t.vm → hx_Qc dC dI ad b Hs.1.length (va_A (hx_ws ad ac b Hs) s.heap.size) res H2 (as.map (hx_cv ad b)).toArray s (.returned (v.map (hx_cv ad' b))) t := fun t ht hW => ⟨⟨v, ad', hv, rfl, hI.2.2.2.2, ac', by rw [ht]; exact hI.1, hx_T_moved hW.alike hI.2.2.2.1, hI.2.1⟩, hI.2.2.1.F ht⟩
    rcases hrk with ⟨x, rfl, rfl, rfl, hrt⟩ | ⟨x, rfl, rfl, rfl, hrt⟩ | ⟨x, rfl, rfl, rfl, hrt⟩ | ⟨x, rfl, rfl, rfl, hrt⟩ | ⟨rfl, rfl, rfl, hrt⟩ | ⟨x, C, rfl, rfl, rfl, hrt⟩
    · rcases hrt with hrt | ⟨hrt, hx01⟩
      · exact W.iret hx hb (hr.trans hrt) post hI.2.2.1.2.2 hd
      · exact W.zret (ty := .boolean) hx hb (hr.trans hrt) (by rcases hx01 with rfl | rfl <;> decide) post hI.2.2.1.2.2 hd
    · exact W.lret hx hb (hr.trans hrt) post hI.2.2.1.2.2 hd
    · exact W.fret hx hb (hr.trans hrt) post hI.2.2.1.2.2 hd
    · exact W.dret hx hb (hr.trans hrt) post hI.2.2.1.2.2 hd
    · exact W.vret hx hb (hr.trans hrt) post hI.2.2.1.2.2 hd
    · exact W.aret (v := .ref (ad' x)) hx hb (hr.trans hrt) (Or.inl ⟨C, rfl⟩) (Or.inr ⟨ad' x, rfl⟩) post hI.2.2.1.2.2 hd
  · intro E hE pc0 H locs ad' ac' lc rest q ce hh0 hI hce hcv hcl
    refine vx_out ?_ hlocks hce hcv hcl (fun t ht hvm => ⟨⟨E, ad', hE, rfl, hI.2.2.2.2, ac', by rw [ht]; exact hI.1, hx_T_moved hvm hI.2.2.2.1, hI.2.1⟩, hI.2.2.1.F ht⟩) hI.2.2.1.2.2 hle (Nat.mul_le_mul_left _ hle)
    intro x hx9
    rw [htab, hh0] at hx9
    cases hx9
  · intro E hE pc0 ik si ic ln bb u0 v st0 H locs ad' ac' lc hat hI hsize hcat hu0
    have hck := hx_at_in hat
    have hd0 := hx_ck_d hck
    have hlk := hx_ck_l hck
    unfold hx_lk at hlk
    dsimp only at hlk
    simp only [Bool.and_eq_true, decide_eq_true_eq] at hlk
    obtain ⟨⟨⟨⟨⟨⟨h1, h2⟩, h3⟩, h4⟩, h5⟩, h6⟩, h7⟩ := hlk
    obtain ⟨z9, hz9⟩ := hx_has_in h1
    have hxl := hx_XL_ok _ hz9
    unfold hx_xlok at hxl
    simp only [Bool.and_eq_true, decide_eq_true_eq] at hxl
    obtain ⟨⟨⟨hE3, hxl1⟩, hxl2⟩, hxl3⟩ := hxl
    have hat9 : ∀ w ∈ vx_atS (hx_R (hx_own k)) ic (hx_E E) hx_En, w.before (as.map (hx_cv ad b)).toArray s = true ∧ vx_ot w = true := by
      intro w hw
      have h8 := List.all_eq_true.mp hxl3 w hw
      simp only [Bool.or_eq_true, Bool.and_eq_true, decide_eq_true_eq] at h8
      rcases h8 with h8 | ⟨h8, h9⟩
      · have h10 := hx_wd_in h8
        exact ⟨hts w h10, by unfold vx_ot; rw [hx_LW_good w h10, Bool.or_true]⟩
      · exact ⟨(hSt.2.2.2.2.2.2.2.2.2 w h8).use h9, by unfold vx_ot; rw [h9]; rfl⟩
    have hgood : ∀ w ∈ Jvm.Cond.classLink (hx_R (hx_own k)) ik (hx_E E) :: Jvm.Cond.initialized (hx_E E) :: vx_atS (hx_R (hx_own k)) ic (hx_E E) hx_En, vx_ot w = true := by
      intro w hw
      rcases List.mem_cons.mp hw with rfl | hw
      · unfold vx_ot; rw [hx_LW_good _ (hx_wd_in hxl1), Bool.or_true]
      · rcases List.mem_cons.mp hw with rfl | hw
        · unfold vx_ot; rw [hx_LW_good _ (hx_wd_in hxl2), Bool.or_true]
        · exact (hat9 w hw).2
    have hfit : Bundle.fit (hx_E E) = true ∧ ∀ n ∈ hx_En, Bundle.fit n = true := by
      have hE3 : E < 3 := hE3
      have : E = 0 ∨ E = 1 ∨ E = 2 := by omega
      rcases this with rfl | rfl | rfl <;> exact ⟨by decide +kernel, by decide +kernel⟩
    obtain ⟨text, sa, hstr⟩ : ∃ (text : String) (sa : Nat), vk_R (hx_R (hx_own k)) si text sa s := by
      split at h2
      · rename_i q hq
        have e1 := of_decide_eq_true h2
        rw [hx_nth_eq] at hq
        obtain ⟨sa, hsa⟩ := hSt.2.2.2.2.2.1 q (List.mem_of_getElem? hq)
        rw [e1.1, e1.2] at hsa
        exact ⟨_, sa, hsa⟩
      · cases h2
    have hout : ∀ z x, x ∈ c.exceptionTable.toList → covers x z = false := by
      intro z x hx9
      rw [htab, h3] at hx9
      cases hx9
    have hub : u0 + 1 ≤ hx_bud k := by omega
    have hXC : ∀ t : State, s.vm.Alike t.vm → H.size ≤ t.heap.size → (∀ q : Nat, q < H.size → t.heap[q]? = H[q]?) → hx_XC dC dI ad b Hs.1.length (va_A (hx_ws ad ac b Hs) s.heap.size) res H2 (hx_E E) s t := by
      intro t hvm hsz2 hkeep
      refine ⟨⟨E, ad', hE, rfl, hI.2.2.2.2, ac', hI.1.kept (fun k9 q hq => hkeep _ (vx_lt hI.1 hq)), hx_T_moved hvm hI.2.2.2.1, hI.2.1⟩, ?_⟩
      refine ⟨Nat.le_trans hI.2.2.1.1 hsz2, fun q hq hz => ?_⟩
      rw [hkeep q (Nat.lt_of_lt_of_le hq hI.2.2.1.1)]
      exact hI.2.2.1.2.1 q hq hz
    have hlen3 : hx_En.length = 2 := rfl
    by_cases hln : ln = 2
    · subst hln
      rw [if_pos rfl] at h7
      refine vx_throwS (rest := st0.map (hx_cv ad' b)) (names := hx_En) hx hb hl hown hfit.1 hfit.2 (hts _ (hx_wd_in hxl1)) (hts _ (hx_wd_in hxl2)) hstr (fun w hw => (hat9 w hw).1) hgood hSt.2.2.2.1 hSt.2.2.2.2.1 hI.2.2.1 (hsize.trans hml.symm) hd0 (hx_isd_ok h4) (hx_isd_ok h7) (hx_isd_ok h5) (hx_isd_ok h6) (hout _) ?_ ?_ ?_ ?_ hlocks hXC hI.2.2.1.2.2 hub ?_
      · rw [hlen3]; show 2 + 3 < d + 20; omega
      · rw [hx_cat_map, hlen3]; show _ ≤ 60 * d + 200; omega
      · show u0 + 1 ≤ hx_bud k; exact hub
      · show 1000 * u0 + 6 ≤ 1000 * hx_bud k; omega
      · omega
    · rw [if_neg hln] at h7
      simp only [Bool.and_eq_true, decide_eq_true_eq] at h7
      obtain ⟨rfl, h7⟩ := h7
      refine vx_throwSW (rest := st0.map (hx_cv ad' b)) (names := hx_En) hx hb hl hown hfit.1 hfit.2 (hts _ (hx_wd_in hxl1)) (hts _ (hx_wd_in hxl2)) hstr (fun w hw => (hat9 w hw).1) hgood hSt.2.2.2.1 hSt.2.2.2.2.1 hI.2.2.1 (hsize.trans hml.symm) hd0 (hx_isd_ok h4) (hx_isd_ok h7) (hx_isd_ok h5) (hx_isd_ok h6) (hout _) ?_ ?_ ?_ ?_ hlocks hXC hI.2.2.1.2.2 hub ?_
      · rw [hlen3]; show 2 + 3 < d + 20; omega
      · rw [hx_cat_map, hlen3]; show _ ≤ 60 * d + 200; omega
      · show u0 + 1 ≤ hx_bud k; exact hub
      · show 1000 * u0 + 6 ≤ 1000 * hx_bud k; omega
      · omega
theorem hx_met {n : Nat} (hA : hx_A n) {sc : Nat × (Nat → Int32)} {d k : Nat} {as : List Value} {Hs H2 : hx_HS} {res : hx_RS} {u2 : Nat} (hk : k < 202) (hrun : hx_run sc n d k (0, hx_entry as (hx_ml k), [], Hs, 0) = some (res, H2, u2)) (hn : (hx_args as).length ≤ hx_ml k) (l : Launch) (hl : l.stackTraces = false) (dC : Nat → ClassId) (dI : Nat → Nat → Nat) (ad : Nat → Nat) (ac : Nat → ClassId) (b sz : Nat) :
    vx_Met l (hx_y k) (hx_cws k) (hx_rm d k) (va_Pc (as.map (hx_cv ad b)) (hx_W0 dC dI ad ac b sc Hs sz)) (hx_Qc dC dI ad b Hs.1.length (va_A (hx_ws ad ac b Hs) sz) res H2) (hx_XC dC dI ad b Hs.1.length (va_A (hx_ws ad ac b Hs) sz) res H2) (hx_bud k) (1000 * hx_bud k) (va_A (hx_ws ad ac b Hs) sz) := by
  obtain ⟨hw1, hw2, hw3, hw4, hw5, hw6, hw7, hw8, hw9, hw10⟩ := hx_mokS hk
  cases hh : hx_hh k with
  | nil =>
    refine vx_ofW (cc := hx_by k) (maxL := hx_ml k) (ret := hx_rt k) (ws' := hx_LW) hw4 (by unfold hx_cws hx_cw; rw [hh]) ?_
    intro p e s m args below meth c s₁ B hml ht hv
    refine hx_body hA hk hrun hn hl B hml ?_ hv
    rw [hh]
    cases hz : c.exceptionTable.toList with
    | nil => rfl
    | cons x t => exact (ht x (by rw [hz]; exact List.mem_cons_self)).elim
  | cons q t =>
    refine vx_ofWH (cc := hx_by k) (maxL := hx_ml k) (ret := hx_rt k) (hh := q :: t) (ws' := hx_LW) hw4 (by unfold hx_cws hx_cw; rw [hh]) ?_
    intro p e s m args below meth c s₁ B hml hv
    refine hx_body hA hk hrun hn hl B hml ?_ hv
    rw [hh]
    have hts0 := atoms_spec (ws := hx_cws k) B.pre
    have h9 := hts0 (hx_cw k) List.mem_cons_self
    unfold hx_cw at h9
    rw [hh] at h9
    exact vx_table (x := hx_y k) B h9
end
section
/-! ===== soundness, 9: every step, every run ===== -/
theorem hx_KL_at {o i : Nat} {v : Value} (h : hx_has hx_KL (o, i, v) = true) : (∃ x, v = .int x ∧ Jvm.Cond.constant (hx_R o) i x ∈ hx_LW) ∨ (∃ x, v = .long x ∧ Jvm.Cond.constantLong (hx_R o) i x ∈ hx_LW) ∨ (∃ x, v = .float x ∧ Jvm.Cond.constantFloat (hx_R o) i x ∈ hx_LW) ∨ (∃ x, v = .double x ∧ Jvm.Cond.constantDouble (hx_R o) i x ∈ hx_LW) := by
  obtain ⟨n, hn⟩ := hx_has_in h
  have hq := hx_KL_ok _ hn
  unfold hx_klok at hq
  cases v with
  | int x => exact Or.inl ⟨x, rfl, hx_wi_in hq⟩
  | long x => exact Or.inr (Or.inl ⟨x, rfl, hx_wi_in hq⟩)
  | float x => exact Or.inr (Or.inr (Or.inl ⟨x, rfl, hx_wi_in hq⟩))
  | double x => exact Or.inr (Or.inr (Or.inr ⟨x, rfl, hx_wi_in hq⟩))
  | _ => cases hq
section HXS
variable {p : Program} {l : Launch} {e : Env} {R : Room} {s : State} {m : MethodId} {args : Array Value} {below : List Frame} {meth : Method} {c : Code} {H : Heap} {locs : List Loc} {cells slots : Nat} {Q : State → Prop}
variable {dC : Nat → ClassId} {dI : Nat → Nat → Nat} {A : Nat → Prop} {b : Nat} {G : Nat × (Nat → Nat)} {sc : Nat × (Nat → Int32)} {d k : Nat}
variable {pc : Nat} {ls : List (Option Value)} {st : List Value} {Hs : hx_HS} {u : Nat} {fs : hx_FS}
theorem lv_ldcwf {cc : ByteArray} {lc : Array Slot} {rest : List Value} (hexec : p.tables.exec = Jvm.exec) (hb : c.code = cc) {own : String} {index : Nat} {v : UInt32} (hown : s.vm.findClass own = some m.cls) (hconst : (Jvm.Cond.constantFloat own index v).before args s = true) (hdg : decode cc pc = .ok (.ldc_w index, 3)) (k : W p l e R s m args below meth c H locs cells slots Q (F0 m (pc + 3) lc (.float v :: rest))) : W p l e R s m args below meth c H locs cells slots Q (F0 m pc lc rest) := by
  intro T hT X
  obtain ⟨t, a, b⟩ := k T hT X
  obtain ⟨kk, cf, hk, hcf, hcp⟩ := Cond.constantFloat_spec hown hconst
  refine ⟨t, ?_, b⟩
  have hdg' : decode c.code pc = .ok (.ldc_w index, 3) := by rw [hb]; exact hdg
  obtain ⟨k', hk', he⟩ := X.warmed.alike.2.2 _ _ hk
  jvm_step X.here [X.here.top, hexec, hdg', ldc_w.wp_float (s := T) (f := F0 m pc lc rest) X.here.top hk' (by rw [he]; exact hcf) hcp]
  exact a
theorem hx_br_no {P : Prop} [Decidable P] {t : Nat} {act : (Nat × List Value × hx_FS) ⊕ (hx_RS × hx_HS × Nat)} (h : hx_br P t pc ls st Hs u = some (.inr act)) : False := by
  unfold hx_br hx_k at h
  split at h <;> cases h
theorem hx_call_no {kc n : Nat} (h : hx_call kc n pc ls st Hs u = some (.inl fs)) : False := by
  unfold hx_call at h
  split at h <;> cases h
theorem hx_callV_no {kc n ci : Nat} (h : hx_callV kc n ci pc ls st Hs u = some (.inl fs)) : False := by
  unfold hx_callV at h
  split at h
  · split at h
    · split at h
      · exact hx_call_no h
      · cases h
    · cases h
  · cases h
/-- a step that goes on -/
theorem hx_s_step {ce : hx_CE} (F : hx_F p l R s m args meth c dC dI A b sc d k) (hat : hx_at k pc = some ce) (h : hx_step sc (hx_bud k) (hx_rt k) ce pc ls st Hs u = some (.inl fs)) (K : hx_Wt p l e R s m args below meth c Q dC dI A b G k fs) : hx_Wt p l e R s m args below meth c Q dC dI A b G k (pc, ls, st, Hs, u) := by
  obtain ⟨hx, hb, hml, hown, hts, hr, hlocks, htab, hl, hK, hA, hSt, hR, hini⟩ := F
  obtain ⟨hX, hbl, hbA, hU, hN, hstr, hAO, hnw, hnc, hxw⟩ := hSt
  have hR2 : 20 ≤ R.frames ∧ 200 ≤ R.locals := ⟨by omega, by omega⟩
  have hRc : hx_bud k ≤ R.cells ∧ 1000 * hx_bud k ≤ R.slots := hR.2.2
  have hck := hx_at_in hat
  have hd := hx_ck_d hck
  have hlk := hx_ck_l hck
  obtain ⟨ins, a, bb, v, tg⟩ := ce
  unfold hx_step at h
  unfold hx_lk at hlk
  dsimp only at hd hlk h
  cases ins with
  | iload i => exact hx_s_ild (fun hl kk => lv_iload hx hb hd hl kk) h K
  | iload_n i => exact hx_s_ild (fun hl kk => lv_iload_n hx hb hd rfl hl kk) h K
  | lload i => exact hx_s_lld (fun hl kk => lv_lload hx hb hd hl kk) h K
  | lload_n i => exact hx_s_lld (fun hl kk => lv_lload_n hx hb hd rfl hl kk) h K
  | fload i => exact hx_s_fld (fun hl kk => lv_fload hx hb hd hl kk) h K
  | fload_n i => exact hx_s_fld (fun hl kk => lv_fload_n hx hb hd rfl hl kk) h K
  | dload i => exact hx_s_dld (fun hl kk => lv_dload hx hb hd hl kk) h K
  | dload_n i => exact hx_s_dld (fun hl kk => lv_dload_n hx hb hd rfl hl kk) h K
  | aload i => exact hx_s_ald (fun hl kk => lv_aload hx hb hd hl kk) h K
  | aload_n i => exact hx_s_ald (fun hl kk => lv_aload_n hx hb hd rfl hl kk) h K
  | istore i => exact hx_s_ist (fun h1 h2 kk => lv_istore hx hb hd h1 h2 rfl kk) h K
  | istore_n i => exact hx_s_ist (fun h1 h2 kk => lv_istore_n hx hb hd rfl h1 h2 rfl kk) h K
  | lstore i => exact hx_s_lst (fun h1 h2 kk => lv_lstore hx hb hd h1 h2 rfl kk) h K
  | lstore_n i => exact hx_s_lst (fun h1 h2 kk => lv_lstore_n hx hb hd rfl h1 h2 rfl kk) h K
  | fstore i => exact hx_s_fst (fun h1 h2 kk => lv_fstore hx hb hd h1 h2 rfl kk) h K
  | fstore_n i => exact hx_s_fst (fun h1 h2 kk => lv_fstore_n hx hb hd rfl h1 h2 rfl kk) h K
  | dstore i => exact hx_s_dst (fun h1 h2 kk => lv_dstore hx hb hd h1 h2 rfl kk) h K
  | dstore_n i => exact hx_s_dst (fun h1 h2 kk => lv_dstore_n hx hb hd rfl h1 h2 rfl kk) h K
  | astore i => exact hx_s_ast (fun h1 h2 kk => lv_astore hx hb hd h1 h2 rfl kk) h K
  | astore_n i => exact hx_s_ast (fun h1 h2 kk => lv_astore_n hx hb hd rfl h1 h2 rfl kk) h K
  | iconst n =>
    have e1 := of_decide_eq_true hlk
    subst e1
    exact hx_s_push (fun _ => rfl) (fun kk => lv_iconst hx hb hd rfl kk) h K
  | bipush n =>
    have e1 := of_decide_eq_true hlk
    subst e1
    exact hx_s_push (fun _ => rfl) (fun kk => lv_bipush hx hb hd rfl kk) h K
  | sipush n =>
    have e1 := of_decide_eq_true hlk
    subst e1
    exact hx_s_push (fun _ => rfl) (fun kk => lv_sipush hx hb hd rfl kk) h K
  | lconst n =>
    have e1 := of_decide_eq_true hlk
    subst e1
    exact hx_s_push (fun _ => rfl) (fun kk => lv_lconst hx hb hd rfl kk) h K
  | fconst n =>
    match n, hlk, hd with
    | 0, hlk, hd => have e1 := of_decide_eq_true hlk; subst e1; exact hx_s_push (fun _ => rfl) (fun kk => lv_fconst0 hx hb hd kk) h K
    | 1, hlk, hd => have e1 := of_decide_eq_true hlk; subst e1; exact hx_s_push (fun _ => rfl) (fun kk => lv_fconst1 hx hb hd kk) h K
    | 2, hlk, hd => have e1 := of_decide_eq_true hlk; subst e1; exact hx_s_push (fun _ => rfl) (fun kk => lv_fconst2 hx hb hd kk) h K
  | dconst n =>
    match n, hlk, hd with
    | 0, hlk, hd => have e1 := of_decide_eq_true hlk; subst e1; exact hx_s_push (fun _ => rfl) (fun kk => lv_dconst0 hx hb hd kk) h K
    | 1, hlk, hd => have e1 := of_decide_eq_true hlk; subst e1; exact hx_s_push (fun _ => rfl) (fun kk => lv_dconst1 hx hb hd kk) h K
  | ldc i =>
    rw [Bool.and_eq_true] at hlk
    rcases hx_KL_at hlk.1 with ⟨x, rfl, hw⟩ | ⟨x, rfl, hw⟩ | ⟨x, rfl, hw⟩ | ⟨x, rfl, hw⟩
    · exact hx_s_push (fun _ => rfl) (fun kk => lv_ldc hx hb hown (hts _ hw) hd kk) h K
    · exact absurd hlk.2 (fun z => by cases z)
    · exact hx_s_push (fun _ => rfl) (fun kk => lv_ldcf hx hb hown (hts _ hw) hd kk) h K
    · exact absurd hlk.2 (fun z => by cases z)
  | ldc_w i =>
    rw [Bool.and_eq_true] at hlk
    rcases hx_KL_at hlk.1 with ⟨x, rfl, hw⟩ | ⟨x, rfl, hw⟩ | ⟨x, rfl, hw⟩ | ⟨x, rfl, hw⟩
    · exact hx_s_push (fun _ => rfl) (fun kk => lv_ldcw hx hb hown (hts _ hw) hd kk) h K
    · exact absurd hlk.2 (fun z => by cases z)
    · exact hx_s_push (fun _ => rfl) (fun kk => lv_ldcwf hx hb hown (hts _ hw) hd kk) h K
    · exact absurd hlk.2 (fun z => by cases z)
  | ldc2_w i =>
    rw [Bool.and_eq_true] at hlk
    rcases hx_KL_at hlk.1 with ⟨x, rfl, hw⟩ | ⟨x, rfl, hw⟩ | ⟨x, rfl, hw⟩ | ⟨x, rfl, hw⟩
    · exact absurd hlk.2 (fun z => by cases z)
    · exact hx_s_push (fun _ => rfl) (fun kk => lv_ldc2 hx hb hown (hts _ hw) hd kk) h K
    · exact absurd hlk.2 (fun z => by cases z)
    · exact hx_s_push (fun _ => rfl) (fun kk => lv_ldc2d hx hb hown (hts _ hw) hd kk) h K
  | iadd => exact hx_s_ii (fun kk => lv_iadd hx hb hd kk) h K
  | isub => exact hx_s_ii (fun kk => lv_isub hx hb hd kk) h K
  | imul => exact hx_s_ii (fun kk => lv_imul hx hb hd kk) h K
  | iand => exact hx_s_ii (fun kk => lv_iand hx hb hd kk) h K
  | ior => exact hx_s_ii (fun kk => lv_ior hx hb hd kk) h K
  | ixor => exact hx_s_ii (fun kk => lv_ixor hx hb hd kk) h K
  | ishl => exact hx_s_ii (fun kk => lv_ishl hx hb hd kk) h K
  | ishr => exact hx_s_ii (fun kk => lv_ishr hx hb hd kk) h K
  | idiv => exact hx_s_id (fun hy kk => lv_idiv hx hb hd hy kk) h K
  | irem => exact hx_s_id (fun hy kk => lv_irem hx hb hd hy kk) h K
  | ineg => exact hx_s_i1 (fun _ _ => rfl) (fun kk => lv_ineg hx hb hd kk) h K
  | i2l => exact hx_s_i1 (fun _ _ => rfl) (fun kk => lv_i2l hx hb hd rfl kk) h K
  | i2c => exact hx_s_i1 (fun _ _ => rfl) (fun kk => lv_i2c hx hb hd rfl kk) h K
  | i2f => exact hx_s_i1 (fun _ _ => rfl) (fun kk => lv_i2f hx hb hd kk) h K
  | i2d => exact hx_s_i1 (fun _ _ => rfl) (fun kk => lv_i2d hx hb hd kk) h K
  | ladd => exact hx_s_ll (fun _ _ _ => rfl) (fun kk => lv_ladd hx hb hd kk) h K
  | lsub => exact hx_s_ll (fun _ _ _ => rfl) (fun kk => lv_lsub hx hb hd kk) h K
  | lmul => exact hx_s_ll (fun _ _ _ => rfl) (fun kk => lv_lmul hx hb hd kk) h K
  | lor => exact hx_s_ll (fun _ _ _ => rfl) (fun kk => lv_lor hx hb hd kk) h K
  | lshl => exact hx_s_li (fun kk => lv_lshl hx hb hd rfl kk) h K
  | lcmp => exact hx_s_ll (fun _ _ _ => rfl) (fun kk => W.lcmp hx hb hd kk) h K
  | fdiv => exact hx_s_ff (fun hn kk => lv_fdiv hx hb hd hn kk) h K
  | fmul => exact hx_s_ff (fun hn kk => lv_fmul hx hb hd hn kk) h K
  | fsub => exact hx_s_ff (fun hn kk => lv_fsub hx hb hd hn kk) h K
  | ddiv => exact hx_s_dd (fun hn kk => lv_ddiv hx hb hd hn kk) h K
  | dmul => exact hx_s_dd (fun hn kk => lv_dmul hx hb hd hn kk) h K
  | dsub => exact hx_s_dd (fun hn kk => lv_dsub hx hb hd hn kk) h K
  | fneg => exact hx_s_fu (fun _ _ => rfl) (fun kk => lv_fneg hx hb hd kk) h K
  | f2i => exact hx_s_fu (fun _ _ => rfl) (fun kk => lv_f2i hx hb hd kk) h K
  | f2d => exact hx_s_f2d (fun hn kk => lv_f2d hx hb hd hn kk) h K
  | d2l => exact hx_s_d2l (fun kk => lv_d2l hx hb hd kk) h K
  | fcmp op => exact hx_s_fcmp (fun kk => lv_fcmp hx hb hd kk) h K
  | dcmp op => exact hx_s_dcmp (fun kk => lv_dcmp hx hb hd kk) h K
  | ifCond cnd o => exact hx_s_if hx hb hd (of_decide_eq_true hlk) h K
  | if_icmp cnd o => exact hx_s_icmp hx hb hd (of_decide_eq_true hlk) h K
  | goto o => exact hx_s_goto (fun kk => lv_goto hx hb hd (of_decide_eq_true hlk) kk) h K
  | tableswitch df lo hi os =>
    rw [Bool.and_eq_true, decide_eq_true_eq, decide_eq_true_eq] at hlk
    exact hx_s_sw hx hb hd hlk.1 hlk.2 h K
  | iinc i n => exact hx_s_inc (fun h1 h2 h3 kk => lv_iinc hx hb hd h1 h2 rfl h3 rfl kk) h K
  | getfield i => exact hx_s_get hx hb hown hts hK hd hlk h K
  | putfield i =>
    rw [Bool.and_eq_true] at hlk
    exact hx_s_put hx hb hown hts hK hini hd hlk.1 hlk.2 h K
  | iaload => exact hx_s_arl (ty := .int) hx hb hK hX hbl hbA hd h K
  | baload => exact hx_s_arl (ty := .boolean) hx hb hK hX hbl hbA hd h K
  | caload => exact hx_s_arl (ty := .char) hx hb hK hX hbl hbA hd h K
  | laload => exact hx_s_arl (ty := .long) hx hb hK hX hbl hbA hd h K
  | aaload => exact hx_s_arl (ty := .object RX3) hx hb hK hX hbl hbA hd h K
  | iastore => exact hx_s_ars (ty := .int) hx hb hK hd h K
  | bastore => exact hx_s_ars (ty := .boolean) hx hb hK hd h K
  | castore => exact hx_s_ars (ty := .char) hx hb hK hd h K
  | lastore => exact hx_s_ars (ty := .long) hx hb hK hd h K
  | aastore => exact hx_s_ars (ty := .object "") hx hb hK hd h K
  | arraylength => exact hx_s_len hx hb hX hbl hbA hd h K
  | dup => exact hx_s_dup (fun h1 kk => lv_dup hx hb hd h1 kk) h K
  | dup2 => exact hx_s_dup2 (fun h1 h2 kk => lv_dup2_11 hx hb hd h1 h2 kk) h K
  | pop => exact hx_s_pop (fun h1 kk => lv_pop hx hb hd h1 kk) h K
  | new i =>
    match tg, hlk, h with
    | [], hlk, h => exact hx_s_newo hx hb hown hts hK hA hRc hlk hd h K
    | _ :: _, hlk, h => unfold hx_thr at h; dsimp only at h; split at h <;> cases h
  | newarray t => exact hx_s_newa hx hb hts hK hA hRc (of_decide_eq_true hlk) hd h K
  | anewarray i => exact hx_s_newq hx hb hown hts hK hAO hA hRc hlk hd h K
  | invokevirtual i =>
    match tg, h with
    | [ci], h => exact (hx_callV_no h).elim
    | [], h => cases h
    | _ :: _ :: _, h => cases h
  | invokestatic i =>
    match tg, hlk, h with
    | [], hlk, h => exact (hx_call_no h).elim
    | [1], hlk, h => exact hx_s_abs hx hb hml hown hts hR2 hRc hlk hd h K
    | [2], hlk, h => exact hx_s_min hx hb hml hown hts hR2 hRc hlk hd h K
    | [3], hlk, h => exact hx_s_copy hx hb hml hown hts hK hR2 hlk hd h K
    | [0], hlk, h => cases h
    | [z + 4], hlk, h => cases h
    | _ :: _ :: _, hlk, h => cases hlk
  | invokespecial i =>
    match tg, hlk, h with
    | [ci], hlk, h => exact (hx_callV_no h).elim
    | [], hlk, h => cases hlk
    | [_, _], hlk, h => exact hx_s_obj hx hb hml hown hts hR2 hlk hd h K
    | _ :: _ :: _ :: _, hlk, h => cases hlk
  | ireturn =>
    unfold hx_iret at h
    dsimp only at h
    split at h
    · split at h
      · cases h
      · split at h <;> cases h
      · cases h
    · cases h
  | lreturn =>
    dsimp only at h
    split at h
    · split at h
      · cases h
      · cases h
    · cases h
  | freturn =>
    dsimp only at h
    split at h
    · split at h
      · cases h
      · cases h
    · cases h
  | dreturn =>
    dsimp only at h
    split at h
    · split at h
      · cases h
      · cases h
    · cases h
  | areturn =>
    dsimp only at h
    split at h
    · split at h
      · cases h
      · cases h
    · cases h
  | return_ =>
    dsimp only at h
    split at h
    · split at h
      · cases h
      · cases h
    · cases h
  | _ => cases h
end HXS
end
section
/-! ===== BEGIN a constructor that throws (launches without stack traces) ===== -/
section VXIA
variable {p : Program} {l : Launch} {e : Env} {R : Room} {s : State} {m : MethodId} {args : Array Value} {below : List Frame} {meth : Method} {c : Code} {T : State} {locs : List Loc} {cells slots : Nat}
theorem vx_callI (X : Stand p l e R s m args below meth c T locs cells slots) (hexec : p.tables.exec = Jvm.exec) {own : String} {index : Nat} {y : MethodName} {bytes : ByteArray} {maxL : Nat}
    (hown : s.vm.findClass own = some m.cls) (hy1 : y.name = "<init>") (hlink : (Cond.methodLink own index y).before args s = true) (hinst : (Cond.instanceMethod y).before args s = true)
    (hcode : (Cond.code y bytes maxL none).before args s = true) (hy : y.cls ≠ "java/lang/invoke/MethodHandle" ∧ y.cls ≠ "java/lang/invoke/VarHandle")
    {W9 : Nat} {Pre : Pt → Array Value → Prop} {Post : Pt → Array Value → Option Value → Pt → Prop} {PostX : Pt → Array Value → Addr → Pt → Prop} (hK : vx_Back l R p e below s args y 3 W9 Pre Post PostX)
    {g : JFrame} (hg : g.method = m) (hsize : g.locals.size = c.maxLocals) {a : Addr} {argsL rest : List Value} (hlen : ∀ sig, parseMethodDescriptor y.desc = some sig → argsL.length = sig.parameters.length)
    (hstack : g.stack = argsL.reverse ++ .ref a :: rest) (hW : 2 * g.monitorRoom + (rest.map fun v => v.category).sum ≤ W9) (hdg : decode c.code g.pc = .ok (.invokespecial index, 3))
    (hpre : ∀ vm₁, s.WarmedH vm₁ → Pre ⟨T.setVm vm₁, locs, cells, slots⟩ (Value.ref a :: argsL).toArray) :
    (∃ (v : Option Value) (vm₁ : Vm) (B : Pt), s.WarmedH vm₁ ∧ Stand p l e R s m args below meth c B.U B.locs B.cells B.slots ∧ Post ⟨T.setVm vm₁, locs, cells, slots⟩ (Value.ref a :: argsL).toArray v B ∧
      ∀ target, Steps p.tables e below (B.U.setTop { g with pc := g.pc + 3, stack := v.toList ++ rest }) target → Steps p.tables e below (T.setTop g) target) ∨
    (∃ (q : Addr) (vm₁ : Vm) (B : Pt), s.WarmedH vm₁ ∧ Stand p l e R s m args below meth c B.U B.locs B.cells B.slots ∧ PostX ⟨T.setVm vm₁, locs, cells, slots⟩ (Value.ref a :: argsL).toArray q B ∧
      Steps p.tables e below (T.setTop g) ((B.U.setTop { g with stack := rest }).pushFrame (.throwing q))) := by
  subst hg
  have hpl : e.platform.magicAccessors = ({} : Platform).magicAccessors := by rw [X.admits.platform]
  obtain ⟨mk, methM, cM, kP, vm₁, hnamed, hmethM, hcodeM, -, hlocalsM, -, hkP, -, hW₁, hstep₁⟩ := Steps.initColdArgs (e := e) X.here hexec X.warmed hpl hown hy1 hy hlink hinst hcode (f := g) rfl hlen hstack hdg
  have X₁ := X.noted hW₁
  rcases hK g.method meth c ⟨T.setVm vm₁, locs, cells, slots⟩ { g with stack := rest } (.invokespecial index) mk (Value.ref a :: argsL).toArray X₁ rfl hsize hdg hW (X₁.named hnamed) (hpre vm₁ X₁.warmed) with ⟨v, B, X', hpost, hsteps⟩ | ⟨q, B, X', hpost, hsteps⟩
  · exact Or.inl ⟨v, vm₁, B, X₁.warmed, X', hpost, fun target h => hstep₁ _ fun acts => by rw [doInvoke_state]; exact hsteps.trans h⟩
  · exact Or.inr ⟨q, vm₁, B, X₁.warmed, X', hpost, hstep₁ _ fun acts => by rw [doInvoke_state]; exact hsteps⟩
end VXIA
section VXIB
variable {p : Program} {l : Launch} {e : Env} {R : Room} {s : State} {m : MethodId} {args : Array Value} {below : List Frame} {meth : Method} {c : Code} {H : Heap} {locs : List Loc} {cells slots : Nat}
variable {y : MethodName} {bytes cc : ByteArray} {maxL nL mc ms n index : Nat} {ret : Option FieldType} {ws : List Cond} {rm : Room} {Pc : Array Value → State → Prop} {Qc : Array Value → State → Outcome → State → Prop} {XC : String → State → State → Prop} {free : Addr → Prop} {Ts : List Cond} {own C : String} {b : Addr} {As rest : List Value} {g : JFrame}
theorem vx_runI (S : CallFix p m c cc nL s args Ts own) (hM : vx_Met l y ws rm Pc Qc XC mc ms free) (cw : CallB R s args own index y bytes maxL none ws rm mc ms n ∧ y.name = "<init>" ∧ (Cond.instanceMethod y).before args s = true) (hp : PreS s H Pc (.ref b :: As))
    (hg : g.method = m) (hn : As.length = n) (hsize : g.locals.size = nL) (hstack : g.stack = As.reverse ++ .ref b :: rest) (hW : 2 * g.monitorRoom + (rest.map fun v => v.category).sum ≤ 8) (hdg : decode cc g.pc = .ok (.invokespecial index, 3)) (hf : cells + mc ≤ R.cells ∧ slots + ms ≤ R.slots) :
    vx_Run p l e R s m args below meth c H locs cells slots mc ms g rest (Qc (Value.ref b :: As).toArray) XC free := by
  have hK : vx_Back l R p e below s args y 3 8 (PreOf R mc ms Pc) (PostOf Qc mc ms free) (vx_Post XC mc ms free) := vx_callBack cw.1 hM hp.1
  obtain ⟨⟨-, -, -, -, -, -, hcode, -, hy, hlen, hl⟩, hy1, hin⟩ := cw
  obtain ⟨hx, hb, hml, ho, -⟩ := S
  have hPc := hp.2
  intro T hT X
  rcases vx_callI X hx (bytes := bytes) (maxL := maxL) ho hy1 hl hin hcode hy hK hg (hsize.trans hml.symm) (a := b) (argsL := As) (rest := rest) (fun sig h => hn.trans (hlen sig h)) hstack hW (by rw [hb]; exact hdg)
    (fun vm₁ hW₁ => ⟨hf.1, hf.2, hPc (T.setVm vm₁) hT hW₁⟩) with ⟨v, vm₁, ⟨U', l2, c2, s2⟩, hW₁, X', ⟨g', mk, t, L, e1, e2, hq, h1, hL, h2, h3⟩, st⟩ | ⟨q, vm₁, ⟨U', l2, c2, s2⟩, hW₁, X', ⟨g', mk, t, L, E, ce, e1, e2, hq, hce, hcv, hcl, h1, hL, h2, h3⟩, st⟩
  · dsimp only [Pt.U, Pt.locs, Pt.cells, Pt.slots] at X' e1 e2 h1 h2 h3 st
    subst h1; subst h2; subst h3
    exact Or.inl ⟨v, (T.setVm vm₁).calling g' mk (Value.ref b :: As).toArray, t, U', L, hT, X', hL, e1, e2, hq, st⟩
  · dsimp only [Pt.U, Pt.locs, Pt.cells, Pt.slots] at X' e1 e2 h1 h2 h3 st hcl
    subst h1; subst h2; subst h3
    exact Or.inr ⟨q, (T.setVm vm₁).calling g' mk (Value.ref b :: As).toArray, t, U', L, E, ce, hT, X', hL, e1, e2, hq, hce, hcv, vx_cls hW₁ hcl, st⟩
end VXIB
/-! ===== END ===== -/
/-! ===== BEGIN a private constructor of a nest mate that throws ===== -/
section VXIC
variable {p : Program} {l : Launch} {e : Env} {R : Room} {s : State} {m : MethodId} {args : Array Value} {below : List Frame} {meth : Method} {c : Code} {T : State} {locs : List Loc} {cells slots : Nat}
theorem vx_callIN (X : Stand p l e R s m args below meth c T locs cells slots) (hexec : p.tables.exec = Jvm.exec) {own : String} {index : Nat} {host : String} {y : MethodName} {bytes : ByteArray} {maxL : Nat}
    (hown : s.vm.findClass own = some m.cls) (hy1 : y.name = "<init>") (hlink : (Cond.methodLinkNest own index y host).before args s = true) (hinst : (Cond.instanceMethod y).before args s = true)
    (hcode : (Cond.code y bytes maxL none).before args s = true) (hy : y.cls ≠ "java/lang/invoke/MethodHandle" ∧ y.cls ≠ "java/lang/invoke/VarHandle")
    {W9 : Nat} {Pre : Pt → Array Value → Prop} {Post : Pt → Array Value → Option Value → Pt → Prop} {PostX : Pt → Array Value → Addr → Pt → Prop} (hK : vx_Back l R p e below s args y 3 W9 Pre Post PostX)
    {g : JFrame} (hg : g.method = m) (hsize : g.locals.size = c.maxLocals) {a : Addr} {argsL rest : List Value} (hlen : ∀ sig, parseMethodDescriptor y.desc = some sig → argsL.length = sig.parameters.length)
    (hstack : g.stack = argsL.reverse ++ .ref a :: rest) (hW : 2 * g.monitorRoom + (rest.map fun v => v.category).sum ≤ W9) (hdg : decode c.code g.pc = .ok (.invokespecial index, 3))
    (hpre : ∀ vm₁, s.WarmedH vm₁ → Pre ⟨T.setVm vm₁, locs, cells, slots⟩ (Value.ref a :: argsL).toArray) :
    (∃ (v : Option Value) (vm₁ : Vm) (B : Pt), s.WarmedH vm₁ ∧ Stand p l e R s m args below meth c B.U B.locs B.cells B.slots ∧ Post ⟨T.setVm vm₁, locs, cells, slots⟩ (Value.ref a :: argsL).toArray v B ∧
      ∀ target, Steps p.tables e below (B.U.setTop { g with pc := g.pc + 3, stack := v.toList ++ rest }) target → Steps p.tables e below (T.setTop g) target) ∨
    (∃ (q : Addr) (vm₁ : Vm) (B : Pt), s.WarmedH vm₁ ∧ Stand p l e R s m args below meth c B.U B.locs B.cells B.slots ∧ PostX ⟨T.setVm vm₁, locs, cells, slots⟩ (Value.ref a :: argsL).toArray q B ∧
      Steps p.tables e below (T.setTop g) ((B.U.setTop { g with stack := rest }).pushFrame (.throwing q))) := by
  subst hg
  have hpl : e.platform.magicAccessors = ({} : Platform).magicAccessors := by rw [X.admits.platform]
  obtain ⟨mk, methM, cM, kP, vm₁, hnamed, hmethM, hcodeM, -, hlocalsM, -, hkP, -, hW₁, hstep₁⟩ := Steps.initColdArgsNest (e := e) X.here hexec X.warmed hpl hown hy1 hy hlink hinst hcode (f := g) rfl hlen hstack hdg
  have X₁ := X.noted hW₁
  rcases hK g.method meth c ⟨T.setVm vm₁, locs, cells, slots⟩ { g with stack := rest } (.invokespecial index) mk (Value.ref a :: argsL).toArray X₁ rfl hsize hdg hW (X₁.named hnamed) (hpre vm₁ X₁.warmed) with ⟨v, B, X', hpost, hsteps⟩ | ⟨q, B, X', hpost, hsteps⟩
  · exact Or.inl ⟨v, vm₁, B, X₁.warmed, X', hpost, fun target h => hstep₁ _ fun acts => by rw [doInvoke_state]; exact hsteps.trans h⟩
  · exact Or.inr ⟨q, vm₁, B, X₁.warmed, X', hpost, hstep₁ _ fun acts => by rw [doInvoke_state]; exact hsteps⟩
end VXIC
section VXID
variable {p : Program} {l : Launch} {e : Env} {R : Room} {s : State} {m : MethodId} {args : Array Value} {below : List Frame} {meth : Method} {c : Code} {H : Heap} {locs : List Loc} {cells slots : Nat}
theorem vx_runIN {y : MethodName} {bytes cc : ByteArray} {maxL nL mc ms n index : Nat} {ws : List Cond} {rm : Room} {Pc : Array Value → State → Prop} {Qc : Array Value → State → Outcome → State → Prop} {XC : String → State → State → Prop} {free : Addr → Prop} {Ts : List Cond} {own host : String} {b : Addr} {As rest : List Value} {g : JFrame}
    (S : CallFix p m c cc nL s args Ts own) (hM : vx_Met l y ws rm Pc Qc XC mc ms free) (cw : va_CN R s args own index y host bytes maxL none ws rm mc ms n ∧ y.name = "<init>" ∧ (Cond.instanceMethod y).before args s = true) (hp : PreS s H Pc (.ref b :: As))
    (hg : g.method = m) (hn : As.length = n) (hsize : g.locals.size = nL) (hstack : g.stack = As.reverse ++ .ref b :: rest) (hW : 2 * g.monitorRoom + (rest.map fun v => v.category).sum ≤ 8) (hdg : decode cc g.pc = .ok (.invokespecial index, 3)) (hf : cells + mc ≤ R.cells ∧ slots + ms ≤ R.slots) :
    vx_Run p l e R s m args below meth c H locs cells slots mc ms g rest (Qc (Value.ref b :: As).toArray) XC free := by
  obtain ⟨⟨⟨hrc, hrs, hfr, hlo, hws, hcw⟩, hcode, hini, hy, hlen, hl⟩, hx1, hx2⟩ := cw
  have hK : vx_Back l R p e below s args y 3 8 (PreOf R mc ms Pc) (PostOf Qc mc ms free) (vx_Post XC mc ms free) := vx_back (bytes := bytes) (maxL := maxL) (ret := none) hM hp.1 hrc hrs hfr hlo hws hcw (fun a' U hW => word_at hW (Or.inl (by first | rfl | simp [Cond.onTables, Cond.keeps, Cond.steady])) hini)
  obtain ⟨hx, hb, hml, ho, -⟩ := S
  have hPc := hp.2
  intro T hT X
  rcases vx_callIN X hx (bytes := bytes) (maxL := maxL) ho hx1 hl hx2 hcode hy hK hg (hsize.trans hml.symm) (a := b) (argsL := As) (rest := rest) (fun sig h => hn.trans (hlen sig h)) hstack hW (by rw [hb]; exact hdg)
    (fun vm₁ hW₁ => ⟨hf.1, hf.2, hPc (T.setVm vm₁) hT hW₁⟩) with ⟨v, vm₁, ⟨U', l2, c2, s2⟩, hW₁, X', ⟨g', mk, t, L, e1, e2, hq, h1, hL, h2, h3⟩, st⟩ | ⟨q, vm₁, ⟨U', l2, c2, s2⟩, hW₁, X', ⟨g', mk, t, L, E, ce, e1, e2, hq, hce, hcv, hcl, h1, hL, h2, h3⟩, st⟩
  · dsimp only [Pt.U, Pt.locs, Pt.cells, Pt.slots] at X' e1 e2 h1 h2 h3 st
    subst h1; subst h2; subst h3
    exact Or.inl ⟨v, (T.setVm vm₁).calling g' mk (Value.ref b :: As).toArray, t, U', L, hT, X', hL, e1, e2, hq, st⟩
  · dsimp only [Pt.U, Pt.locs, Pt.cells, Pt.slots] at X' e1 e2 h1 h2 h3 st hcl
    subst h1; subst h2; subst h3
    exact Or.inr ⟨q, (T.setVm vm₁).calling g' mk (Value.ref b :: As).toArray, t, U', L, E, ce, hT, X', hL, e1, e2, hq, hce, hcv, vx_cls hW₁ hcl, st⟩
end VXID
/-! ===== END ===== -/
/-! ===== soundness, 10: calls; every run ===== -/
theorem hx_take_rev {α : Type} : ∀ (n : Nat) (st : List α) (x : α), hx_nth st n = some x → st.take (n + 1) = st.take n ++ [x] ∧ (st.take n).length = n
  | 0, a :: l, x, h => by cases h; exact ⟨rfl, rfl⟩
  | n + 1, a :: l, x, h => by
    obtain ⟨h1, h2⟩ := hx_take_rev n l x h
    exact ⟨by show a :: l.take (n + 1) = a :: l.take n ++ [x]; rw [h1]; rfl, by show (l.take n).length + 1 = n + 1; rw [h2]⟩
  | 0, [], x, h => by cases h
  | n + 1, [], x, h => by cases h
theorem hx_call_yes {kc n pc : Nat} {ls : List (Option Value)} {st : List Value} {Hs : hx_HS} {u kd : Nat} {as : List Value} {fs : hx_FS} (h : hx_call kc n pc ls st Hs u = some (.inr (.inl (kd, as, fs)))) : kd = kc ∧ as = (st.take n).reverse ∧ fs = (pc, ls, st.drop n, Hs, u) ∧ n ≤ st.length ∧ hx_cat (st.drop n) ≤ 8 ∧ hx_wls Hs.1.length ls = true ∧ hx_wvs Hs.1.length (st.drop n) = true := by
  unfold hx_call at h
  split at h
  · rename_i hc
    cases h
    exact ⟨rfl, rfl, rfl, hc⟩
  · cases h
theorem hx_callV_yes {kc n ci pc : Nat} {ls : List (Option Value)} {st : List Value} {Hs : hx_HS} {u kd : Nat} {as : List Value} {fs : hx_FS} (h : hx_callV kc n ci pc ls st Hs u = some (.inr (.inl (kd, as, fs)))) :
    (∃ a ks, hx_nth st (n - 1) = some (.ref a) ∧ hx_nth Hs.1 a = some (.inl (ci, ks)) ∧ 0 < n) ∧ hx_call kc n pc ls st Hs u = some (.inr (.inl (kd, as, fs))) := by
  unfold hx_callV at h
  split at h
  · rename_i a ha
    split at h
    · rename_i c ks hc
      split at h
      · rename_i hcc
        obtain ⟨rfl, hn⟩ := hcc
        exact ⟨⟨a, ks, ha, hc, hn⟩, h⟩
      · cases h
    · cases h
  · cases h
theorem hx_abs_no {bu pc : Nat} {ls : List (Option Value)} {st : List Value} {Hs : hx_HS} {u : Nat} {z : (Nat × List Value × hx_FS) ⊕ (hx_RS × hx_HS × Nat)} (h : hx_abs bu pc ls st Hs u = some (.inr z)) : False := by
  unfold hx_abs hx_k at h
  split at h
  · split at h <;> cases h
  · cases h
theorem hx_min_no {bu pc : Nat} {ls : List (Option Value)} {st : List Value} {Hs : hx_HS} {u : Nat} {z : (Nat × List Value × hx_FS) ⊕ (hx_RS × hx_HS × Nat)} (h : hx_min bu pc ls st Hs u = some (.inr z)) : False := by
  unfold hx_min hx_k at h
  split at h
  · split at h <;> cases h
  · cases h
theorem hx_copy_no {pc : Nat} {ls : List (Option Value)} {st : List Value} {Hs : hx_HS} {u : Nat} {z : (Nat × List Value × hx_FS) ⊕ (hx_RS × hx_HS × Nat)} (h : hx_copy pc ls st Hs u = some (.inr z)) : False := by
  unfold hx_copy hx_k at h
  split at h
  · split at h
    · split at h <;> cases h
    · cases h
  · cases h
theorem hx_objI_no {pc : Nat} {ls : List (Option Value)} {st : List Value} {Hs : hx_HS} {u : Nat} {z : (Nat × List Value × hx_FS) ⊕ (hx_RS × hx_HS × Nat)} (h : hx_objI pc ls st Hs u = some (.inr z)) : False := by
  unfold hx_objI hx_k at h
  split at h
  · split at h <;> cases h
  · cases h
theorem hx_recv {s : State} {H : Heap} {dC : Nat → ClassId} {dI : Nat → Nat → Nat} {ad : Nat → Nat} {ac : Nat → ClassId} {b a ci : Nat} {Hs : hx_HS} {ks : List Value} (hK : va_K (dC, dI) vwCl [] s) (hP : va_P (dC, dI) vwCl (hx_ws ad ac b Hs) H) (hci : ci < 6) (hcell : hx_nth Hs.1 a = some (.inl (ci, ks))) : ∃ cell : Cell, H[ad a]? = some cell ∧ cell.vm.isStatics = false ∧ s.vm.findClass (hx_R ci) = some cell.cls := by
  have key : ∃ q, hx_nth vwCl ci = some q := by
    match ci, hci with
    | 0, _ => exact ⟨_, rfl⟩
    | 1, _ => exact ⟨_, rfl⟩
    | 2, _ => exact ⟨_, rfl⟩
    | 3, _ => exact ⟨_, rfl⟩
    | 4, _ => exact ⟨_, rfl⟩
    | 5, _ => exact ⟨_, rfl⟩
  obtain ⟨⟨C, T, N⟩, hC⟩ := key
  obtain ⟨hCR, -⟩ := hx_cls hci hC
  have h := va_recv (ws := hx_ws ad ac b Hs) hK hP (ci := ci) (q := (C, T, N)) (by rw [← hx_nth_eq]; exact hC) (hx_ws_at hcell)
  rw [← hCR]
  exact h
theorem hx_step_nocall {sc : Nat × (Nat → Int32)} {bu : Nat} {rt : Option FieldType} {ins : Instr} {a bb : Nat} {v : Value} {tg : List Nat} {pc : Nat} {ls : List (Option Value)} {st : List Value} {Hs : hx_HS} {u : Nat} {z : Nat × List Value × hx_FS} (n1 : ∀ i, ins ≠ .invokevirtual i) (n2 : ∀ i, ins ≠ .invokestatic i) (n3 : ∀ i, ins ≠ .invokespecial i) (h : hx_step sc bu rt (ins, a, bb, v, tg) pc ls st Hs u = some (.inr (.inl z))) : False := by
  unfold hx_step at h
  dsimp only at h
  cases ins
  case invokevirtual i => exact n1 i rfl
  case invokestatic i => exact n2 i rfl
  case invokespecial i => exact n3 i rfl
  all_goals (try simp only [hx_ild, hx_lld, hx_fld, hx_dld, hx_ald, hx_ist, hx_fst, hx_ast, hx_lst, hx_dst, hx_ii, hx_id, hx_i1, hx_ll, hx_li, hx_ff, hx_dd, hx_fcmp, hx_dcmp, hx_fu, hx_f2d, hx_d2l, hx_if, hx_icmp, hx_br, hx_sw, hx_inc, hx_get, hx_put, hx_arl, hx_ars, hx_len, hx_dup, hx_dup2, hx_pop, hx_newo, hx_newa, hx_newq, hx_thr, hx_iret, hx_ret, hx_k] at h)
  all_goals (repeat' (first | cases h | split at h))
section HXR
variable {p : Program} {l : Launch} {e : Env} {R : Room} {s : State} {m : MethodId} {args : Array Value} {below : List Frame} {meth : Method} {c : Code} {H : Heap} {locs : List Loc} {Q : State → Prop}
variable {dC : Nat → ClassId} {dI : Nat → Nat → Nat} {A : Nat → Prop} {b : Nat} {G : Nat × (Nat → Nat)} {sc : Nat × (Nat → Int32)} {d k : Nat}
variable {pc : Nat} {ls : List (Option Value)} {st : List Value} {Hs : hx_HS} {u : Nat} {fs : hx_FS} {ad : Nat → Nat} {ac : Nat → ClassId} {lc : Array Slot}
theorem hx_sub {ws : va_W} (hD : va_D A ws) (hS : va_S A s.heap H locs) (hA : ∀ q, s.heap.size ≤ q → A q) : ∀ q, va_A ws H.size q → A q := by
  intro q h
  rcases h with ⟨k, e, h⟩ | h
  · exact hD.2 k (q, e) h
  · exact hA q (Nat.le_trans hS.1 h)
theorem hx_pre (hI : hx_I dC dI A s b G H locs ad ac Hs) (hK : va_K (dC, dI) vwCl [] s) (hA : ∀ q, s.heap.size ≤ q → A q) (hSt : hx_St sc b A s s.heap) (U : State) (hU : U.heap = H) (hW : s.WarmedH U.vm) : hx_W0 dC dI ad ac b sc Hs H.size U :=
  ⟨by rw [hU], by rw [hU]; exact hI.1, va_K.moved hW.alike hK, hx_T_moved hW.alike hI.2.2.2.1, hI.2.1.weaken (fun _ _ _ _ => trivial), hx_St_move hSt hI.2.2.1 hU hW (hx_sub hI.2.1 hI.2.2.1 hA)⟩
theorem hx_cont {n d1 kc : Nat} {st1 stc : List Value} {res1 res : hx_RS} {H1 H2 : hx_HS} {u2 : Nat} {aa : Array Value} (hA9 : hx_A n) (F : hx_F p l R s m args meth c dC dI A b sc (d1 + 1) k) (hI : hx_I dC dI A s b G H locs ad ac Hs) (hL : hx_L ad b lc (hx_ml k) ls) (wl : hx_wls Hs.1.length ls = true) (wv : hx_wvs Hs.1.length st1 = true) (hcov : ∀ h ∈ hx_hh k, h.1 ≤ pc ∧ pc < h.2.1)
    (hr : vx_Run p l e R s m args below meth c H locs u (1000 * u) (hx_bud kc) (1000 * hx_bud kc) (F0 m pc lc stc) (st1.map (hx_cv ad b)) (hx_Qc dC dI ad b Hs.1.length (va_A (hx_ws ad ac b Hs) H.size) res1 H1 aa) (hx_XC dC dI ad b Hs.1.length (va_A (hx_ws ad ac b Hs) H.size) res1 H1) (va_A (hx_ws ad ac b Hs) H.size))
    (h1 : ∀ v, res1 = .inl v → hx_run sc n (d1 + 1) k (pc + 3, ls, v.toList ++ st1, H1, u + hx_bud kc) = some (res, H2, u2))
    (h2 : ∀ E, res1 = .inr E → (hx_ct k = [] ∧ res = .inr E ∧ H2 = H1 ∧ u2 = u + hx_bud kc) ∨ (∃ j npc, hx_find (hx_ct k) E = some (j, npc) ∧ j < ls.length ∧ hx_run sc n (d1 + 1) k (npc, hx_st1 ls j none, [], H1, u + hx_bud kc) = some (res, H2, u2)))
    (hRet : hx_Ret p l e R s m args below meth c Q dC dI A b G k res H2 u2) (hOut : hx_Out p l e R s m args below meth c Q dC dI A b G k res H2 u2) (hThr : hx_Thr p l e R s m args below meth c Q dC dI A b G k res H2 u2) :
    W p l e R s m args below meth c H locs u (1000 * u) Q (F0 m pc lc stc) := by
  obtain ⟨hx, hb, hml, hown, hts, hrt, hlocks, htab, hl, hK, hA, hSt, hR, hini⟩ := id F
  have hsub := hx_sub hI.2.1 hI.2.2.1 hA
  have world : ∀ (ad' : Nat → Nat) (st₀ t : State) (Hh : Heap) (L : List Loc), st₀.heap = H → t.heap = Hh → s.vm.Alike t.vm → hx_W1 dC dI ad b Hs.1.length (va_A (hx_ws ad ac b Hs) H.size) H1 ad' t → va_F (va_A (hx_ws ad ac b Hs) H.size) st₀ t → (∀ z ∈ L, va_A (hx_ws ad ac b Hs) H.size z.base) → ∃ ac', hx_I dC dI A s b G Hh (locs ++ L) ad' ac' H1 := by
    intro ad' st₀ t Hh L h0 ht hvm hW1 hF1 hL9
    obtain ⟨hg, ac', hP1, hT1, hD1⟩ := hW1
    obtain ⟨-, -, k3⟩ := vx_keep (T' := t) h0 rfl hI.2.2.1 (fun q _ h => hsub q h) hsub hL9 hF1
    exact ⟨ac', by rw [← ht]; exact hP1, hD1.weaken (fun _ q _ h => hsub q.1 h), by rw [← ht]; exact k3, hx_T_moved hvm.symm hT1, Nat.le_trans hI.2.2.2.2.1 hg.1, fun z hz => by rw [hg.2 z (Nat.lt_of_lt_of_le hz hI.2.2.2.2.1)]; exact hI.2.2.2.2.2 z hz⟩
  refine hx_after hr ?_ ?_
  · intro E ce q9 st₀ t Hh L h0 ht hvm hX hL9 hce hcv hcl
    obtain ⟨⟨E0, ad', hres, rfl, hW1⟩, hF1⟩ := hX
    obtain ⟨ac', hI'⟩ := world ad' st₀ t Hh L h0 ht hvm hW1 hF1 hL9
    have hag := hW1.1.2
    rw [← Nat.mul_add]
    rcases h2 E0 hres with ⟨hct, rfl, rfl, rfl⟩ | ⟨j, npc, hfind, hj, hrun⟩
    · have hh0 : hx_hh k = [] := by
        have h9 := hx_hk_all k
        rw [hct] at h9
        cases hz : hx_hh k with
        | nil => rfl
        | cons a b => rw [hz] at h9; cases h9
      exact hOut E0 rfl pc Hh _ ad' ac' lc _ q9 ce hh0 hI' hce hcv hcl
    · obtain ⟨pre, x, suf, e1, e2, e3, e4, e5, e6⟩ := hx_hk_find _ _ (hx_hk_all k) hfind
      have hsplit : c.exceptionTable.toList = tableOf pre ++ ⟨x.1, x.2.1, x.2.2.1, x.2.2.2⟩ :: tableOf suf := by
        rw [htab (by rw [e1]; intro z; cases pre <;> cases z), e1]
        unfold tableOf
        rw [List.map_append, List.map_cons]
      have hxm : x ∈ hx_hh k := by rw [e1]; exact List.mem_append_right _ List.mem_cons_self
      obtain ⟨-, -, -, -, -, -, -, -, hnc, hxw⟩ := hSt
      have hcast : (Jvm.Cond.castable (hx_E E0) (hx_E E0)).before args s = true := by
        have : E0 = 0 ∨ E0 = 1 ∨ E0 = 2 := by omega
        rcases this with rfl | rfl | rfl
        · exact (hxw _ (by simp [hx_xw])).use rfl
        · exact (hxw _ (by simp [hx_xw])).use rfl
        · exact (hxw _ (by simp [hx_xw])).use rfl
      have hL' := (hx_L_ag wl hag hL).has
      have key : ∀ lc' : Array Slot, lv_has lc' (hx_ml k) ((j, Value.ref q9) :: (hx_as ad' b 0 ls).filter (fun q => !(q.1 == j) && !(q.1 + 1 == j && q.2.category == 2))) → W p l e R s m args below meth c Hh (locs ++ L) (u + hx_bud kc) (1000 * (u + hx_bud kc)) Q (F0 m npc lc' []) := by
        intro lc' hlc'
        exact hA9 sc (d1 + 1) k npc _ [] H1 _ res H2 u2 hrun p l e R s m args below meth c Q dC dI A b G F hRet hOut hThr Hh (locs ++ L) ad' ac' lc' hI' (hx_st1_none hL.2.1 hlc')
      refine vx_catch hown (tableOf pre) ⟨x.1, x.2.1, x.2.2.1, x.2.2.2⟩ (tableOf suf) hsplit (fun z hz => ?_) ?_ e3 (hts _ e5) hcast hce hcv hcl ?_
      · unfold tableOf at hz
        obtain ⟨z0, hz0, rfl⟩ := List.mem_map.mp hz
        obtain ⟨h7, E2, h8, h9, h10⟩ := e2 z0 hz0
        refine Or.inr ⟨h7, hx_E E2, hts _ h10, hnc (hx_E E0, hx_E E2) ?_⟩
        have q1 : E0 = 0 ∨ E0 = 1 ∨ E0 = 2 := by omega
        have q2 : E2 = 0 ∨ E2 = 1 ∨ E2 = 2 := by omega
        rcases q1 with rfl | rfl | rfl <;> rcases q2 with rfl | rfl | rfl <;> first | exact absurd rfl h9 | simp [hx_ncs]
      · obtain ⟨c1, c2⟩ := hcov x hxm
        show (decide (x.1 ≤ pc) && decide (pc < x.2.1)) = true
        rw [decide_eq_true c1, decide_eq_true c2]
        rfl
      · rcases e6 with ⟨rfl, j2, rfl, hd⟩ | ⟨rfl, hd⟩
        · exact lv_astore_n hx hb hd rfl hL' (by rw [← hL.2.1]; exact hj) rfl key
        · exact lv_astore hx hb hd hL' (by rw [← hL.2.1]; exact hj) rfl key
  · intro v st₀ t Hh L h0 ht hvm hQ hL9
    obtain ⟨⟨v1, ad', hres, hov, hW1⟩, hF1⟩ := hQ
    obtain ⟨ac', hI'⟩ := world ad' st₀ t Hh L h0 ht hvm hW1 hF1 hL9
    have hag := hW1.1.2
    rw [← Nat.mul_add]
    cases hov
    have K := hA9 sc (d1 + 1) k (pc + 3) _ _ H1 _ res H2 u2 (h1 v1 hres) p l e R s m args below meth c Q dC dI A b G F hRet hOut hThr Hh (locs ++ L) ad' ac' lc hI' (hx_L_ag wl hag hL)
    have e1 : (v1.toList ++ st1).map (hx_cv ad' b) = (v1.map (hx_cv ad' b)).toList ++ st1.map (hx_cv ad b) := by
      rw [List.map_append, hx_st_ag wv hag]
      cases v1 <;> rfl
    dsimp only at K
    rw [e1] at K
    exact K
theorem hx_room {d1 kc : Nat} (F : hx_F p l R s m args meth c dC dI A b sc (d1 + 1) k) (hkc : kc < 202) : (hx_rm d1 kc).frames + 1 ≤ R.frames ∧ 8 + (hx_ml kc + 11) + (hx_rm d1 kc).locals ≤ R.locals := by
  obtain ⟨hx, hb, hml, hown, hts, hrt, hlocks, htab, hl, hK, hA, hSt, hR, hini⟩ := F
  have h1 := (hx_mokS hkc).2.2.2.2.2.2.2.2.1
  refine ⟨?_, ?_⟩
  · show d1 + 20 + 1 ≤ _; omega
  · show 8 + (hx_ml kc + 11) + (60 * d1 + 200) ≤ _; omega
/-- a call, of any of the four kinds -/
theorem hx_s_call {n d1 kc bb : Nat} {ce : hx_CE} {as : List Value} {fs1 : hx_FS} {res1 res : hx_RS} {H1 H2 : hx_HS} {u1 u2 : Nat} (hA9 : hx_A n) (F : hx_F p l R s m args meth c dC dI A b sc (d1 + 1) k) (hat : hx_at k pc = some ce) (h : hx_step sc (hx_bud k) (hx_rt k) ce pc ls st Hs u = some (.inr (.inl (kc, as, fs1)))) (hu : u + hx_bud kc ≤ hx_bud k) (hn : (hx_args as).length ≤ hx_ml kc) (hrun : hx_run sc n d1 kc (0, hx_entry as (hx_ml kc), [], Hs, 0) = some (res1, H1, u1))
    (h1 : ∀ v, res1 = .inl v → hx_run sc n (d1 + 1) k (pc + 3, ls, v.toList ++ fs1.2.2.1, H1, u + hx_bud kc) = some (res, H2, u2))
    (h2 : ∀ E, res1 = .inr E → (hx_ct k = [] ∧ res = .inr E ∧ H2 = H1 ∧ u2 = u + hx_bud kc) ∨ (∃ j npc, hx_find (hx_ct k) E = some (j, npc) ∧ j < ls.length ∧ hx_run sc n (d1 + 1) k (npc, hx_st1 ls j none, [], H1, u + hx_bud kc) = some (res, H2, u2)))
    (hRet : hx_Ret p l e R s m args below meth c Q dC dI A b G k res H2 u2) (hOut : hx_Out p l e R s m args below meth c Q dC dI A b G k res H2 u2) (hThr : hx_Thr p l e R s m args below meth c Q dC dI A b G k res H2 u2) :
    hx_Wt p l e R s m args below meth c Q dC dI A b G k (pc, ls, st, Hs, u) := by
  obtain ⟨hx, hb, hml, hown, hts, hrt, hlocks, htab, hl, hK, hA, hSt, hR, hini⟩ := id F
  have hck := hx_at_in hat
  have hd := hx_ck_d hck
  have hlk := hx_ck_l hck
  obtain ⟨ins, a, b9, v, tg⟩ := ce
  have hstep0 := h
  unfold hx_step at h
  unfold hx_lk at hlk
  dsimp only at hd hlk h
  have hf : u + hx_bud kc ≤ R.cells ∧ 1000 * u + 1000 * hx_bud kc ≤ R.slots := ⟨by omega, by omega⟩
  intro H locs ad ac lc hI hL
  dsimp only at hI hL ⊢
  have hsub := hx_sub hI.2.1 hI.2.2.1 hA
  cases ins with
  | invokevirtual i =>
    match tg, hlk, h with
    | [ci], hlk, h =>
      simp only [Bool.and_eq_true, decide_eq_true_eq] at hlk
      obtain ⟨⟨⟨⟨⟨⟨⟨⟨l1, l2⟩, l3⟩, l4⟩, l5⟩, l6⟩, l7⟩, l8⟩, l9⟩ := hlk
      obtain ⟨⟨a1, ks, ha1, hcell, hn0⟩, h⟩ := hx_callV_yes h
      obtain ⟨rfl, has, rfl, hlen, hcat, wl, wv⟩ := hx_call_yes h
      obtain ⟨hw1, hw2, hw3, hw4, hw5, hw6, hw7, hw8, hw9, hw10⟩ := hx_mokS l1
      rw [if_neg (by rw [l6]; decide)] at hw2
      have hsel := hw2.2.resolve_left l7
      obtain ⟨z9, hz9⟩ := hx_has_in l5
      have hml9 := hx_wi_in (hx_ML_ok _ hz9)
      obtain ⟨t1, t2⟩ := hx_take_rev (b9 - 1) st _ ha1
      rw [show b9 - 1 + 1 = b9 by omega] at t1
      have has2 : as = .ref a1 :: (st.take (b9 - 1)).reverse := by rw [has, t1, List.reverse_append]; rfl
      have hst : st = (st.take (b9 - 1)) ++ .ref a1 :: st.drop b9 := by
        conv => lhs; rw [← List.take_append_drop b9 st, t1]
        rw [List.append_assoc]
        rfl
      have hgood : GoodIn hx_LW (wsV (hx_R (hx_own k)) i (hx_R ci) (hx_y kc) (hx_cws kc)) := hx_GoodIn (fun w hw => by
        unfold wsV at hw
        rcases List.mem_append.mp hw with hw | hw
        · simp only [List.mem_cons, List.not_mem_nil, or_false] at hw
          rcases hw with rfl | rfl | rfl | rfl
          · exact hml9
          · exact hw2.1
          · rw [← l2, ← hw5]; exact hsel
          · rw [← l2, ← hw5]; exact hw3
        · rcases List.mem_cons.mp hw with rfl | hw
          · exact hw1
          · exact hw)
      have hcls := hx_recv (ci := ci) hK hI.1 l3 hcell
      have hM := hx_met hA9 l1 hrun hn l hl dC dI ad ac b H.size
      have hcw : CallW R s args (hx_R (hx_own k)) (hx_R ci) i (hx_y kc) (hx_by kc) (hx_ml kc) (hx_rt kc) (hx_cws kc) (hx_rm d1 kc) (hx_bud kc) (1000 * hx_bud kc) (hx_np kc) := cwV (hx_np kc) hts hgood (ws' := hx_LW) (by unfold hx_cws hx_cw; rw [l8]) rfl rfl ⟨by rw [hw5, l2], hw6, hw7, hw8⟩ (hx_room F l1)
      have hr := vx_runV (e := e) (below := below) (meth := meth) (locs := locs) (H := H) (cells := u) (slots := 1000 * u) (As := (st.take (b9 - 1)).reverse.map (hx_cv ad b)) (rest := (st.drop b9).map (hx_cv ad b)) (b := ad a1) (g := F0 m pc lc (st.map (hx_cv ad b))) ⟨hx, hb, hml, hown, hts⟩ hM hcw ⟨hx_blind, hcls, fun U hU hW => ⟨by rw [has2]; rfl, hx_pre hI hK hA hSt U hU hW⟩⟩ rfl (by rw [List.length_map, List.length_reverse, t2]; omega) hL.1 (by
          show st.map (hx_cv ad b) = _
          conv => lhs; rw [hst]
          rw [List.map_append, List.map_reverse, List.reverse_reverse]
          rfl) (lv_room (by rw [hx_cat_map]; exact hcat)) hd hf
      exact hx_cont hA9 F hI hL wl wv (fun h9 hh9 => by
        have h10 := List.all_eq_true.mp l9 h9 hh9
        simp only [Bool.and_eq_true, decide_eq_true_eq] at h10
        exact h10) hr h1 h2 hRet hOut hThr
    | [], hlk, h => cases h
    | _ :: _ :: _, hlk, h => cases h
  | invokestatic i =>
    match tg, hlk, h with
    | [], hlk, h =>
      simp only [Bool.and_eq_true, decide_eq_true_eq] at hlk
      obtain ⟨⟨⟨⟨l1, l2⟩, l3⟩, l4⟩, l5⟩ := hlk
      obtain ⟨rfl, has, rfl, hlen, hcat, wl, wv⟩ := hx_call_yes h
      obtain ⟨hw1, hw2, hw3, hw4, hw5, hw6, hw7, hw8, hw9, hw10⟩ := hx_mokS l1
      rw [if_pos l4] at hw2
      obtain ⟨z9, hz9⟩ := hx_has_in l3
      have hml9 := hx_wi_in (hx_ML_ok _ hz9)
      have hgood : GoodIn hx_LW (va_wsS (hx_R (hx_own k)) i (hx_y kc) (hx_cws kc)) := hx_GoodIn (fun w hw => by
        unfold va_wsS at hw
        rcases List.mem_append.mp hw with hw | hw
        · simp only [List.mem_cons, List.not_mem_nil, or_false] at hw
          rcases hw with rfl | rfl | rfl
          · exact hml9
          · exact hw2
          · exact hw3
        · rcases List.mem_cons.mp hw with rfl | hw
          · exact hw1
          · exact hw)
      have hM := hx_met hA9 l1 hrun hn l hl dC dI ad ac b H.size
      have hst : st.map (hx_cv ad b) = ((as.map (hx_cv ad b)).reverse) ++ (st.drop b9).map (hx_cv ad b) := by
        rw [has, ← List.map_reverse, List.reverse_reverse, ← List.map_append, List.take_append_drop]
      have hnn : (as.map (hx_cv ad b)).length = hx_np kc := by
        rw [has, List.length_map, List.length_reverse, List.length_take, l2]
        omega
      have hp : PreS s H (va_Pc (as.map (hx_cv ad b)) (hx_W0 dC dI ad ac b sc Hs H.size)) (as.map (hx_cv ad b)) := ⟨hx_blind, fun U hU hW => ⟨rfl, hx_pre hI hK hA hSt U hU hW⟩⟩
      have hcov : ∀ h ∈ hx_hh k, h.1 ≤ pc ∧ pc < h.2.1 := fun h9 hh9 => by rw [l5] at hh9; cases hh9
      cases hh : hx_hh kc with
      | nil =>
        have hcw : CallB R s args (hx_R (hx_own k)) i (hx_y kc) (hx_by kc) (hx_ml kc) (hx_rt kc) (hx_cws kc) (hx_rm d1 kc) (hx_bud kc) (1000 * hx_bud kc) (hx_np kc) ∧ (Jvm.Cond.static (hx_y kc)).before args s = true := va_cwS (hx_np kc) hts hgood (ws' := hx_LW) (by unfold hx_cws hx_cw; rw [hh]) rfl rfl ⟨hw6, hw7, hw8⟩ (hx_room F l1)
        have hr := vx_runS (e := e) (below := below) (meth := meth) (locs := locs) (H := H) (cells := u) (slots := 1000 * u) (rest := (st.drop b9).map (hx_cv ad b)) (g := F0 m pc lc (st.map (hx_cv ad b))) ⟨hx, hb, hml, hown, hts⟩ hM hcw hp rfl hnn hL.1 hst (lv_room (by rw [hx_cat_map]; exact hcat)) hd hf
        exact hx_cont hA9 F hI hL wl wv hcov hr h1 h2 hRet hOut hThr
      | cons q t =>
        have hcw : vx_CSW R s args (hx_R (hx_own k)) i (hx_y kc) (hx_by kc) (hx_ml kc) (hx_rt kc) (q :: t) (hx_cws kc) (hx_rm d1 kc) (hx_bud kc) (1000 * hx_bud kc) (hx_np kc) := vx_cwSW (hx_np kc) hts hgood (ws' := hx_LW) (by unfold hx_cws hx_cw; rw [hh]) rfl rfl ⟨hw6, hw7, hw8⟩ (hx_room F l1)
        have hr := vx_runSX (e := e) (below := below) (meth := meth) (locs := locs) (H := H) (cells := u) (slots := 1000 * u) (rest := (st.drop b9).map (hx_cv ad b)) (g := F0 m pc lc (st.map (hx_cv ad b))) ⟨hx, hb, hml, hown, hts⟩ hM hcw hp rfl hnn hL.1 hst (lv_room (by rw [hx_cat_map]; exact hcat)) hd hf
        exact hx_cont hA9 F hI hL wl wv hcov hr h1 h2 hRet hOut hThr
    | [0], hlk, h => cases h
    | [1], hlk, h => exact (hx_abs_no h).elim
    | [2], hlk, h => exact (hx_min_no h).elim
    | [3], hlk, h => exact (hx_copy_no h).elim
    | [z + 4], hlk, h => cases h
    | _ :: _ :: _, hlk, h => cases hlk
  | invokespecial i =>
    match tg, hlk, h with
    | [ci], hlk, h =>
      simp only [Bool.and_eq_true, decide_eq_true_eq] at hlk
      obtain ⟨⟨⟨⟨⟨⟨⟨⟨⟨l1, l2⟩, l3⟩, l4⟩, l5⟩, l6⟩, l7⟩, l8⟩, l9⟩, l10⟩ := hlk
      obtain ⟨⟨a1, ks, ha1, hcell, hn0⟩, h⟩ := hx_callV_yes h
      obtain ⟨rfl, has, rfl, hlen, hcat, wl, wv⟩ := hx_call_yes h
      obtain ⟨hw1, hw2, hw3, hw4, hw5, hw6, hw7, hw8, hw9, hw10⟩ := hx_mokS l1
      rw [if_neg (by rw [l7]; decide)] at hw2
      obtain ⟨t1, t2⟩ := hx_take_rev (b9 - 1) st _ ha1
      rw [show b9 - 1 + 1 = b9 by omega] at t1
      have has2 : as = .ref a1 :: (st.take (b9 - 1)).reverse := by rw [has, t1, List.reverse_append]; rfl
      have hst : st = (st.take (b9 - 1)) ++ .ref a1 :: st.drop b9 := by
        conv => lhs; rw [← List.take_append_drop b9 st, t1]
        rw [List.append_assoc]
        rfl
      have hgood : GoodIn hx_LW (hx_cws kc) := hx_GoodIn (fun w hw => by
        rcases List.mem_cons.mp hw with rfl | hw
        · exact hw1
        · exact hw)
      have hcw0 : hx_cws kc = Jvm.Cond.code (hx_y kc) (hx_by kc) (hx_ml kc) none :: hx_LW := by unfold hx_cws hx_cw; rw [l8, l6]
      have hM := hx_met hA9 l1 hrun hn l hl dC dI ad ac b H.size
      have hp : PreS s H (va_Pc (as.map (hx_cv ad b)) (hx_W0 dC dI ad ac b sc Hs H.size)) (.ref (ad a1) :: (st.take (b9 - 1)).reverse.map (hx_cv ad b)) := ⟨hx_blind, fun U hU hW => ⟨by rw [has2]; rfl, hx_pre hI hK hA hSt U hU hW⟩⟩
      have hnn : ((st.take (b9 - 1)).reverse.map (hx_cv ad b)).length = hx_np kc := by rw [List.length_map, List.length_reverse, t2]; omega
      have hst2 : st.map (hx_cv ad b) = ((st.take (b9 - 1)).reverse.map (hx_cv ad b)).reverse ++ .ref (ad a1) :: (st.drop b9).map (hx_cv ad b) := by
        conv => lhs; rw [hst]
        rw [List.map_append, List.map_reverse, List.reverse_reverse]
        rfl
      have hcov : ∀ h ∈ hx_hh k, h.1 ≤ pc ∧ pc < h.2.1 := fun h9 hh9 => by rw [l9] at hh9; cases hh9
      have plain : hx_has hx_ML (hx_own k, i, kc) = true → W p l e R s m args below meth c H locs u (1000 * u) Q (F0 m pc lc (st.map (hx_cv ad b))) := by
        intro l11
        obtain ⟨z9, hz9⟩ := hx_has_in l11
        have hml9 := hx_wi_in (hx_ML_ok _ hz9)
        have hcw := cwI (R := R) (args := args) (own := hx_R (hx_own k)) (index := i) (y := hx_y kc) (bytes := hx_by kc) (maxL := hx_ml kc) (ws := hx_cws kc) (rm := hx_rm d1 kc) (mc := hx_bud kc) (ms := 1000 * hx_bud kc) (hx_np kc) hts hgood hcw0 rfl rfl (hts _ hw3) (hts _ hml9) (hts _ hw2.1) l5 ⟨hw6, hw7, hw8⟩ (hx_room F l1)
        have hr := vx_runI (e := e) (below := below) (meth := meth) (locs := locs) (H := H) (cells := u) (slots := 1000 * u) (As := (st.take (b9 - 1)).reverse.map (hx_cv ad b)) (rest := (st.drop b9).map (hx_cv ad b)) (b := ad a1) (g := F0 m pc lc (st.map (hx_cv ad b))) ⟨hx, hb, hml, hown, hts⟩ hM hcw hp rfl hnn hL.1 hst2 (lv_room (by rw [hx_cat_map]; exact hcat)) hd hf
        exact hx_cont hA9 F hI hL wl wv hcov hr h1 h2 hRet hOut hThr
      cases v with
      | long x =>
        dsimp only at l10
        simp only [Bool.and_eq_true, decide_eq_true_eq] at l10
        have hnw := hSt.2.2.2.2.2.2.2.1 (i, hx_y kc) l10.1
        have hown4 : hx_R (hx_own k) = RX4 := by rw [l10.2]; rfl
        have hcw := va_cnB (R := R) (args := args) (own := hx_R (hx_own k)) (host := RX4) (index := i) (y := hx_y kc) (bytes := hx_by kc) (maxL := hx_ml kc) (ws := hx_cws kc) (rm := hx_rm d1 kc) (mc := hx_bud kc) (ms := 1000 * hx_bud kc) (hx_np kc) hts hgood hcw0 rfl rfl (by rw [hown4]; exact hnw) (hts _ hw3) ⟨hw6, hw7, hw8⟩ (hx_room F l1)
        have hr := vx_runIN (e := e) (below := below) (meth := meth) (locs := locs) (H := H) (cells := u) (slots := 1000 * u) (As := (st.take (b9 - 1)).reverse.map (hx_cv ad b)) (rest := (st.drop b9).map (hx_cv ad b)) (b := ad a1) (g := F0 m pc lc (st.map (hx_cv ad b))) ⟨hx, hb, hml, hown, hts⟩ hM ⟨hcw, l5, hts _ hw2.1⟩ hp rfl hnn hL.1 hst2 (lv_room (by rw [hx_cat_map]; exact hcat)) hd hf
        exact hx_cont hA9 F hI hL wl wv hcov hr h1 h2 hRet hOut hThr
      | int x => exact plain l10
      | float x => exact plain l10
      | double x => exact plain l10
      | null => exact plain l10
      | ref x => exact plain l10
      | retAddr x => exact plain l10
    | [], hlk, h => cases hlk
    | [_, _], hlk, h => exact (hx_objI_no h).elim
    | _ :: _ :: _ :: _, hlk, h => cases hlk
  | _ => exact (hx_step_nocall (by intro i hi; cases hi) (by intro i hi; cases hi) (by intro i hi; cases hi) hstep0).elim
end HXR
end
section
/-! ===== soundness, 11: every run of every frame ===== -/
theorem hx_step_end {sc : Nat × (Nat → Int32)} {bu : Nat} {rt : Option FieldType} {ins : Instr} {a bb : Nat} {v : Value} {tg : List Nat} {pc : Nat} {ls : List (Option Value)} {st : List Value} {Hs : hx_HS} {u : Nat} {res : hx_RS} {H2 : hx_HS} {u2 : Nat} (h : hx_step sc bu rt (ins, a, bb, v, tg) pc ls st Hs u = some (.inr (.inr (res, H2, u2)))) :
    (∃ w, res = .inl w ∧ H2 = Hs ∧ u2 = u ∧ hx_rok ins rt st w ∧ hx_il ins v = 1) ∨ (∃ i x t, ins = .new i ∧ tg = x :: t ∧ res = .inr a ∧ H2 = Hs ∧ u2 = u + 1 ∧ hx_cat st ≤ 8) := by
  unfold hx_step at h
  dsimp only at h
  cases ins
  case ireturn =>
    dsimp only at h
    unfold hx_iret at h
    split at h
    · rename_i x
      split at h
      · cases h
        exact Or.inl ⟨_, rfl, rfl, rfl, Or.inl ⟨x, rfl, rfl, rfl, Or.inl rfl⟩, rfl⟩
      · split at h
        · rename_i hx
          cases h
          exact Or.inl ⟨_, rfl, rfl, rfl, Or.inl ⟨x, rfl, rfl, rfl, Or.inr ⟨rfl, hx⟩⟩, rfl⟩
        · cases h
      · cases h
    · cases h
  case lreturn =>
    dsimp only at h
    split at h
    · rename_i x
      split at h
      · rename_i hr
        unfold hx_ret at h
        cases h
        exact Or.inl ⟨_, rfl, rfl, rfl, Or.inr (Or.inl ⟨x, rfl, rfl, rfl, hr⟩), rfl⟩
      · cases h
    · cases h
  case freturn =>
    dsimp only at h
    split at h
    · rename_i x
      split at h
      · rename_i hr
        unfold hx_ret at h
        cases h
        exact Or.inl ⟨_, rfl, rfl, rfl, Or.inr (Or.inr (Or.inl ⟨x, rfl, rfl, rfl, hr⟩)), rfl⟩
      · cases h
    · cases h
  case dreturn =>
    dsimp only at h
    split at h
    · rename_i x
      split at h
      · rename_i hr
        unfold hx_ret at h
        cases h
        exact Or.inl ⟨_, rfl, rfl, rfl, Or.inr (Or.inr (Or.inr (Or.inl ⟨x, rfl, rfl, rfl, hr⟩))), rfl⟩
      · cases h
    · cases h
  case areturn =>
    dsimp only at h
    split at h
    · rename_i x
      split at h
      · rename_i C
        unfold hx_ret at h
        cases h
        exact Or.inl ⟨_, rfl, rfl, rfl, Or.inr (Or.inr (Or.inr (Or.inr (Or.inr ⟨x, C, rfl, rfl, rfl, rfl⟩)))), rfl⟩
      · cases h
    · cases h
  case return_ =>
    dsimp only at h
    split at h
    · split at h
      · rename_i hr
        cases h
        exact Or.inl ⟨_, rfl, rfl, rfl, Or.inr (Or.inr (Or.inr (Or.inr (Or.inl ⟨rfl, rfl, rfl, hr⟩)))), rfl⟩
      · cases h
    · cases h
  case new i =>
    match tg, h with
    | [], h =>
      dsimp only at h
      unfold hx_newo hx_k at h
      split at h <;> cases h
    | x :: t, h =>
      dsimp only at h
      unfold hx_thr at h
      split at h
      · rename_i hc
        cases h
        exact Or.inr ⟨i, x, t, rfl, rfl, rfl, rfl, rfl, hc.2⟩
      · cases h
  all_goals (try simp only [hx_ild, hx_lld, hx_fld, hx_dld, hx_ald, hx_ist, hx_fst, hx_ast, hx_lst, hx_dst, hx_ii, hx_id, hx_i1, hx_ll, hx_li, hx_ff, hx_dd, hx_fcmp, hx_dcmp, hx_fu, hx_f2d, hx_d2l, hx_if, hx_icmp, hx_br, hx_sw, hx_inc, hx_get, hx_put, hx_arl, hx_ars, hx_len, hx_dup, hx_dup2, hx_pop, hx_newa, hx_newq, hx_abs, hx_min, hx_copy, hx_objI, hx_callV, hx_call, hx_k] at h)
  all_goals (repeat' (first | cases h | split at h))
/-- what a call's request keeps of its frame -/
theorem hx_step_fs {sc : Nat × (Nat → Int32)} {bu : Nat} {rt : Option FieldType} {ins : Instr} {a bb : Nat} {v : Value} {tg : List Nat} {pc : Nat} {ls : List (Option Value)} {st : List Value} {Hs : hx_HS} {u : Nat} {kc : Nat} {as : List Value} {pc1 : Nat} {ls1 : List (Option Value)} {st1 : List Value} {Hs1 : hx_HS} {u1 : Nat} (h : hx_step sc bu rt (ins, a, bb, v, tg) pc ls st Hs u = some (.inr (.inl (kc, as, (pc1, ls1, st1, Hs1, u1))))) : (pc1, ls1, st1, Hs1, u1) = (pc, ls, st1, Hs, u) := by
  have key : ∀ kk n, hx_call kk n pc ls st Hs u = some (.inr (.inl (kc, as, (pc1, ls1, st1, Hs1, u1)))) → (pc1, ls1, st1, Hs1, u1) = (pc, ls, st1, Hs, u) := by
    intro kk n hz
    obtain ⟨-, -, e, -⟩ := hx_call_yes hz
    cases e
    rfl
  cases ins
  case invokevirtual i =>
    unfold hx_step at h
    dsimp only at h
    match tg, h with
    | [ci], h => exact key _ _ (hx_callV_yes h).2
    | [], h => cases h
    | _ :: _ :: _, h => cases h
  case invokestatic i =>
    unfold hx_step at h
    dsimp only at h
    match tg, h with
    | [], h => exact key _ _ h
    | [0], h => cases h
    | [1], h => exact (hx_abs_no h).elim
    | [2], h => exact (hx_min_no h).elim
    | [3], h => exact (hx_copy_no h).elim
    | [z + 4], h => cases h
    | x :: y :: t, h => match x, h with
      | 0, h => cases h
      | 1, h => cases h
      | 2, h => cases h
      | 3, h => cases h
      | z + 4, h => cases h
  case invokespecial i =>
    unfold hx_step at h
    dsimp only at h
    match tg, h with
    | [ci], h => exact key _ _ (hx_callV_yes h).2
    | [], h => exact (hx_objI_no h).elim
    | _ :: _ :: _, h => exact (hx_objI_no h).elim
  all_goals exact (hx_step_nocall (by intro i hi; cases hi) (by intro i hi; cases hi) (by intro i hi; cases hi) h).elim
theorem hx_all : ∀ n, hx_A n
  | 0 => by
    intro sc d k pc ls st Hs u res H2 u2 h
    cases h
  | n + 1 => by
    have ih := hx_all n
    intro sc d k pc ls st Hs u res H2 u2 hrun p l e R s m args below meth c Q dC dI A b G F hRet hOut hThr
    unfold hx_run at hrun
    split at hrun
    · cases hrun
    · rename_i ce hat
      split at hrun
      · cases hrun
      · rename_i fs hstep
        obtain ⟨pc1, ls1, st1, Hs1, u1⟩ := fs
        exact hx_s_step F hat hstep (ih sc d k pc1 ls1 st1 Hs1 u1 res H2 u2 hrun p l e R s m args below meth c Q dC dI A b G F hRet hOut hThr)
      · rename_i en hstep
        split at hrun
        · rename_i hu
          obtain ⟨r9, H9, u9⟩ := en
          cases hrun
          have hck := hx_at_in hat
          have hd := hx_ck_d hck
          obtain ⟨hx, hb, hml, hown, hts, hrt, hlocks, htab, hl, hK, hA, hSt, hR, hini⟩ := id F
          obtain ⟨ins, a, bb, v, tg⟩ := ce
          dsimp only at hd
          intro H locs ad ac lc hI hL
          rcases hx_step_end hstep with ⟨w, rfl, rfl, rfl, hrk, hil⟩ | ⟨i, x, t, rfl, rfl, rfl, rfl, rfl, hcat⟩
          · rw [hil] at hd
            dsimp only
            exact hRet w rfl pc ins st H locs ad ac lc hd hrk hI hL.1
          · have hlk := hx_ck_l hck
            unfold hx_lk at hlk
            match t, hlk, hat with
            | [ic, ln], hlk, hat => exact hThr a rfl pc i x ic ln bb u v st H locs ad ac lc hat hI hL.1 hcat rfl
            | [], hlk, hat => cases hlk
            | [_], hlk, hat => cases hlk
            | _ :: _ :: _ :: _, hlk, hat => cases hlk
        · cases hrun
      · rename_i kc as pc1 ls1 st1 Hs1 u1 hstep
        match d, F, hrun with
        | 0, F, hrun => cases hrun
        | d1 + 1, F, hrun =>
          dsimp only at hrun
          split at hrun
          · rename_i hu
            have hsame : (pc1, ls1, st1, Hs1, u1) = (pc, ls, st1, Hs, u) := by
              obtain ⟨ins, a, bb, v, tg⟩ := ce
              exact hx_step_fs hstep
            cases hsame
            split at hrun
            · cases hrun
            · rename_i v1 H1 u9 hcall
              exact hx_s_call (bb := 0) ih F hat hstep hu.1 hu.2 hcall (fun v hv => by cases hv; exact hrun) (fun E hE => by cases hE) hRet hOut hThr
            · rename_i E1 H1 u9 hcall
              refine hx_s_call (bb := 0) ih F hat hstep hu.1 hu.2 hcall (fun v hv => by cases hv) (fun E hE => ?_) hRet hOut hThr
              cases hE
              split at hrun
              · rename_i hct
                cases hrun
                exact Or.inl ⟨hct, rfl, rfl, rfl⟩
              · split at hrun
                · rename_i j npc hfind
                  split at hrun
                  · rename_i hj
                    exact Or.inr ⟨j, npc, hfind, hj, hrun⟩
                  · cases hrun
                · cases hrun
          · cases hrun
end
section
/-! THE CLAIM OUT OF ONE WALK OF THE LAW'S BODY. Your part is whole_start (and what it stands on); all else here is the same for every law, but numbers. -/
def R_law : String := "ScrollPiecesLaw"
def lw_P (b : Addr) (xs : List Int32) (args : Array Value) (s : State) : Prop := args = #[.ref b] ∧ s.IntsAt b xs ∧ xs.length ≤ 2560 ∧ (Jvm.Cond.and given_1 narrow_1).before args s = true
/-- what a walk over the start with the record d0 says of its end, said of the start itself -/
theorem lw_closed {s t : State} {o : Outcome} {d0 : Drawn} {L : List Loc} {k n : Nat} (hd0 : s.drawn.sameBut d0 lw_cs) (hv : ∃ v, o = .returned v) (hW : (s.setDrawn d0).WarmedH t.vm) (hs : (s.setDrawn d0).sameButNew ({ t with vm := s.vm } : State) L k n) : State.butDraws s t lw_cs (fun t1 => Framed s o t1 L k n) := by
  have h2 : t.drawn = d0 := congrArg State.drawn hs.1
  refine ⟨⟨hv, hW, State.sameButNew.setDrawn hs s.drawn⟩, ?_, by decide⟩
  rw [h2]
  exact hd0
def lw_Q (_ : Array Value) (s : State) (o : Outcome) (t : State) : Prop := o = .returned (some (.int 1)) ∧ State.butDraws s t lw_cs (fun t1 => Framed s o t1 [] 601024 7293034)
def lw_Z (below : List Frame) (a : Array Value) (s : State) : State → Prop := fun t => ∃ o, t.status = .running ∧ Ended t below o ∧ lw_Q a s o t
/-- the law's own end, with 1 on the stack, nothing written that was there before, its room as the claim has it; d0: the record of draws at this point (at the entry s.drawn: begin with 'refine W.base ?_' and 'have hd0 := Drawn.sameBut.refl s.drawn lw_cs') -/
theorem lw_ret {p : Program} {l : Launch} {e : Env} {s : State} {m : MethodId} {below : List Frame} {meth : Method} {c : Code} {b : Nat} {d0 : Drawn} (hd0 : s.drawn.sameBut d0 lw_cs) (hx : p.tables.exec = Jvm.exec) (hb : c.code = code) (hr : meth.sig.returnType = ret) (hlocks : meth.locks = false) {pc : Nat} {H : Heap} {ls : Array Slot} (hdg : decode code pc = .ok (.ireturn, 1)) : W p l e room_1 (s.setDrawn d0) m #[Value.ref b] below meth c H [] 601024 7293034 (lw_Z below #[Value.ref b] s) (F0 m pc ls [.int 1]) := by
  intro T hT X
  obtain ⟨fs, hret, hrun, hended, hW, hframe⟩ := X.leave (v := some (.int 1)) (hlocks := hlocks) (fun h => by rw [hr] at h; cases h)
  have hmeth' : T.vm.method? m = some meth := X.method'
  refine ⟨T.setFrames fs, ?_, .returned (some (.int 1)), hrun, hended, rfl, lw_closed hd0 ⟨_, rfl⟩ hW hframe⟩
  jvm_step X.here [X.here.top, hx, hb, hdg, hmeth', hr, ret, narrow_b1]
  (try refine ⟨rfl, ?_⟩); (try refine ⟨rfl, ?_⟩)
  first | (intro acts; rw [hret _ acts rfl rfl rfl]) | rw [hret _ _ rfl rfl rfl]
  exact Steps.refl _
/-- what holds at the law's entry: the machine, the code, the tables' words (any of lw_tbl by 'hts w (by decide +kernel)'), the script of L ints xs at the cell b, what the Statement gives of the start (any of its parts by flat_of_before) -/
def lw_At (p : Program) (s : State) (m : MethodId) (meth : Method) (c : Code) (b L : Nat) (xs : Nat → Int32) : Prop :=
  p.tables.exec = Jvm.exec ∧ c.code = code ∧ meth.sig.returnType = ret ∧ c.maxLocals = 9 ∧ s.vm.findClass R_law = some m.cls ∧ (∀ w ∈ lw_tbl, w.before #[Value.ref b] s = true) ∧ va_X b L xs s s.heap ∧ b < s.heap.size ∧ meth.locks = false ∧ (Jvm.Cond.and given_1 narrow_1).before #[Value.ref b] s = true
-- ===== YOUR PART BEGINS =====
/-! ===== the law's own frame: a run of the abstract machine is the walk of the law ===== -/
theorem hx_privs_in : ∀ w ∈ tables_1, w ∈ lw_tbl := fun w h => List.mem_append_right _ h
def hx_narrow : List Jvm.Cond := flatC (Jvm.Cond.and given_1 narrow_1)
theorem hx_nar_nc : hx_ncs.all (fun q => decide (Jvm.Cond.not (.castable q.1 q.2) ∈ hx_narrow)) = true := by decide +kernel
theorem hx_nar_str : hx_strs.all (fun q => decide (Jvm.Cond.exactly (.string q.1 q.2.1) "java/lang/String" ∈ hx_narrow) && decide (Jvm.Cond.stringRef q.1 q.2.1 q.2.2 ∈ lw_tbl)) = true := by decide +kernel
theorem hx_nar_st : decide (Jvm.Cond.isRef (.static Bundle.tN "UNASSIGNED_STACK" Bundle.steD) ∈ hx_narrow) && decide (Jvm.Cond.isRef (.static Bundle.tN "SUPPRESSED_SENTINEL" Bundle.listD) ∈ hx_narrow) = true := by decide +kernel
theorem hx_tb_st : decide (Jvm.Cond.laysStatic Bundle.tN "UNASSIGNED_STACK" Bundle.steD ∈ lw_tbl) && decide (Jvm.Cond.laysStatic Bundle.tN "SUPPRESSED_SENTINEL" Bundle.listD ∈ lw_tbl) && decide (Jvm.Cond.initialized Bundle.tN ∈ lw_tbl) = true := by decide +kernel
theorem hx_tb_nest : hx_nests.all (fun q => decide (Jvm.Cond.methodLinkNest RX4 q.1 q.2 RX4 ∈ lw_tbl)) = true := by decide +kernel
theorem hx_tb_xw : hx_xw.all (fun w => decide (w ∈ lw_tbl) && w.onTables) = true := by decide +kernel
theorem hx_tb_ao : decide (Jvm.Cond.arrayOver (.object RX3) ∈ lw_tbl) = true := by decide +kernel
theorem hx_tb_in : [(0, 3), (1, 5), (2, 9), (3, 8), (4, 12), (5, 17)].all (fun q => decide (Jvm.Cond.instantiable (hx_R q.1) q.2 ∈ lw_tbl)) = true := by decide +kernel
set_option maxHeartbeats 4000000 in
set_option maxRecDepth 100000 in
theorem hx_start {p : Program} {e : Env} {s : State} {m : MethodId} {below : List Frame} {meth : Method} {c : Code} (l : Launch) (hflags : l.flags = flags0) {b L : Nat} {xs : Nat → Int32} (C0 : lw_At p s m meth c b L xs)
    {n : Nat} {H2 : hx_HS} {u2 : Nat} (hrun : hx_run (L, xs) n 100 202 (0, hx_entry [.retAddr 0] 9, [], ([], fun _ _ => 0, fun _ _ => 0), 0) = some (.inl (some (.int 1)), H2, u2)) : W p l e room_1 s m #[Value.ref b] below meth c s.heap [] 0 0 (lw_Z below #[Value.ref b] s) (entryFrame m ([Value.ref b] : List Value).toArray 9) := by
  obtain ⟨hx, hb, hr, hml, hown, hts0, hX, hbl, hlocks, hgv⟩ := id C0
  have hts : ∀ w ∈ lw_tbl, w.before #[Value.ref b] (s.setDrawn s.drawn) = true := dr_words hts0 _
  have hd0 := Drawn.sameBut.refl s.drawn lw_cs
  have hg : ∀ w ∈ hx_narrow, w.before #[Value.ref b] (s.setDrawn s.drawn) = true := dr_words (flat_of_before _ hgv) _
  have hA : ∀ q : Nat, (s.setDrawn s.drawn).heap.size ≤ q → (fun q : Nat => s.heap.size ≤ q) q := fun _ h => h
  have nA : ∀ a : Nat, a < s.heap.size → ¬ (fun q : Nat => s.heap.size ≤ q) a := fun a h => Nat.not_le.mpr h
  have inst : ∀ ci N, (ci, N) ∈ [(0, 3), (1, 5), (2, 9), (3, 8), (4, 12), (5, 17)] → (Jvm.Cond.instantiable (hx_R ci) N).before #[Value.ref b] (s.setDrawn s.drawn) = true := fun ci N hm => hts _ (of_decide_eq_true (List.all_eq_true.mp hx_tb_in _ hm))
  have wsin : ∀ ci (C : String) (T : u_T) (N : Nat), ci < 6 → hx_nth vwCl ci = some (C, T, N) → ∀ w ∈ u_ws C T N, w ∈ lw_tbl := fun ci C T N hci hC w hw => hx_LW_lw w ((hx_cls hci hC).2.1 w hw)
  obtain ⟨c0, i0, hk0⟩ := u_known (C := RX0) (T := TX0) (N := 3) (n := 3) hts (wsin 0 _ _ _ (by decide) rfl) (inst 0 3 (by decide))
  obtain ⟨c1, i1, hk1⟩ := u_known (C := RX1) (T := TX1) (N := 5) (n := 5) hts (wsin 1 _ _ _ (by decide) rfl) (inst 1 5 (by decide))
  obtain ⟨c2, i2, hk2⟩ := u_known (C := RX2) (T := TX2) (N := 9) (n := 9) hts (wsin 2 _ _ _ (by decide) rfl) (inst 2 9 (by decide))
  obtain ⟨c3, i3, hk3⟩ := u_known (C := RX3) (T := TX3) (N := 8) (n := 8) hts (wsin 3 _ _ _ (by decide) rfl) (inst 3 8 (by decide))
  obtain ⟨c4, i4, hk4⟩ := u_known (C := RX4) (T := TX4) (N := 12) (n := 12) hts (wsin 4 _ _ _ (by decide) rfl) (inst 4 12 (by decide))
  obtain ⟨c5, i5, hk5⟩ := u_known (C := RX5) (T := TX5) (N := 17) (n := 17) hts (wsin 5 _ _ _ (by decide) rfl) (inst 5 17 (by decide))
  obtain ⟨dC, dI, hKc⟩ : ∃ (dC : Nat → ClassId) (dI : Nat → Nat → Nat), ∀ (k : Nat) (q : vw_C), vwCl[k]? = some q → u_Kn (s.setDrawn s.drawn) q.1 q.2.1 q.2.2 (dC k) (dI k) := by
    refine ⟨fun k => match k with
      | 0 => c0
      | 1 => c1
      | 2 => c2
      | 3 => c3
      | 4 => c4
      | _ => c5, fun k => match k with
      | 0 => i0
      | 1 => i1
      | 2 => i2
      | 3 => i3
      | 4 => i4
      | _ => i5, ?_⟩
    intro k q hq
    match k, hq with
    | 0, hq => cases hq; exact hk0
    | 1, hq => cases hq; exact hk1
    | 2, hq => cases hq; exact hk2
    | 3, hq => cases hq; exact hk3
    | 4, hq => cases hq; exact hk4
    | 5, hq => cases hq; exact hk5
    | k + 6, hq => simp [vwCl] at hq
  have hK : va_K (dC, dI) vwCl [] (s.setDrawn s.drawn) := ⟨hKc, fun k q h => by simp at h⟩
  have tst := hx_tb_st
  have nst := hx_nar_st
  simp only [Bool.and_eq_true, decide_eq_true_eq] at tst nst
  have hSt : hx_St (L, xs) b (fun q : Nat => s.heap.size ≤ q) (s.setDrawn s.drawn) (s.setDrawn s.drawn).heap := by
    refine ⟨hX, hbl, nA b hbl, vx_Zqof (hts _ tst.1.1) (hts _ tst.2) (hg _ nst.1) nA, vx_Zqof (hts _ tst.1.2) (hts _ tst.2) (hg _ nst.2) nA, fun q hq => ?_, va_AO.of (hts _ (of_decide_eq_true hx_tb_ao)), fun q hq => ?_, fun q hq => ?_, fun w hw => ?_⟩
    · have h := List.all_eq_true.mp hx_nar_str q hq
      simp only [Bool.and_eq_true, decide_eq_true_eq] at h
      obtain ⟨a, ha⟩ : ∃ a, (Term.string q.1 q.2.1).eval #[Value.ref b] (s.setDrawn s.drawn) none [] (s.setDrawn s.drawn) = some (.ref a) := by
        obtain ⟨a, c9, cell, k9, h1, -⟩ := Cond.exactly_spec (hg _ h.1)
        exact ⟨a, h1⟩
      exact ⟨a, vk_R.of (hts _ h.2) ha⟩
    · exact va_Nw.of rfl (hts _ (of_decide_eq_true (List.all_eq_true.mp hx_tb_nest q hq)))
    · exact va_Nc.of (hg _ (of_decide_eq_true (List.all_eq_true.mp hx_nar_nc q hq)))
    · have h := List.all_eq_true.mp hx_tb_xw w hw
      simp only [Bool.and_eq_true, decide_eq_true_eq] at h
      exact va_Nw.of h.2 (hts _ h.1)
  have hl : l.stackTraces = false := by
    unfold Launch.stackTraces
    rw [hflags]
    decide
  have hle := hx_run_le _ _ _ _ _ _ _ hrun
  have hF : hx_F p l room_1 (s.setDrawn s.drawn) m #[Value.ref b] meth c dC dI (fun q : Nat => s.heap.size ≤ q) b (L, xs) 100 202 := by
    refine ⟨hx, hb, hml, hown, fun w hw => hts w (hx_LW_lw w hw), hr, hlocks, fun z => (z rfl).elim, hl, hK, hA, hSt, ⟨Nat.le_of_ble_eq_true rfl, Nat.le_of_ble_eq_true rfl, Nat.le_of_ble_eq_true rfl, Nat.le_of_ble_eq_true rfl⟩, fun z => absurd z (by decide)⟩
  refine W.base ?_
  rw [lg_entry_eq]
  refine hx_all n (L, xs) 100 202 0 _ [] _ 0 _ H2 u2 hrun p l e room_1 (s.setDrawn s.drawn) m #[Value.ref b] below meth c _ dC dI (fun q : Nat => s.heap.size ≤ q) b (0, fun _ => 0) hF ?_ ?_ ?_ s.heap [] (fun _ => 0) (fun _ => dC 0) _ ⟨fun k q h => by simp [hx_ws] at h, ⟨fun i j p q h => by simp [hx_ws] at h, fun k q h => by simp [hx_ws] at h⟩, va_S.rf, fun k o h => (by cases h), Nat.zero_le _, fun z hz => absurd hz (Nat.not_lt_zero z)⟩ (hx_L_entry (fun _ => 0) b [.retAddr 0] (by decide))
  · intro v hv pc0 i st0 H locs ad ac lc hd hrk hI hsize
    cases hv
    rcases hrk with ⟨x, rfl, rfl, hx1, hrt⟩ | ⟨x, -, -, hx1, -⟩ | ⟨x, -, -, hx1, -⟩ | ⟨x, -, -, hx1, -⟩ | ⟨-, -, hx1, -⟩ | ⟨x, _, -, -, hx1, -⟩
    · cases hx1
      refine va_forget (fun q hq => hI.2.2.1.2.2 q hq) ?_
      refine W.widen (k := 601024) (n := 7293034) (Nat.le_trans hle (Nat.le_of_ble_eq_true rfl)) (Nat.le_trans (Nat.mul_le_mul_left _ hle) (Nat.le_of_ble_eq_true rfl)) ?_
      exact lw_ret hd0 hx hb hr hlocks hd
    · cases hx1
    · cases hx1
    · cases hx1
    · cases hx1
    · cases hx1
  · intro E hE
    cases hE
  · intro E hE
    cases hE
end
