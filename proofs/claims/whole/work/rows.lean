section
-- ===== PART A: goes FIRST, ahead of the names: the tables' words, and 'selects' of the private methods out of them =====
/-- a private method of a class that the tables say can be made, by its rows of tables_1 -/
def lw_okq (q : MethodName × Nat) : Prop := (q.1.cls ≠ "java/lang/invoke/MethodHandle" ∧ q.1.cls ≠ "java/lang/invoke/VarHandle") ∧ Cond.instantiable q.1.cls q.2 ∈ tables_1 ∧ Cond.privateMethod q.1 ∈ tables_1 ∧ Cond.instanceMethod q.1 ∈ tables_1
theorem lw_p0 : lw_okq (⟨"SiteTriangles", "siteAt", "(II)I"⟩, 12) := ⟨⟨by decide +kernel, by decide +kernel⟩, List.mem_of_getElem? (i := 6) (by decide +kernel), List.mem_of_getElem? (i := 59) (by decide +kernel), List.mem_of_getElem? (i := 60) (by decide +kernel)⟩
theorem lw_p1 : lw_okq (⟨"SiteTriangles", "rebuild", "()V"⟩, 12) := ⟨⟨by decide +kernel, by decide +kernel⟩, List.mem_of_getElem? (i := 6) (by decide +kernel), List.mem_of_getElem? (i := 63) (by decide +kernel), List.mem_of_getElem? (i := 64) (by decide +kernel)⟩
theorem lw_p2 : lw_okq (⟨"SiteTriangles", "findTriangles", "()V"⟩, 12) := ⟨⟨by decide +kernel, by decide +kernel⟩, List.mem_of_getElem? (i := 6) (by decide +kernel), List.mem_of_getElem? (i := 67) (by decide +kernel), List.mem_of_getElem? (i := 68) (by decide +kernel)⟩
theorem lw_p3 : lw_okq (⟨"SiteTriangles", "isDueTriangle", "(III)Z"⟩, 12) := ⟨⟨by decide +kernel, by decide +kernel⟩, List.mem_of_getElem? (i := 6) (by decide +kernel), List.mem_of_getElem? (i := 71) (by decide +kernel), List.mem_of_getElem? (i := 72) (by decide +kernel)⟩
theorem lw_p4 : lw_okq (⟨"SiteTriangles", "turn", "(III)J"⟩, 12) := ⟨⟨by decide +kernel, by decide +kernel⟩, List.mem_of_getElem? (i := 6) (by decide +kernel), List.mem_of_getElem? (i := 75) (by decide +kernel), List.mem_of_getElem? (i := 76) (by decide +kernel)⟩
theorem lw_p5 : lw_okq (⟨"SiteTriangles", "xOf", "(I)J"⟩, 12) := ⟨⟨by decide +kernel, by decide +kernel⟩, List.mem_of_getElem? (i := 6) (by decide +kernel), List.mem_of_getElem? (i := 79) (by decide +kernel), List.mem_of_getElem? (i := 80) (by decide +kernel)⟩
theorem lw_p6 : lw_okq (⟨"SiteTriangles", "yOf", "(I)J"⟩, 12) := ⟨⟨by decide +kernel, by decide +kernel⟩, List.mem_of_getElem? (i := 6) (by decide +kernel), List.mem_of_getElem? (i := 83) (by decide +kernel), List.mem_of_getElem? (i := 84) (by decide +kernel)⟩
theorem lw_p7 : lw_okq (⟨"SiteTriangles", "circleSide", "(IIII)I"⟩, 12) := ⟨⟨by decide +kernel, by decide +kernel⟩, List.mem_of_getElem? (i := 6) (by decide +kernel), List.mem_of_getElem? (i := 87) (by decide +kernel), List.mem_of_getElem? (i := 88) (by decide +kernel)⟩
theorem lw_p8 : lw_okq (⟨"SiteTriangles", "gap", "(II)J"⟩, 12) := ⟨⟨by decide +kernel, by decide +kernel⟩, List.mem_of_getElem? (i := 6) (by decide +kernel), List.mem_of_getElem? (i := 91) (by decide +kernel), List.mem_of_getElem? (i := 92) (by decide +kernel)⟩
theorem lw_p9 : lw_okq (⟨"SiteTriangles", "keepTriangle", "(III)V"⟩, 12) := ⟨⟨by decide +kernel, by decide +kernel⟩, List.mem_of_getElem? (i := 6) (by decide +kernel), List.mem_of_getElem? (i := 96) (by decide +kernel), List.mem_of_getElem? (i := 97) (by decide +kernel)⟩
theorem lw_p10 : lw_okq (⟨"SiteTriangles", "findEdges", "()V"⟩, 12) := ⟨⟨by decide +kernel, by decide +kernel⟩, List.mem_of_getElem? (i := 6) (by decide +kernel), List.mem_of_getElem? (i := 100) (by decide +kernel), List.mem_of_getElem? (i := 101) (by decide +kernel)⟩
theorem lw_p11 : lw_okq (⟨"SiteTriangles", "triangleCorner", "(II)I"⟩, 12) := ⟨⟨by decide +kernel, by decide +kernel⟩, List.mem_of_getElem? (i := 6) (by decide +kernel), List.mem_of_getElem? (i := 104) (by decide +kernel), List.mem_of_getElem? (i := 105) (by decide +kernel)⟩
theorem lw_p12 : lw_okq (⟨"SiteTriangles", "isTriangle", "(I)Z"⟩, 12) := ⟨⟨by decide +kernel, by decide +kernel⟩, List.mem_of_getElem? (i := 6) (by decide +kernel), List.mem_of_getElem? (i := 108) (by decide +kernel), List.mem_of_getElem? (i := 109) (by decide +kernel)⟩
theorem lw_p13 : lw_okq (⟨"SiteTriangles", "join", "(II)V"⟩, 12) := ⟨⟨by decide +kernel, by decide +kernel⟩, List.mem_of_getElem? (i := 6) (by decide +kernel), List.mem_of_getElem? (i := 112) (by decide +kernel), List.mem_of_getElem? (i := 113) (by decide +kernel)⟩
theorem lw_p14 : lw_okq (⟨"SiteTriangles", "isSite", "(I)Z"⟩, 12) := ⟨⟨by decide +kernel, by decide +kernel⟩, List.mem_of_getElem? (i := 6) (by decide +kernel), List.mem_of_getElem? (i := 116) (by decide +kernel), List.mem_of_getElem? (i := 117) (by decide +kernel)⟩
theorem lw_p15 : lw_okq (⟨"SiteTriangles", "joinAlongLine", "()V"⟩, 12) := ⟨⟨by decide +kernel, by decide +kernel⟩, List.mem_of_getElem? (i := 6) (by decide +kernel), List.mem_of_getElem? (i := 120) (by decide +kernel), List.mem_of_getElem? (i := 121) (by decide +kernel)⟩
def lw_privs_1 : List (MethodName × Nat) := [(⟨"SiteTriangles", "siteAt", "(II)I"⟩, 12), (⟨"SiteTriangles", "rebuild", "()V"⟩, 12), (⟨"SiteTriangles", "findTriangles", "()V"⟩, 12), (⟨"SiteTriangles", "isDueTriangle", "(III)Z"⟩, 12), (⟨"SiteTriangles", "turn", "(III)J"⟩, 12), (⟨"SiteTriangles", "xOf", "(I)J"⟩, 12), (⟨"SiteTriangles", "yOf", "(I)J"⟩, 12), (⟨"SiteTriangles", "circleSide", "(IIII)I"⟩, 12), (⟨"SiteTriangles", "gap", "(II)J"⟩, 12), (⟨"SiteTriangles", "keepTriangle", "(III)V"⟩, 12), (⟨"SiteTriangles", "findEdges", "()V"⟩, 12), (⟨"SiteTriangles", "triangleCorner", "(II)I"⟩, 12), (⟨"SiteTriangles", "isTriangle", "(I)Z"⟩, 12), (⟨"SiteTriangles", "join", "(II)V"⟩, 12), (⟨"SiteTriangles", "isSite", "(I)Z"⟩, 12), (⟨"SiteTriangles", "joinAlongLine", "()V"⟩, 12)]
theorem lw_r1 : ∀ q ∈ lw_privs_1, lw_okq q := List.forall_mem_cons.mpr ⟨lw_p0, List.forall_mem_cons.mpr ⟨lw_p1, List.forall_mem_cons.mpr ⟨lw_p2, List.forall_mem_cons.mpr ⟨lw_p3, List.forall_mem_cons.mpr ⟨lw_p4, List.forall_mem_cons.mpr ⟨lw_p5, List.forall_mem_cons.mpr ⟨lw_p6, List.forall_mem_cons.mpr ⟨lw_p7, List.forall_mem_cons.mpr ⟨lw_p8, List.forall_mem_cons.mpr ⟨lw_p9, List.forall_mem_cons.mpr ⟨lw_p10, List.forall_mem_cons.mpr ⟨lw_p11, List.forall_mem_cons.mpr ⟨lw_p12, List.forall_mem_cons.mpr ⟨lw_p13, List.forall_mem_cons.mpr ⟨lw_p14, List.forall_mem_cons.mpr ⟨lw_p15, fun _ h => absurd h List.not_mem_nil⟩⟩⟩⟩⟩⟩⟩⟩⟩⟩⟩⟩⟩⟩⟩⟩
theorem lw_p16 : lw_okq (⟨"SiteTriangles", "isWayFree", "(II)Z"⟩, 12) := ⟨⟨by decide +kernel, by decide +kernel⟩, List.mem_of_getElem? (i := 6) (by decide +kernel), List.mem_of_getElem? (i := 124) (by decide +kernel), List.mem_of_getElem? (i := 125) (by decide +kernel)⟩
theorem lw_p17 : lw_okq (⟨"SiteTriangles", "dot", "(III)J"⟩, 12) := ⟨⟨by decide +kernel, by decide +kernel⟩, List.mem_of_getElem? (i := 6) (by decide +kernel), List.mem_of_getElem? (i := 128) (by decide +kernel), List.mem_of_getElem? (i := 129) (by decide +kernel)⟩
theorem lw_p18 : lw_okq (⟨"SiteTriangles", "leastCorner", "()I"⟩, 12) := ⟨⟨by decide +kernel, by decide +kernel⟩, List.mem_of_getElem? (i := 6) (by decide +kernel), List.mem_of_getElem? (i := 132) (by decide +kernel), List.mem_of_getElem? (i := 133) (by decide +kernel)⟩
theorem lw_p19 : lw_okq (⟨"SiteTriangles", "nextCorner", "(I)I"⟩, 12) := ⟨⟨by decide +kernel, by decide +kernel⟩, List.mem_of_getElem? (i := 6) (by decide +kernel), List.mem_of_getElem? (i := 136) (by decide +kernel), List.mem_of_getElem? (i := 137) (by decide +kernel)⟩
theorem lw_p20 : lw_okq (⟨"SiteTriangles", "isRingSide", "(II)Z"⟩, 12) := ⟨⟨by decide +kernel, by decide +kernel⟩, List.mem_of_getElem? (i := 6) (by decide +kernel), List.mem_of_getElem? (i := 140) (by decide +kernel), List.mem_of_getElem? (i := 141) (by decide +kernel)⟩
theorem lw_p21 : lw_okq (⟨"SiteTriangles", "findRing", "(I)V"⟩, 12) := ⟨⟨by decide +kernel, by decide +kernel⟩, List.mem_of_getElem? (i := 6) (by decide +kernel), List.mem_of_getElem? (i := 144) (by decide +kernel), List.mem_of_getElem? (i := 145) (by decide +kernel)⟩
theorem lw_p22 : lw_okq (⟨"SiteTriangles", "growTree", "()V"⟩, 12) := ⟨⟨by decide +kernel, by decide +kernel⟩, List.mem_of_getElem? (i := 6) (by decide +kernel), List.mem_of_getElem? (i := 148) (by decide +kernel), List.mem_of_getElem? (i := 149) (by decide +kernel)⟩
theorem lw_p23 : lw_okq (⟨"SiteTriangles", "takeNextEdge", "()V"⟩, 12) := ⟨⟨by decide +kernel, by decide +kernel⟩, List.mem_of_getElem? (i := 6) (by decide +kernel), List.mem_of_getElem? (i := 152) (by decide +kernel), List.mem_of_getElem? (i := 153) (by decide +kernel)⟩
theorem lw_p24 : lw_okq (⟨"SiteTriangles", "hasEdge", "(II)Z"⟩, 12) := ⟨⟨by decide +kernel, by decide +kernel⟩, List.mem_of_getElem? (i := 6) (by decide +kernel), List.mem_of_getElem? (i := 156) (by decide +kernel), List.mem_of_getElem? (i := 157) (by decide +kernel)⟩
theorem lw_p25 : lw_okq (⟨"SiteTriangles", "takeEdge", "(II)V"⟩, 12) := ⟨⟨by decide +kernel, by decide +kernel⟩, List.mem_of_getElem? (i := 6) (by decide +kernel), List.mem_of_getElem? (i := 160) (by decide +kernel), List.mem_of_getElem? (i := 161) (by decide +kernel)⟩
theorem lw_p26 : lw_okq (⟨"SiteTriangles", "hasCorner", "(II)Z"⟩, 12) := ⟨⟨by decide +kernel, by decide +kernel⟩, List.mem_of_getElem? (i := 6) (by decide +kernel), List.mem_of_getElem? (i := 180) (by decide +kernel), List.mem_of_getElem? (i := 181) (by decide +kernel)⟩
theorem lw_p27 : lw_okq (⟨"SiteTriangles", "gapToPoint", "(IDD)D"⟩, 12) := ⟨⟨by decide +kernel, by decide +kernel⟩, List.mem_of_getElem? (i := 6) (by decide +kernel), List.mem_of_getElem? (i := 226) (by decide +kernel), List.mem_of_getElem? (i := 227) (by decide +kernel)⟩
theorem lw_p28 : lw_okq (⟨"SiteTriangles", "holds", "(IDD)Z"⟩, 12) := ⟨⟨by decide +kernel, by decide +kernel⟩, List.mem_of_getElem? (i := 6) (by decide +kernel), List.mem_of_getElem? (i := 234) (by decide +kernel), List.mem_of_getElem? (i := 235) (by decide +kernel)⟩
theorem lw_p29 : lw_okq (⟨"SiteTriangles", "turnToPoint", "(IIDD)D"⟩, 12) := ⟨⟨by decide +kernel, by decide +kernel⟩, List.mem_of_getElem? (i := 6) (by decide +kernel), List.mem_of_getElem? (i := 238) (by decide +kernel), List.mem_of_getElem? (i := 239) (by decide +kernel)⟩
theorem lw_p30 : lw_okq (⟨"SiteTriangles", "noneTurnsRight", "(II)Z"⟩, 12) := ⟨⟨by decide +kernel, by decide +kernel⟩, List.mem_of_getElem? (i := 6) (by decide +kernel), List.mem_of_getElem? (i := 260) (by decide +kernel), List.mem_of_getElem? (i := 261) (by decide +kernel)⟩
theorem lw_p31 : lw_okq (⟨"SiteTrianglesModel", "makeTriangles", "()V"⟩, 14) := ⟨⟨by decide +kernel, by decide +kernel⟩, List.mem_of_getElem? (i := 264) (by decide +kernel), List.mem_of_getElem? (i := 318) (by decide +kernel), List.mem_of_getElem? (i := 319) (by decide +kernel)⟩
def lw_privs_2 : List (MethodName × Nat) := [(⟨"SiteTriangles", "isWayFree", "(II)Z"⟩, 12), (⟨"SiteTriangles", "dot", "(III)J"⟩, 12), (⟨"SiteTriangles", "leastCorner", "()I"⟩, 12), (⟨"SiteTriangles", "nextCorner", "(I)I"⟩, 12), (⟨"SiteTriangles", "isRingSide", "(II)Z"⟩, 12), (⟨"SiteTriangles", "findRing", "(I)V"⟩, 12), (⟨"SiteTriangles", "growTree", "()V"⟩, 12), (⟨"SiteTriangles", "takeNextEdge", "()V"⟩, 12), (⟨"SiteTriangles", "hasEdge", "(II)Z"⟩, 12), (⟨"SiteTriangles", "takeEdge", "(II)V"⟩, 12), (⟨"SiteTriangles", "hasCorner", "(II)Z"⟩, 12), (⟨"SiteTriangles", "gapToPoint", "(IDD)D"⟩, 12), (⟨"SiteTriangles", "holds", "(IDD)Z"⟩, 12), (⟨"SiteTriangles", "turnToPoint", "(IIDD)D"⟩, 12), (⟨"SiteTriangles", "noneTurnsRight", "(II)Z"⟩, 12), (⟨"SiteTrianglesModel", "makeTriangles", "()V"⟩, 14)]
theorem lw_r2 : ∀ q ∈ lw_privs_2, lw_okq q := List.forall_mem_cons.mpr ⟨lw_p16, List.forall_mem_cons.mpr ⟨lw_p17, List.forall_mem_cons.mpr ⟨lw_p18, List.forall_mem_cons.mpr ⟨lw_p19, List.forall_mem_cons.mpr ⟨lw_p20, List.forall_mem_cons.mpr ⟨lw_p21, List.forall_mem_cons.mpr ⟨lw_p22, List.forall_mem_cons.mpr ⟨lw_p23, List.forall_mem_cons.mpr ⟨lw_p24, List.forall_mem_cons.mpr ⟨lw_p25, List.forall_mem_cons.mpr ⟨lw_p26, List.forall_mem_cons.mpr ⟨lw_p27, List.forall_mem_cons.mpr ⟨lw_p28, List.forall_mem_cons.mpr ⟨lw_p29, List.forall_mem_cons.mpr ⟨lw_p30, List.forall_mem_cons.mpr ⟨lw_p31, fun _ h => absurd h List.not_mem_nil⟩⟩⟩⟩⟩⟩⟩⟩⟩⟩⟩⟩⟩⟩⟩⟩
theorem lw_p32 : lw_okq (⟨"SiteTrianglesModel", "good", "(III)Z"⟩, 14) := ⟨⟨by decide +kernel, by decide +kernel⟩, List.mem_of_getElem? (i := 264) (by decide +kernel), List.mem_of_getElem? (i := 322) (by decide +kernel), List.mem_of_getElem? (i := 323) (by decide +kernel)⟩
theorem lw_p33 : lw_okq (⟨"SiteTrianglesModel", "turn", "(III)I"⟩, 14) := ⟨⟨by decide +kernel, by decide +kernel⟩, List.mem_of_getElem? (i := 264) (by decide +kernel), List.mem_of_getElem? (i := 326) (by decide +kernel), List.mem_of_getElem? (i := 327) (by decide +kernel)⟩
theorem lw_p34 : lw_okq (⟨"SiteTrianglesModel", "sign", "(J)I"⟩, 14) := ⟨⟨by decide +kernel, by decide +kernel⟩, List.mem_of_getElem? (i := 264) (by decide +kernel), List.mem_of_getElem? (i := 330) (by decide +kernel), List.mem_of_getElem? (i := 331) (by decide +kernel)⟩
theorem lw_p35 : lw_okq (⟨"SiteTrianglesModel", "inside", "(IIII)I"⟩, 14) := ⟨⟨by decide +kernel, by decide +kernel⟩, List.mem_of_getElem? (i := 264) (by decide +kernel), List.mem_of_getElem? (i := 334) (by decide +kernel), List.mem_of_getElem? (i := 335) (by decide +kernel)⟩
theorem lw_p36 : lw_okq (⟨"SiteTrianglesModel", "apart", "(II)J"⟩, 14) := ⟨⟨by decide +kernel, by decide +kernel⟩, List.mem_of_getElem? (i := 264) (by decide +kernel), List.mem_of_getElem? (i := 338) (by decide +kernel), List.mem_of_getElem? (i := 339) (by decide +kernel)⟩
theorem lw_p37 : lw_okq (⟨"SiteTrianglesModel", "span", "(III)J"⟩, 14) := ⟨⟨by decide +kernel, by decide +kernel⟩, List.mem_of_getElem? (i := 264) (by decide +kernel), List.mem_of_getElem? (i := 342) (by decide +kernel), List.mem_of_getElem? (i := 343) (by decide +kernel)⟩
theorem lw_p38 : lw_okq (⟨"SiteTrianglesModel", "makeCorners", "()V"⟩, 14) := ⟨⟨by decide +kernel, by decide +kernel⟩, List.mem_of_getElem? (i := 264) (by decide +kernel), List.mem_of_getElem? (i := 347) (by decide +kernel), List.mem_of_getElem? (i := 348) (by decide +kernel)⟩
theorem lw_p39 : lw_okq (⟨"SiteTrianglesModel", "isCorner", "(I)Z"⟩, 14) := ⟨⟨by decide +kernel, by decide +kernel⟩, List.mem_of_getElem? (i := 264) (by decide +kernel), List.mem_of_getElem? (i := 351) (by decide +kernel), List.mem_of_getElem? (i := 352) (by decide +kernel)⟩
theorem lw_p40 : lw_okq (⟨"SiteTrianglesModel", "between", "(III)Z"⟩, 14) := ⟨⟨by decide +kernel, by decide +kernel⟩, List.mem_of_getElem? (i := 264) (by decide +kernel), List.mem_of_getElem? (i := 355) (by decide +kernel), List.mem_of_getElem? (i := 356) (by decide +kernel)⟩
theorem lw_p41 : lw_okq (⟨"SiteTrianglesModel", "within", "(IIII)Z"⟩, 14) := ⟨⟨by decide +kernel, by decide +kernel⟩, List.mem_of_getElem? (i := 264) (by decide +kernel), List.mem_of_getElem? (i := 359) (by decide +kernel), List.mem_of_getElem? (i := 360) (by decide +kernel)⟩
theorem lw_p42 : lw_okq (⟨"SiteTrianglesModel", "following", "(I)I"⟩, 14) := ⟨⟨by decide +kernel, by decide +kernel⟩, List.mem_of_getElem? (i := 264) (by decide +kernel), List.mem_of_getElem? (i := 363) (by decide +kernel), List.mem_of_getElem? (i := 364) (by decide +kernel)⟩
theorem lw_p43 : lw_okq (⟨"SiteTrianglesModel", "makeTree", "()V"⟩, 14) := ⟨⟨by decide +kernel, by decide +kernel⟩, List.mem_of_getElem? (i := 264) (by decide +kernel), List.mem_of_getElem? (i := 367) (by decide +kernel), List.mem_of_getElem? (i := 368) (by decide +kernel)⟩
theorem lw_p44 : lw_okq (⟨"SiteTrianglesModel", "before", "(IIII)Z"⟩, 14) := ⟨⟨by decide +kernel, by decide +kernel⟩, List.mem_of_getElem? (i := 264) (by decide +kernel), List.mem_of_getElem? (i := 371) (by decide +kernel), List.mem_of_getElem? (i := 372) (by decide +kernel)⟩
theorem lw_p45 : lw_okq (⟨"SiteTrianglesModel", "edge", "(II)Z"⟩, 14) := ⟨⟨by decide +kernel, by decide +kernel⟩, List.mem_of_getElem? (i := 264) (by decide +kernel), List.mem_of_getElem? (i := 375) (by decide +kernel), List.mem_of_getElem? (i := 376) (by decide +kernel)⟩
theorem lw_p46 : lw_okq (⟨"SiteTrianglesModel", "isOf", "(II)Z"⟩, 14) := ⟨⟨by decide +kernel, by decide +kernel⟩, List.mem_of_getElem? (i := 264) (by decide +kernel), List.mem_of_getElem? (i := 379) (by decide +kernel), List.mem_of_getElem? (i := 380) (by decide +kernel)⟩
theorem lw_p47 : lw_okq (⟨"SiteTrianglesModel", "none", "(I)Z"⟩, 14) := ⟨⟨by decide +kernel, by decide +kernel⟩, List.mem_of_getElem? (i := 264) (by decide +kernel), List.mem_of_getElem? (i := 395) (by decide +kernel), List.mem_of_getElem? (i := 396) (by decide +kernel)⟩
def lw_privs_3 : List (MethodName × Nat) := [(⟨"SiteTrianglesModel", "good", "(III)Z"⟩, 14), (⟨"SiteTrianglesModel", "turn", "(III)I"⟩, 14), (⟨"SiteTrianglesModel", "sign", "(J)I"⟩, 14), (⟨"SiteTrianglesModel", "inside", "(IIII)I"⟩, 14), (⟨"SiteTrianglesModel", "apart", "(II)J"⟩, 14), (⟨"SiteTrianglesModel", "span", "(III)J"⟩, 14), (⟨"SiteTrianglesModel", "makeCorners", "()V"⟩, 14), (⟨"SiteTrianglesModel", "isCorner", "(I)Z"⟩, 14), (⟨"SiteTrianglesModel", "between", "(III)Z"⟩, 14), (⟨"SiteTrianglesModel", "within", "(IIII)Z"⟩, 14), (⟨"SiteTrianglesModel", "following", "(I)I"⟩, 14), (⟨"SiteTrianglesModel", "makeTree", "()V"⟩, 14), (⟨"SiteTrianglesModel", "before", "(IIII)Z"⟩, 14), (⟨"SiteTrianglesModel", "edge", "(II)Z"⟩, 14), (⟨"SiteTrianglesModel", "isOf", "(II)Z"⟩, 14), (⟨"SiteTrianglesModel", "none", "(I)Z"⟩, 14)]
theorem lw_r3 : ∀ q ∈ lw_privs_3, lw_okq q := List.forall_mem_cons.mpr ⟨lw_p32, List.forall_mem_cons.mpr ⟨lw_p33, List.forall_mem_cons.mpr ⟨lw_p34, List.forall_mem_cons.mpr ⟨lw_p35, List.forall_mem_cons.mpr ⟨lw_p36, List.forall_mem_cons.mpr ⟨lw_p37, List.forall_mem_cons.mpr ⟨lw_p38, List.forall_mem_cons.mpr ⟨lw_p39, List.forall_mem_cons.mpr ⟨lw_p40, List.forall_mem_cons.mpr ⟨lw_p41, List.forall_mem_cons.mpr ⟨lw_p42, List.forall_mem_cons.mpr ⟨lw_p43, List.forall_mem_cons.mpr ⟨lw_p44, List.forall_mem_cons.mpr ⟨lw_p45, List.forall_mem_cons.mpr ⟨lw_p46, List.forall_mem_cons.mpr ⟨lw_p47, fun _ h => absurd h List.not_mem_nil⟩⟩⟩⟩⟩⟩⟩⟩⟩⟩⟩⟩⟩⟩⟩⟩
theorem lw_p48 : lw_okq (⟨"SiteTrianglesModel", "divisor", "(JJ)J"⟩, 14) := ⟨⟨by decide +kernel, by decide +kernel⟩, List.mem_of_getElem? (i := 264) (by decide +kernel), List.mem_of_getElem? (i := 408) (by decide +kernel), List.mem_of_getElem? (i := 409) (by decide +kernel)⟩
theorem lw_p49 : lw_okq (⟨"SiteTrianglesModel", "noSite", "(I)Z"⟩, 14) := ⟨⟨by decide +kernel, by decide +kernel⟩, List.mem_of_getElem? (i := 264) (by decide +kernel), List.mem_of_getElem? (i := 416) (by decide +kernel), List.mem_of_getElem? (i := 417) (by decide +kernel)⟩
theorem lw_p50 : lw_okq (⟨"SiteTrianglesModel", "refused", "(DD)Z"⟩, 14) := ⟨⟨by decide +kernel, by decide +kernel⟩, List.mem_of_getElem? (i := 264) (by decide +kernel), List.mem_of_getElem? (i := 436) (by decide +kernel), List.mem_of_getElem? (i := 437) (by decide +kernel)⟩
theorem lw_p51 : lw_okq (⟨"SiteTrianglesModel", "far", "(IJJ)J"⟩, 14) := ⟨⟨by decide +kernel, by decide +kernel⟩, List.mem_of_getElem? (i := 264) (by decide +kernel), List.mem_of_getElem? (i := 443) (by decide +kernel), List.mem_of_getElem? (i := 444) (by decide +kernel)⟩
theorem lw_p52 : lw_okq (⟨"SiteTrianglesModel", "side", "(IIJJ)I"⟩, 14) := ⟨⟨by decide +kernel, by decide +kernel⟩, List.mem_of_getElem? (i := 264) (by decide +kernel), List.mem_of_getElem? (i := 452) (by decide +kernel), List.mem_of_getElem? (i := 453) (by decide +kernel)⟩
def lw_privs_4 : List (MethodName × Nat) := [(⟨"SiteTrianglesModel", "divisor", "(JJ)J"⟩, 14), (⟨"SiteTrianglesModel", "noSite", "(I)Z"⟩, 14), (⟨"SiteTrianglesModel", "refused", "(DD)Z"⟩, 14), (⟨"SiteTrianglesModel", "far", "(IJJ)J"⟩, 14), (⟨"SiteTrianglesModel", "side", "(IIJJ)I"⟩, 14)]
theorem lw_r4 : ∀ q ∈ lw_privs_4, lw_okq q := List.forall_mem_cons.mpr ⟨lw_p48, List.forall_mem_cons.mpr ⟨lw_p49, List.forall_mem_cons.mpr ⟨lw_p50, List.forall_mem_cons.mpr ⟨lw_p51, List.forall_mem_cons.mpr ⟨lw_p52, fun _ h => absurd h List.not_mem_nil⟩⟩⟩⟩⟩
def lw_privs : List (MethodName × Nat) := lw_privs_1 ++ (lw_privs_2 ++ (lw_privs_3 ++ (lw_privs_4)))
def lw_tbl : List Cond := k2_sels lw_privs ++ tables_1
theorem lw_privs_ok : ∀ q ∈ lw_privs, lw_okq q := by
  show ∀ q ∈ lw_privs_1 ++ (lw_privs_2 ++ (lw_privs_3 ++ (lw_privs_4))), lw_okq q
  exact List.forall_mem_append.mpr ⟨lw_r1, List.forall_mem_append.mpr ⟨lw_r2, List.forall_mem_append.mpr ⟨lw_r3, lw_r4⟩⟩⟩
/-- the streams that the claim lets the run draw from -/
abbrev lw_cs : List Choice := [Jvm.Choice.named "NaN.bits"]
theorem lw_bits : nanBits ∈ lw_cs := by first | decide | exact List.mem_cons_self | simp [lw_cs, nanBits]
-- ===== end of PART A; then your names; then what follows =====
end
section
/-! ===== BEGIN words of one list among another's, by their places ===== -/
theorem goodIn_r {big : List Cond} (ws : List Cond) (ps : List Nat) (hp : ws = ps.filterMap (fun i => big[i]?)) (h : ws.all goodWord = true) : GoodIn big ws := by
  intro w hw
  have h1 := List.all_eq_true.mp h w hw
  rw [hp] at hw
  obtain ⟨i, -, hi⟩ := List.mem_filterMap.mp hw
  have hm : w ∈ big := by first | exact List.mem_of_getElem? hi | exact List.getElem?_mem hi
  exact ⟨hm, good_of_word h1⟩
theorem goodIn_app {big a b : List Cond} (ha : GoodIn big a) (hb : GoodIn big b) : GoodIn big (a ++ b) := fun w h => (List.mem_append.mp h).elim (ha w) (hb w)
theorem goodIn_ca {big a b : List Cond} {c : Cond} (ha : GoodIn big (c :: a)) (hb : GoodIn big b) : GoodIn big (c :: (a ++ b)) := fun w h => (List.mem_cons.mp h).elim (fun e => ha w (List.mem_cons.mpr (Or.inl e))) (fun h => (List.mem_append.mp h).elim (fun h => ha w (List.mem_cons.mpr (Or.inr h))) (hb w))
theorem goodIn_sub {big ws : List Cond} (hm : ∀ w ∈ ws, w ∈ big) (h : ws.all goodWord = true) : GoodIn big ws := fun w hw => ⟨hm w hw, good_of_word (List.all_eq_true.mp h w hw)⟩
/-! ===== END ===== -/

/-! ===== BEGIN printed: names, fields, word lists, decode rows ===== -/
def RX0 : String := "SiteTriangles"
def TX0 : u_T := fun k => match k with
  | 0 => ("SiteTriangles", "siteX", "[I", true)
  | 1 => ("SiteTriangles", "siteY", "[I", true)
  | 2 => ("SiteTriangles", "siteCount", "I", false)
  | 3 => ("SiteTriangles", "packedTriangles", "[I", true)
  | 4 => ("SiteTriangles", "triangleCount", "I", false)
  | 5 => ("SiteTriangles", "neighbours", "[I", true)
  | 6 => ("SiteTriangles", "ring", "[I", true)
  | 7 => ("SiteTriangles", "ringCount", "I", false)
  | 8 => ("SiteTriangles", "packedTree", "[I", true)
  | 9 => ("SiteTriangles", "treeCount", "I", false)
  | 10 => ("SiteTriangles", "treeLength", "J", false)
  | _ => ("SiteTriangles", "group", "[I", true)
def tyX0 : Nat → FieldType := fun k => match k with
  | 0 => .array .int
  | 1 => .array .int
  | 2 => .int
  | 3 => .array .int
  | 4 => .int
  | 5 => .array .int
  | 6 => .array .int
  | 7 => .int
  | 8 => .array .int
  | 9 => .int
  | 10 => .long
  | _ => .array .int
abbrev wsX00 : List Cond := u_ws RX0 TX0 12
theorem nmX0 : ∀ a, a < 12 → ∀ b, b < 12 → a ≠ b → (TX0 a).2.1 ≠ (TX0 b).2.1 := by decide +kernel
theorem tyX0_ok : ∀ k, k < 12 → parseFieldDescriptor (TX0 k).2.2.1 = some (tyX0 k) := by decide +kernel
abbrev cX0_init : ByteArray := prog_1_method_1_code
def yX0_init : MethodName := ⟨RX0, "<init>", "()V"⟩
abbrev cX0_add : ByteArray := prog_1_method_2_code
def yX0_add : MethodName := ⟨RX0, "add", "(II)I"⟩
abbrev cX0_sites : ByteArray := prog_1_method_3_code
def yX0_sites : MethodName := ⟨RX0, "sites", "()I"⟩
abbrev cX0_triangles : ByteArray := prog_1_method_4_code
def yX0_triangles : MethodName := ⟨RX0, "triangles", "()I"⟩
abbrev cX0_triangle : ByteArray := prog_1_method_5_code
def yX0_triangle : MethodName := ⟨RX0, "triangle", "(I)I"⟩
abbrev cX0_beyond : ByteArray := prog_1_method_6_code
def yX0_beyond : MethodName := ⟨RX0, "beyond", "(II)I"⟩
abbrev cX0_centre : ByteArray := prog_1_method_7_code
def yX0_centre : MethodName := ⟨RX0, "centre", "(II)J"⟩
abbrev cX0_joined : ByteArray := prog_1_method_8_code
def yX0_joined : MethodName := ⟨RX0, "joined", "(II)Z"⟩
abbrev cX0_degree : ByteArray := prog_1_method_9_code
def yX0_degree : MethodName := ⟨RX0, "degree", "(I)I"⟩
abbrev cX0_corners : ByteArray := prog_1_method_10_code
def yX0_corners : MethodName := ⟨RX0, "corners", "()I"⟩
abbrev cX0_corner : ByteArray := prog_1_method_11_code
def yX0_corner : MethodName := ⟨RX0, "corner", "(I)I"⟩
abbrev cX0_nearest : ByteArray := prog_1_method_12_code
def yX0_nearest : MethodName := ⟨RX0, "nearest", "(DD)I"⟩
abbrev cX0_holder : ByteArray := prog_1_method_13_code
def yX0_holder : MethodName := ⟨RX0, "holder", "(DD)I"⟩
abbrev cX0_square : ByteArray := prog_1_method_14_code
def yX0_square : MethodName := ⟨RX0, "square", "(IDD)D"⟩
abbrev cX0_tree : ByteArray := prog_1_method_15_code
def yX0_tree : MethodName := ⟨RX0, "tree", "(I)I"⟩
abbrev cX0_total : ByteArray := prog_1_method_16_code
def yX0_total : MethodName := ⟨RX0, "total", "()J"⟩
abbrev cX0_bounded : ByteArray := prog_1_method_17_code
def yX0_bounded : MethodName := ⟨RX0, "bounded", "(I)Z"⟩
abbrev cX0_isTooFar : ByteArray := prog_1_method_18_code
def yX0_isTooFar : MethodName := ⟨RX0, "isTooFar", "(I)Z"⟩
abbrev cX0_isRefused : ByteArray := prog_1_method_19_code
def yX0_isRefused : MethodName := ⟨RX0, "isRefused", "(DD)Z"⟩
abbrev cX0_isSite : ByteArray := prog_1_method_20_code
def yX0_isSite : MethodName := ⟨RX0, "isSite", "(I)Z"⟩
abbrev cX0_isTriangle : ByteArray := prog_1_method_21_code
def yX0_isTriangle : MethodName := ⟨RX0, "isTriangle", "(I)Z"⟩
abbrev cX0_siteAt : ByteArray := prog_1_method_22_code
def yX0_siteAt : MethodName := ⟨RX0, "siteAt", "(II)I"⟩
abbrev cX0_xOf : ByteArray := prog_1_method_23_code
def yX0_xOf : MethodName := ⟨RX0, "xOf", "(I)J"⟩
abbrev cX0_yOf : ByteArray := prog_1_method_24_code
def yX0_yOf : MethodName := ⟨RX0, "yOf", "(I)J"⟩
abbrev cX0_turn : ByteArray := prog_1_method_25_code
def yX0_turn : MethodName := ⟨RX0, "turn", "(III)J"⟩
abbrev cX0_gap : ByteArray := prog_1_method_26_code
def yX0_gap : MethodName := ⟨RX0, "gap", "(II)J"⟩
abbrev cX0_dot : ByteArray := prog_1_method_27_code
def yX0_dot : MethodName := ⟨RX0, "dot", "(III)J"⟩
abbrev cX0_gapToPoint : ByteArray := prog_1_method_28_code
def yX0_gapToPoint : MethodName := ⟨RX0, "gapToPoint", "(IDD)D"⟩
abbrev cX0_turnToPoint : ByteArray := prog_1_method_29_code
def yX0_turnToPoint : MethodName := ⟨RX0, "turnToPoint", "(IIDD)D"⟩
abbrev cX0_commonDivisor : ByteArray := prog_1_method_30_code
def yX0_commonDivisor : MethodName := ⟨RX0, "commonDivisor", "(JJ)J"⟩
abbrev cX0_triangleCorner : ByteArray := prog_1_method_31_code
def yX0_triangleCorner : MethodName := ⟨RX0, "triangleCorner", "(II)I"⟩
abbrev cX0_hasCorner : ByteArray := prog_1_method_32_code
def yX0_hasCorner : MethodName := ⟨RX0, "hasCorner", "(II)Z"⟩
abbrev cX0_holds : ByteArray := prog_1_method_33_code
def yX0_holds : MethodName := ⟨RX0, "holds", "(IDD)Z"⟩
abbrev cX0_rebuild : ByteArray := prog_1_method_34_code
def yX0_rebuild : MethodName := ⟨RX0, "rebuild", "()V"⟩
abbrev cX0_findTriangles : ByteArray := prog_1_method_35_code
def yX0_findTriangles : MethodName := ⟨RX0, "findTriangles", "()V"⟩
abbrev cX0_keepTriangle : ByteArray := prog_1_method_36_code
def yX0_keepTriangle : MethodName := ⟨RX0, "keepTriangle", "(III)V"⟩
abbrev cX0_isDueTriangle : ByteArray := prog_1_method_37_code
def yX0_isDueTriangle : MethodName := ⟨RX0, "isDueTriangle", "(III)Z"⟩
abbrev cX0_circleSide : ByteArray := prog_1_method_38_code
def yX0_circleSide : MethodName := ⟨RX0, "circleSide", "(IIII)I"⟩
abbrev cX0_hasEdge : ByteArray := prog_1_method_39_code
def yX0_hasEdge : MethodName := ⟨RX0, "hasEdge", "(II)Z"⟩
abbrev cX0_findEdges : ByteArray := prog_1_method_40_code
def yX0_findEdges : MethodName := ⟨RX0, "findEdges", "()V"⟩
abbrev cX0_join : ByteArray := prog_1_method_41_code
def yX0_join : MethodName := ⟨RX0, "join", "(II)V"⟩
abbrev cX0_joinAlongLine : ByteArray := prog_1_method_42_code
def yX0_joinAlongLine : MethodName := ⟨RX0, "joinAlongLine", "()V"⟩
abbrev cX0_isWayFree : ByteArray := prog_1_method_43_code
def yX0_isWayFree : MethodName := ⟨RX0, "isWayFree", "(II)Z"⟩
abbrev cX0_findRing : ByteArray := prog_1_method_44_code
def yX0_findRing : MethodName := ⟨RX0, "findRing", "(I)V"⟩
abbrev cX0_leastCorner : ByteArray := prog_1_method_45_code
def yX0_leastCorner : MethodName := ⟨RX0, "leastCorner", "()I"⟩
abbrev cX0_nextCorner : ByteArray := prog_1_method_46_code
def yX0_nextCorner : MethodName := ⟨RX0, "nextCorner", "(I)I"⟩
abbrev cX0_isRingSide : ByteArray := prog_1_method_47_code
def yX0_isRingSide : MethodName := ⟨RX0, "isRingSide", "(II)Z"⟩
abbrev cX0_noneTurnsRight : ByteArray := prog_1_method_48_code
def yX0_noneTurnsRight : MethodName := ⟨RX0, "noneTurnsRight", "(II)Z"⟩
abbrev cX0_growTree : ByteArray := prog_1_method_49_code
def yX0_growTree : MethodName := ⟨RX0, "growTree", "()V"⟩
abbrev cX0_takeNextEdge : ByteArray := prog_1_method_50_code
def yX0_takeNextEdge : MethodName := ⟨RX0, "takeNextEdge", "()V"⟩
abbrev cX0_takeEdge : ByteArray := prog_1_method_51_code
def yX0_takeEdge : MethodName := ⟨RX0, "takeEdge", "(II)V"⟩
def RX1 : String := "SiteTrianglesModel"
def TX1 : u_T := fun k => match k with
  | 0 => ("SiteTrianglesModel", "count", "I", false)
  | 1 => ("SiteTrianglesModel", "xs", "[J", false)
  | 2 => ("SiteTrianglesModel", "ys", "[J", false)
  | 3 => ("SiteTrianglesModel", "many", "I", false)
  | 4 => ("SiteTrianglesModel", "least", "[I", false)
  | 5 => ("SiteTrianglesModel", "middle", "[I", false)
  | 6 => ("SiteTrianglesModel", "greatest", "[I", false)
  | 7 => ("SiteTrianglesModel", "ends", "I", false)
  | 8 => ("SiteTrianglesModel", "corners", "[I", false)
  | 9 => ("SiteTrianglesModel", "taken", "I", false)
  | 10 => ("SiteTrianglesModel", "lesser", "[I", false)
  | 11 => ("SiteTrianglesModel", "greater", "[I", false)
  | 12 => ("SiteTrianglesModel", "total", "J", false)
  | _ => ("SiteTrianglesModel", "group", "[I", false)
def tyX1 : Nat → FieldType := fun k => match k with
  | 0 => .int
  | 1 => .array .long
  | 2 => .array .long
  | 3 => .int
  | 4 => .array .int
  | 5 => .array .int
  | 6 => .array .int
  | 7 => .int
  | 8 => .array .int
  | 9 => .int
  | 10 => .array .int
  | 11 => .array .int
  | 12 => .long
  | _ => .array .int
abbrev wsX10 : List Cond := u_ws RX1 TX1 14
theorem nmX1 : ∀ a, a < 14 → ∀ b, b < 14 → a ≠ b → (TX1 a).2.1 ≠ (TX1 b).2.1 := by decide +kernel
theorem tyX1_ok : ∀ k, k < 14 → parseFieldDescriptor (TX1 k).2.2.1 = some (tyX1 k) := by decide +kernel
abbrev cX1_init : ByteArray := prog_3_method_1_code
def yX1_init : MethodName := ⟨RX1, "<init>", "()V"⟩
abbrev cX1_sign : ByteArray := prog_3_method_2_code
def yX1_sign : MethodName := ⟨RX1, "sign", "(J)I"⟩
abbrev cX1_turn : ByteArray := prog_3_method_3_code
def yX1_turn : MethodName := ⟨RX1, "turn", "(III)I"⟩
abbrev cX1_apart : ByteArray := prog_3_method_4_code
def yX1_apart : MethodName := ⟨RX1, "apart", "(II)J"⟩
abbrev cX1_span : ByteArray := prog_3_method_5_code
def yX1_span : MethodName := ⟨RX1, "span", "(III)J"⟩
abbrev cX1_inside : ByteArray := prog_3_method_6_code
def yX1_inside : MethodName := ⟨RX1, "inside", "(IIII)I"⟩
abbrev cX1_between : ByteArray := prog_3_method_7_code
def yX1_between : MethodName := ⟨RX1, "between", "(III)Z"⟩
abbrev cX1_good : ByteArray := prog_3_method_8_code
def yX1_good : MethodName := ⟨RX1, "good", "(III)Z"⟩
abbrev cX1_makeTriangles : ByteArray := prog_3_method_9_code
def yX1_makeTriangles : MethodName := ⟨RX1, "makeTriangles", "()V"⟩
abbrev cX1_isOf : ByteArray := prog_3_method_10_code
def yX1_isOf : MethodName := ⟨RX1, "isOf", "(II)Z"⟩
abbrev cX1_edge : ByteArray := prog_3_method_11_code
def yX1_edge : MethodName := ⟨RX1, "edge", "(II)Z"⟩
abbrev cX1_within : ByteArray := prog_3_method_12_code
def yX1_within : MethodName := ⟨RX1, "within", "(IIII)Z"⟩
abbrev cX1_isCorner : ByteArray := prog_3_method_13_code
def yX1_isCorner : MethodName := ⟨RX1, "isCorner", "(I)Z"⟩
abbrev cX1_following : ByteArray := prog_3_method_14_code
def yX1_following : MethodName := ⟨RX1, "following", "(I)I"⟩
abbrev cX1_makeCorners : ByteArray := prog_3_method_15_code
def yX1_makeCorners : MethodName := ⟨RX1, "makeCorners", "()V"⟩
abbrev cX1_before : ByteArray := prog_3_method_16_code
def yX1_before : MethodName := ⟨RX1, "before", "(IIII)Z"⟩
abbrev cX1_makeTree : ByteArray := prog_3_method_17_code
def yX1_makeTree : MethodName := ⟨RX1, "makeTree", "()V"⟩
abbrev cX1_add : ByteArray := prog_3_method_18_code
def yX1_add : MethodName := ⟨RX1, "add", "(II)I"⟩
abbrev cX1_sites : ByteArray := prog_3_method_19_code
def yX1_sites : MethodName := ⟨RX1, "sites", "()I"⟩
abbrev cX1_triangles : ByteArray := prog_3_method_20_code
def yX1_triangles : MethodName := ⟨RX1, "triangles", "()I"⟩
abbrev cX1_none : ByteArray := prog_3_method_21_code
def yX1_none : MethodName := ⟨RX1, "none", "(I)Z"⟩
abbrev cX1_triangle : ByteArray := prog_3_method_22_code
def yX1_triangle : MethodName := ⟨RX1, "triangle", "(I)I"⟩
abbrev cX1_beyond : ByteArray := prog_3_method_23_code
def yX1_beyond : MethodName := ⟨RX1, "beyond", "(II)I"⟩
abbrev cX1_divisor : ByteArray := prog_3_method_24_code
def yX1_divisor : MethodName := ⟨RX1, "divisor", "(JJ)J"⟩
abbrev cX1_centre : ByteArray := prog_3_method_25_code
def yX1_centre : MethodName := ⟨RX1, "centre", "(II)J"⟩
abbrev cX1_noSite : ByteArray := prog_3_method_26_code
def yX1_noSite : MethodName := ⟨RX1, "noSite", "(I)Z"⟩
abbrev cX1_joined : ByteArray := prog_3_method_27_code
def yX1_joined : MethodName := ⟨RX1, "joined", "(II)Z"⟩
abbrev cX1_degree : ByteArray := prog_3_method_28_code
def yX1_degree : MethodName := ⟨RX1, "degree", "(I)I"⟩
abbrev cX1_corners : ByteArray := prog_3_method_29_code
def yX1_corners : MethodName := ⟨RX1, "corners", "()I"⟩
abbrev cX1_corner : ByteArray := prog_3_method_30_code
def yX1_corner : MethodName := ⟨RX1, "corner", "(I)I"⟩
abbrev cX1_refused : ByteArray := prog_3_method_31_code
def yX1_refused : MethodName := ⟨RX1, "refused", "(DD)Z"⟩
abbrev cX1_far : ByteArray := prog_3_method_32_code
def yX1_far : MethodName := ⟨RX1, "far", "(IJJ)J"⟩
abbrev cX1_nearest : ByteArray := prog_3_method_33_code
def yX1_nearest : MethodName := ⟨RX1, "nearest", "(DD)I"⟩
abbrev cX1_side : ByteArray := prog_3_method_34_code
def yX1_side : MethodName := ⟨RX1, "side", "(IIJJ)I"⟩
abbrev cX1_holder : ByteArray := prog_3_method_35_code
def yX1_holder : MethodName := ⟨RX1, "holder", "(DD)I"⟩
abbrev cX1_square : ByteArray := prog_3_method_36_code
def yX1_square : MethodName := ⟨RX1, "square", "(IDD)D"⟩
abbrev cX1_tree : ByteArray := prog_3_method_37_code
def yX1_tree : MethodName := ⟨RX1, "tree", "(I)I"⟩
abbrev cX1_total : ByteArray := prog_3_method_38_code
def yX1_total : MethodName := ⟨RX1, "total", "()J"⟩
abbrev cX1_bounded : ByteArray := prog_3_method_39_code
def yX1_bounded : MethodName := ⟨RX1, "bounded", "(I)Z"⟩
def RJ6 : String := "java/lang/Integer"
def TJ6 : u_T := fun k => match k with
  | _ => ("", "", "", false)
def tyJ6 : Nat → FieldType := fun k => match k with
  | _ => .int
abbrev wsJ60 : List Cond := u_ws RJ6 TJ6 0
theorem nmJ6 : ∀ a, a < 0 → ∀ b, b < 0 → a ≠ b → (TJ6 a).2.1 ≠ (TJ6 b).2.1 := by decide +kernel
theorem tyJ6_ok : ∀ k, k < 0 → parseFieldDescriptor (TJ6 k).2.2.1 = some (tyJ6 k) := by decide +kernel
abbrev cJ6_bitCount_0f7a4 : ByteArray := prog_4_method_49_code
def yJ6_bitCount_0f7a4 : MethodName := ⟨RJ6, "bitCount", "(I)I"⟩
def RJ9 : String := "java/lang/Math"
def TJ9 : u_T := fun k => match k with
  | _ => ("", "", "", false)
def tyJ9 : Nat → FieldType := fun k => match k with
  | _ => .int
abbrev wsJ90 : List Cond := u_ws RJ9 TJ9 0
theorem nmJ9 : ∀ a, a < 0 → ∀ b, b < 0 → a ≠ b → (TJ9 a).2.1 ≠ (TJ9 b).2.1 := by decide +kernel
theorem tyJ9_ok : ∀ k, k < 0 → parseFieldDescriptor (TJ9 k).2.2.1 = some (tyJ9 k) := by decide +kernel
abbrev cJ9_abs_067f4 : ByteArray := prog_5_method_61_code
def yJ9_abs_067f4 : MethodName := ⟨RJ9, "abs", "(J)J"⟩
def RL : String := "SiteTrianglesLaw"
abbrev cL_law : ByteArray := code
def yL_law : MethodName := ⟨RL, "law", "([I)Z"⟩
def wsX0_init : List Cond := .code yX0_init cX0_init 1 none :: ([.methodLink RX0 3 objectInit, .instanceMethod objectInit, .code objectInit ⟨#[0xb1]⟩ 1 none, .arrayClass .int, .fieldLink RX0 9 "SiteTriangles" "siteX" "[I", .fieldLink RX0 13 "SiteTriangles" "siteY" "[I", .fieldLink RX0 16 "SiteTriangles" "siteCount" "I", .fieldLink RX0 20 "SiteTriangles" "packedTriangles" "[I", .fieldLink RX0 23 "SiteTriangles" "triangleCount" "I", .fieldLink RX0 26 "SiteTriangles" "neighbours" "[I", .fieldLink RX0 29 "SiteTriangles" "ring" "[I", .fieldLink RX0 32 "SiteTriangles" "ringCount" "I", .fieldLink RX0 35 "SiteTriangles" "packedTree" "[I", .fieldLink RX0 38 "SiteTriangles" "treeCount" "I", .fieldLink RX0 41 "SiteTriangles" "treeLength" "J", .fieldLink RX0 45 "SiteTriangles" "group" "[I"] ++ wsX00)
def wsX0_isTooFar : List Cond := .code yX0_isTooFar cX0_isTooFar 1 (some .boolean) :: ([])
def wsX0_siteAt : List Cond := .code yX0_siteAt cX0_siteAt 4 (some .int) :: ([.fieldLink RX0 16 "SiteTriangles" "siteCount" "I", .fieldLink RX0 9 "SiteTriangles" "siteX" "[I", .fieldLink RX0 13 "SiteTriangles" "siteY" "[I"] ++ wsX00)
def wsX0_xOf : List Cond := .code yX0_xOf cX0_xOf 2 (some .long) :: ([.fieldLink RX0 16 "SiteTriangles" "siteCount" "I", .fieldLink RX0 9 "SiteTriangles" "siteX" "[I"] ++ wsX00)
def wsX0_yOf : List Cond := .code yX0_yOf cX0_yOf 2 (some .long) :: ([.fieldLink RX0 16 "SiteTriangles" "siteCount" "I", .fieldLink RX0 13 "SiteTriangles" "siteY" "[I"] ++ wsX00)
def wsX0_turn : List Cond := .code yX0_turn cX0_turn 4 (some .long) :: ([.methodLink RX0 79 yX0_xOf, .instanceMethod yX0_xOf, .selects RX0 yX0_xOf yX0_xOf, .initialized RX0, .code yX0_xOf cX0_xOf 2 (some .long), .fieldLink RX0 16 "SiteTriangles" "siteCount" "I", .fieldLink RX0 9 "SiteTriangles" "siteX" "[I", .methodLink RX0 83 yX0_yOf, .instanceMethod yX0_yOf, .selects RX0 yX0_yOf yX0_yOf, .code yX0_yOf cX0_yOf 2 (some .long), .fieldLink RX0 13 "SiteTriangles" "siteY" "[I"] ++ wsX00)
def wsX0_gap : List Cond := .code yX0_gap cX0_gap 7 (some .long) :: ([.methodLink RX0 79 yX0_xOf, .instanceMethod yX0_xOf, .selects RX0 yX0_xOf yX0_xOf, .initialized RX0, .code yX0_xOf cX0_xOf 2 (some .long), .fieldLink RX0 16 "SiteTriangles" "siteCount" "I", .fieldLink RX0 9 "SiteTriangles" "siteX" "[I", .methodLink RX0 83 yX0_yOf, .instanceMethod yX0_yOf, .selects RX0 yX0_yOf yX0_yOf, .code yX0_yOf cX0_yOf 2 (some .long), .fieldLink RX0 13 "SiteTriangles" "siteY" "[I"] ++ wsX00)
def wsX0_circleSide : List Cond := .code yX0_circleSide cX0_circleSide 21 (some .int) :: ([.constantLong RX0 164 (1048575), .methodLink RX0 75 yX0_gap, .instanceMethod yX0_gap, .selects RX0 yX0_gap yX0_gap, .initialized RX0, .code yX0_gap cX0_gap 7 (some .long), .methodLink RX0 79 yX0_xOf, .instanceMethod yX0_xOf, .selects RX0 yX0_xOf yX0_xOf, .code yX0_xOf cX0_xOf 2 (some .long), .fieldLink RX0 16 "SiteTriangles" "siteCount" "I", .fieldLink RX0 9 "SiteTriangles" "siteX" "[I", .methodLink RX0 83 yX0_yOf, .instanceMethod yX0_yOf, .selects RX0 yX0_yOf yX0_yOf, .code yX0_yOf cX0_yOf 2 (some .long), .fieldLink RX0 13 "SiteTriangles" "siteY" "[I", .methodLink RX0 71 yX0_turn, .instanceMethod yX0_turn, .selects RX0 yX0_turn yX0_turn, .code yX0_turn cX0_turn 4 (some .long)] ++ wsX00)
def wsX0_isDueTriangle_r1 : List Cond := [Cond.fieldLink RX0 16 "SiteTriangles" "siteCount" "I", Cond.methodLink RX0 71 yX0_turn, Cond.instanceMethod yX0_turn, Cond.selects RX0 yX0_turn yX0_turn, Cond.initialized RX0, Cond.code yX0_turn cX0_turn 4 (some .long), Cond.methodLink RX0 79 yX0_xOf, Cond.instanceMethod yX0_xOf, Cond.selects RX0 yX0_xOf yX0_xOf, Cond.code yX0_xOf cX0_xOf 2 (some .long), Cond.fieldLink RX0 9 "SiteTriangles" "siteX" "[I", Cond.methodLink RX0 83 yX0_yOf, Cond.instanceMethod yX0_yOf, Cond.selects RX0 yX0_yOf yX0_yOf, Cond.code yX0_yOf cX0_yOf 2 (some .long), Cond.fieldLink RX0 13 "SiteTriangles" "siteY" "[I", Cond.methodLink RX0 160 yX0_circleSide, Cond.instanceMethod yX0_circleSide, Cond.selects RX0 yX0_circleSide yX0_circleSide, Cond.code yX0_circleSide cX0_circleSide 21 (some .int), Cond.constantLong RX0 164 (1048575), Cond.methodLink RX0 75 yX0_gap, Cond.instanceMethod yX0_gap, Cond.selects RX0 yX0_gap yX0_gap]
def wsX0_isDueTriangle_r2 : List Cond := [Cond.code yX0_gap cX0_gap 7 (some .long)]
def wsX0_isDueTriangle : List Cond := .code yX0_isDueTriangle cX0_isDueTriangle 9 (some .boolean) :: ((wsX0_isDueTriangle_r1 ++ wsX0_isDueTriangle_r2) ++ wsX00)
def wsX0_keepTriangle : List Cond := .code yX0_keepTriangle cX0_keepTriangle 4 none :: ([.fieldLink RX0 23 "SiteTriangles" "triangleCount" "I", .fieldLink RX0 20 "SiteTriangles" "packedTriangles" "[I"] ++ wsX00)
def wsX0_findTriangles_r1 : List Cond := [Cond.fieldLink RX0 23 "SiteTriangles" "triangleCount" "I", Cond.fieldLink RX0 16 "SiteTriangles" "siteCount" "I", Cond.methodLink RX0 152 yX0_isDueTriangle, Cond.instanceMethod yX0_isDueTriangle, Cond.selects RX0 yX0_isDueTriangle yX0_isDueTriangle, Cond.initialized RX0, Cond.code yX0_isDueTriangle cX0_isDueTriangle 9 (some .boolean), Cond.methodLink RX0 71 yX0_turn, Cond.instanceMethod yX0_turn, Cond.selects RX0 yX0_turn yX0_turn, Cond.code yX0_turn cX0_turn 4 (some .long), Cond.methodLink RX0 79 yX0_xOf, Cond.instanceMethod yX0_xOf, Cond.selects RX0 yX0_xOf yX0_xOf, Cond.code yX0_xOf cX0_xOf 2 (some .long), Cond.fieldLink RX0 9 "SiteTriangles" "siteX" "[I", Cond.methodLink RX0 83 yX0_yOf, Cond.instanceMethod yX0_yOf, Cond.selects RX0 yX0_yOf yX0_yOf, Cond.code yX0_yOf cX0_yOf 2 (some .long), Cond.fieldLink RX0 13 "SiteTriangles" "siteY" "[I", Cond.methodLink RX0 160 yX0_circleSide, Cond.instanceMethod yX0_circleSide, Cond.selects RX0 yX0_circleSide yX0_circleSide]
def wsX0_findTriangles_r2 : List Cond := [Cond.code yX0_circleSide cX0_circleSide 21 (some .int), Cond.constantLong RX0 164 (1048575), Cond.methodLink RX0 75 yX0_gap, Cond.instanceMethod yX0_gap, Cond.selects RX0 yX0_gap yX0_gap, Cond.code yX0_gap cX0_gap 7 (some .long), Cond.methodLink RX0 156 yX0_keepTriangle, Cond.instanceMethod yX0_keepTriangle, Cond.selects RX0 yX0_keepTriangle yX0_keepTriangle, Cond.code yX0_keepTriangle cX0_keepTriangle 4 none, Cond.fieldLink RX0 20 "SiteTriangles" "packedTriangles" "[I"]
def wsX0_findTriangles : List Cond := .code yX0_findTriangles cX0_findTriangles 4 none :: ((wsX0_findTriangles_r1 ++ wsX0_findTriangles_r2) ++ wsX00)
def wsX0_isTriangle : List Cond := .code yX0_isTriangle cX0_isTriangle 2 (some .boolean) :: ([.fieldLink RX0 23 "SiteTriangles" "triangleCount" "I"] ++ wsX00)
def wsX0_triangleCorner : List Cond := .code yX0_triangleCorner cX0_triangleCorner 3 (some .int) :: ([.fieldLink RX0 20 "SiteTriangles" "packedTriangles" "[I", .methodLink RX0 59 yX0_isTriangle, .instanceMethod yX0_isTriangle, .selects RX0 yX0_isTriangle yX0_isTriangle, .initialized RX0, .code yX0_isTriangle cX0_isTriangle 2 (some .boolean), .fieldLink RX0 23 "SiteTriangles" "triangleCount" "I"] ++ wsX00)
def wsX0_isSite : List Cond := .code yX0_isSite cX0_isSite 2 (some .boolean) :: ([.fieldLink RX0 16 "SiteTriangles" "siteCount" "I"] ++ wsX00)
def wsX0_join : List Cond := .code yX0_join cX0_join 3 none :: ([.fieldLink RX0 26 "SiteTriangles" "neighbours" "[I", .methodLink RX0 93 yX0_isSite, .instanceMethod yX0_isSite, .selects RX0 yX0_isSite yX0_isSite, .initialized RX0, .code yX0_isSite cX0_isSite 2 (some .boolean), .fieldLink RX0 16 "SiteTriangles" "siteCount" "I"] ++ wsX00)
def wsX0_dot : List Cond := .code yX0_dot cX0_dot 4 (some .long) :: ([.methodLink RX0 79 yX0_xOf, .instanceMethod yX0_xOf, .selects RX0 yX0_xOf yX0_xOf, .initialized RX0, .code yX0_xOf cX0_xOf 2 (some .long), .fieldLink RX0 16 "SiteTriangles" "siteCount" "I", .fieldLink RX0 9 "SiteTriangles" "siteX" "[I", .methodLink RX0 83 yX0_yOf, .instanceMethod yX0_yOf, .selects RX0 yX0_yOf yX0_yOf, .code yX0_yOf cX0_yOf 2 (some .long), .fieldLink RX0 13 "SiteTriangles" "siteY" "[I"] ++ wsX00)
def wsX0_isWayFree : List Cond := .code yX0_isWayFree cX0_isWayFree 4 (some .boolean) :: ([.fieldLink RX0 16 "SiteTriangles" "siteCount" "I", .methodLink RX0 71 yX0_turn, .instanceMethod yX0_turn, .selects RX0 yX0_turn yX0_turn, .initialized RX0, .code yX0_turn cX0_turn 4 (some .long), .methodLink RX0 79 yX0_xOf, .instanceMethod yX0_xOf, .selects RX0 yX0_xOf yX0_xOf, .code yX0_xOf cX0_xOf 2 (some .long), .fieldLink RX0 9 "SiteTriangles" "siteX" "[I", .methodLink RX0 83 yX0_yOf, .instanceMethod yX0_yOf, .selects RX0 yX0_yOf yX0_yOf, .code yX0_yOf cX0_yOf 2 (some .long), .fieldLink RX0 13 "SiteTriangles" "siteY" "[I", .methodLink RX0 176 yX0_dot, .instanceMethod yX0_dot, .selects RX0 yX0_dot yX0_dot, .code yX0_dot cX0_dot 4 (some .long)] ++ wsX00)
def wsX0_joinAlongLine_r1 : List Cond := [Cond.fieldLink RX0 16 "SiteTriangles" "siteCount" "I", Cond.methodLink RX0 173 yX0_isWayFree, Cond.instanceMethod yX0_isWayFree, Cond.selects RX0 yX0_isWayFree yX0_isWayFree, Cond.initialized RX0, Cond.code yX0_isWayFree cX0_isWayFree 4 (some .boolean), Cond.methodLink RX0 71 yX0_turn, Cond.instanceMethod yX0_turn, Cond.selects RX0 yX0_turn yX0_turn, Cond.code yX0_turn cX0_turn 4 (some .long), Cond.methodLink RX0 79 yX0_xOf, Cond.instanceMethod yX0_xOf, Cond.selects RX0 yX0_xOf yX0_xOf, Cond.code yX0_xOf cX0_xOf 2 (some .long), Cond.fieldLink RX0 9 "SiteTriangles" "siteX" "[I", Cond.methodLink RX0 83 yX0_yOf, Cond.instanceMethod yX0_yOf, Cond.selects RX0 yX0_yOf yX0_yOf, Cond.code yX0_yOf cX0_yOf 2 (some .long), Cond.fieldLink RX0 13 "SiteTriangles" "siteY" "[I", Cond.methodLink RX0 176 yX0_dot, Cond.instanceMethod yX0_dot, Cond.selects RX0 yX0_dot yX0_dot, Cond.code yX0_dot cX0_dot 4 (some .long)]
def wsX0_joinAlongLine_r2 : List Cond := [Cond.methodLink RX0 166 yX0_join, Cond.instanceMethod yX0_join, Cond.selects RX0 yX0_join yX0_join, Cond.code yX0_join cX0_join 3 none, Cond.fieldLink RX0 26 "SiteTriangles" "neighbours" "[I", Cond.methodLink RX0 93 yX0_isSite, Cond.instanceMethod yX0_isSite, Cond.selects RX0 yX0_isSite yX0_isSite, Cond.code yX0_isSite cX0_isSite 2 (some .boolean)]
def wsX0_joinAlongLine : List Cond := .code yX0_joinAlongLine cX0_joinAlongLine 3 none :: ((wsX0_joinAlongLine_r1 ++ wsX0_joinAlongLine_r2) ++ wsX00)
def wsX0_findEdges_r1 : List Cond := [Cond.fieldLink RX0 16 "SiteTriangles" "siteCount" "I", Cond.fieldLink RX0 26 "SiteTriangles" "neighbours" "[I", Cond.fieldLink RX0 23 "SiteTriangles" "triangleCount" "I", Cond.methodLink RX0 62 yX0_triangleCorner, Cond.instanceMethod yX0_triangleCorner, Cond.selects RX0 yX0_triangleCorner yX0_triangleCorner, Cond.initialized RX0, Cond.code yX0_triangleCorner cX0_triangleCorner 3 (some .int), Cond.fieldLink RX0 20 "SiteTriangles" "packedTriangles" "[I", Cond.methodLink RX0 59 yX0_isTriangle, Cond.instanceMethod yX0_isTriangle, Cond.selects RX0 yX0_isTriangle yX0_isTriangle, Cond.code yX0_isTriangle cX0_isTriangle 2 (some .boolean), Cond.methodLink RX0 166 yX0_join, Cond.instanceMethod yX0_join, Cond.selects RX0 yX0_join yX0_join, Cond.code yX0_join cX0_join 3 none, Cond.methodLink RX0 93 yX0_isSite, Cond.instanceMethod yX0_isSite, Cond.selects RX0 yX0_isSite yX0_isSite, Cond.code yX0_isSite cX0_isSite 2 (some .boolean), Cond.methodLink RX0 170 yX0_joinAlongLine, Cond.instanceMethod yX0_joinAlongLine, Cond.selects RX0 yX0_joinAlongLine yX0_joinAlongLine]
def wsX0_findEdges_r2 : List Cond := [Cond.code yX0_joinAlongLine cX0_joinAlongLine 3 none, Cond.methodLink RX0 173 yX0_isWayFree, Cond.instanceMethod yX0_isWayFree, Cond.selects RX0 yX0_isWayFree yX0_isWayFree, Cond.code yX0_isWayFree cX0_isWayFree 4 (some .boolean), Cond.methodLink RX0 71 yX0_turn, Cond.instanceMethod yX0_turn, Cond.selects RX0 yX0_turn yX0_turn, Cond.code yX0_turn cX0_turn 4 (some .long), Cond.methodLink RX0 79 yX0_xOf, Cond.instanceMethod yX0_xOf, Cond.selects RX0 yX0_xOf yX0_xOf, Cond.code yX0_xOf cX0_xOf 2 (some .long), Cond.fieldLink RX0 9 "SiteTriangles" "siteX" "[I", Cond.methodLink RX0 83 yX0_yOf, Cond.instanceMethod yX0_yOf, Cond.selects RX0 yX0_yOf yX0_yOf, Cond.code yX0_yOf cX0_yOf 2 (some .long), Cond.fieldLink RX0 13 "SiteTriangles" "siteY" "[I", Cond.methodLink RX0 176 yX0_dot, Cond.instanceMethod yX0_dot, Cond.selects RX0 yX0_dot yX0_dot, Cond.code yX0_dot cX0_dot 4 (some .long)]
def wsX0_findEdges : List Cond := .code yX0_findEdges cX0_findEdges 5 none :: ((wsX0_findEdges_r1 ++ wsX0_findEdges_r2) ++ wsX00)
def wsX0_isRingSide : List Cond := .code yX0_isRingSide cX0_isRingSide 6 (some .boolean) :: ([.fieldLink RX0 16 "SiteTriangles" "siteCount" "I", .methodLink RX0 71 yX0_turn, .instanceMethod yX0_turn, .selects RX0 yX0_turn yX0_turn, .initialized RX0, .code yX0_turn cX0_turn 4 (some .long), .methodLink RX0 79 yX0_xOf, .instanceMethod yX0_xOf, .selects RX0 yX0_xOf yX0_xOf, .code yX0_xOf cX0_xOf 2 (some .long), .fieldLink RX0 9 "SiteTriangles" "siteX" "[I", .methodLink RX0 83 yX0_yOf, .instanceMethod yX0_yOf, .selects RX0 yX0_yOf yX0_yOf, .code yX0_yOf cX0_yOf 2 (some .long), .fieldLink RX0 13 "SiteTriangles" "siteY" "[I", .methodLink RX0 176 yX0_dot, .instanceMethod yX0_dot, .selects RX0 yX0_dot yX0_dot, .code yX0_dot cX0_dot 4 (some .long)] ++ wsX00)
def wsX0_nextCorner : List Cond := .code yX0_nextCorner cX0_nextCorner 3 (some .int) :: ([.fieldLink RX0 16 "SiteTriangles" "siteCount" "I", .methodLink RX0 182 yX0_isRingSide, .instanceMethod yX0_isRingSide, .selects RX0 yX0_isRingSide yX0_isRingSide, .initialized RX0, .code yX0_isRingSide cX0_isRingSide 6 (some .boolean), .methodLink RX0 71 yX0_turn, .instanceMethod yX0_turn, .selects RX0 yX0_turn yX0_turn, .code yX0_turn cX0_turn 4 (some .long), .methodLink RX0 79 yX0_xOf, .instanceMethod yX0_xOf, .selects RX0 yX0_xOf yX0_xOf, .code yX0_xOf cX0_xOf 2 (some .long), .fieldLink RX0 9 "SiteTriangles" "siteX" "[I", .methodLink RX0 83 yX0_yOf, .instanceMethod yX0_yOf, .selects RX0 yX0_yOf yX0_yOf, .code yX0_yOf cX0_yOf 2 (some .long), .fieldLink RX0 13 "SiteTriangles" "siteY" "[I", .methodLink RX0 176 yX0_dot, .instanceMethod yX0_dot, .selects RX0 yX0_dot yX0_dot, .code yX0_dot cX0_dot 4 (some .long)] ++ wsX00)
def wsX0_leastCorner_r1 : List Cond := [Cond.fieldLink RX0 16 "SiteTriangles" "siteCount" "I", Cond.methodLink RX0 179 yX0_nextCorner, Cond.instanceMethod yX0_nextCorner, Cond.selects RX0 yX0_nextCorner yX0_nextCorner, Cond.initialized RX0, Cond.code yX0_nextCorner cX0_nextCorner 3 (some .int), Cond.methodLink RX0 182 yX0_isRingSide, Cond.instanceMethod yX0_isRingSide, Cond.selects RX0 yX0_isRingSide yX0_isRingSide, Cond.code yX0_isRingSide cX0_isRingSide 6 (some .boolean), Cond.methodLink RX0 71 yX0_turn, Cond.instanceMethod yX0_turn, Cond.selects RX0 yX0_turn yX0_turn, Cond.code yX0_turn cX0_turn 4 (some .long), Cond.methodLink RX0 79 yX0_xOf, Cond.instanceMethod yX0_xOf, Cond.selects RX0 yX0_xOf yX0_xOf, Cond.code yX0_xOf cX0_xOf 2 (some .long), Cond.fieldLink RX0 9 "SiteTriangles" "siteX" "[I", Cond.methodLink RX0 83 yX0_yOf, Cond.instanceMethod yX0_yOf, Cond.selects RX0 yX0_yOf yX0_yOf, Cond.code yX0_yOf cX0_yOf 2 (some .long), Cond.fieldLink RX0 13 "SiteTriangles" "siteY" "[I"]
def wsX0_leastCorner_r2 : List Cond := [Cond.methodLink RX0 176 yX0_dot, Cond.instanceMethod yX0_dot, Cond.selects RX0 yX0_dot yX0_dot, Cond.code yX0_dot cX0_dot 4 (some .long)]
def wsX0_leastCorner : List Cond := .code yX0_leastCorner cX0_leastCorner 2 (some .int) :: ((wsX0_leastCorner_r1 ++ wsX0_leastCorner_r2) ++ wsX00)
def wsX0_findRing_r1 : List Cond := [Cond.fieldLink RX0 32 "SiteTriangles" "ringCount" "I", Cond.fieldLink RX0 29 "SiteTriangles" "ring" "[I", Cond.methodLink RX0 179 yX0_nextCorner, Cond.instanceMethod yX0_nextCorner, Cond.selects RX0 yX0_nextCorner yX0_nextCorner, Cond.initialized RX0, Cond.code yX0_nextCorner cX0_nextCorner 3 (some .int), Cond.fieldLink RX0 16 "SiteTriangles" "siteCount" "I", Cond.methodLink RX0 182 yX0_isRingSide, Cond.instanceMethod yX0_isRingSide, Cond.selects RX0 yX0_isRingSide yX0_isRingSide, Cond.code yX0_isRingSide cX0_isRingSide 6 (some .boolean), Cond.methodLink RX0 71 yX0_turn, Cond.instanceMethod yX0_turn, Cond.selects RX0 yX0_turn yX0_turn, Cond.code yX0_turn cX0_turn 4 (some .long), Cond.methodLink RX0 79 yX0_xOf, Cond.instanceMethod yX0_xOf, Cond.selects RX0 yX0_xOf yX0_xOf, Cond.code yX0_xOf cX0_xOf 2 (some .long), Cond.fieldLink RX0 9 "SiteTriangles" "siteX" "[I", Cond.methodLink RX0 83 yX0_yOf, Cond.instanceMethod yX0_yOf, Cond.selects RX0 yX0_yOf yX0_yOf]
def wsX0_findRing_r2 : List Cond := [Cond.code yX0_yOf cX0_yOf 2 (some .long), Cond.fieldLink RX0 13 "SiteTriangles" "siteY" "[I", Cond.methodLink RX0 176 yX0_dot, Cond.instanceMethod yX0_dot, Cond.selects RX0 yX0_dot yX0_dot, Cond.code yX0_dot cX0_dot 4 (some .long)]
def wsX0_findRing : List Cond := .code yX0_findRing cX0_findRing 5 none :: ((wsX0_findRing_r1 ++ wsX0_findRing_r2) ++ wsX00)
def wsX0_hasEdge : List Cond := .code yX0_hasEdge cX0_hasEdge 3 (some .boolean) :: ([.fieldLink RX0 26 "SiteTriangles" "neighbours" "[I", .methodLink RX0 93 yX0_isSite, .instanceMethod yX0_isSite, .selects RX0 yX0_isSite yX0_isSite, .initialized RX0, .code yX0_isSite cX0_isSite 2 (some .boolean), .fieldLink RX0 16 "SiteTriangles" "siteCount" "I"] ++ wsX00)
def wsX0_takeEdge : List Cond := .code yX0_takeEdge cX0_takeEdge 6 none :: ([.fieldLink RX0 38 "SiteTriangles" "treeCount" "I", .fieldLink RX0 35 "SiteTriangles" "packedTree" "[I", .fieldLink RX0 41 "SiteTriangles" "treeLength" "J", .fieldLink RX0 45 "SiteTriangles" "group" "[I", .fieldLink RX0 16 "SiteTriangles" "siteCount" "I", .methodLink RX0 93 yX0_isSite, .instanceMethod yX0_isSite, .selects RX0 yX0_isSite yX0_isSite, .initialized RX0, .code yX0_isSite cX0_isSite 2 (some .boolean), .methodLink RX0 75 yX0_gap, .instanceMethod yX0_gap, .selects RX0 yX0_gap yX0_gap, .code yX0_gap cX0_gap 7 (some .long), .methodLink RX0 79 yX0_xOf, .instanceMethod yX0_xOf, .selects RX0 yX0_xOf yX0_xOf, .code yX0_xOf cX0_xOf 2 (some .long), .fieldLink RX0 9 "SiteTriangles" "siteX" "[I", .methodLink RX0 83 yX0_yOf, .instanceMethod yX0_yOf, .selects RX0 yX0_yOf yX0_yOf, .code yX0_yOf cX0_yOf 2 (some .long), .fieldLink RX0 13 "SiteTriangles" "siteY" "[I"] ++ wsX00)
def wsX0_takeNextEdge_r1 : List Cond := [Cond.fieldLink RX0 16 "SiteTriangles" "siteCount" "I", Cond.fieldLink RX0 45 "SiteTriangles" "group" "[I", Cond.methodLink RX0 90 yX0_hasEdge, Cond.instanceMethod yX0_hasEdge, Cond.selects RX0 yX0_hasEdge yX0_hasEdge, Cond.initialized RX0, Cond.code yX0_hasEdge cX0_hasEdge 3 (some .boolean), Cond.fieldLink RX0 26 "SiteTriangles" "neighbours" "[I", Cond.methodLink RX0 93 yX0_isSite, Cond.instanceMethod yX0_isSite, Cond.selects RX0 yX0_isSite yX0_isSite, Cond.code yX0_isSite cX0_isSite 2 (some .boolean), Cond.methodLink RX0 75 yX0_gap, Cond.instanceMethod yX0_gap, Cond.selects RX0 yX0_gap yX0_gap, Cond.code yX0_gap cX0_gap 7 (some .long), Cond.methodLink RX0 79 yX0_xOf, Cond.instanceMethod yX0_xOf, Cond.selects RX0 yX0_xOf yX0_xOf, Cond.code yX0_xOf cX0_xOf 2 (some .long), Cond.fieldLink RX0 9 "SiteTriangles" "siteX" "[I", Cond.methodLink RX0 83 yX0_yOf, Cond.instanceMethod yX0_yOf, Cond.selects RX0 yX0_yOf yX0_yOf]
def wsX0_takeNextEdge_r2 : List Cond := [Cond.code yX0_yOf cX0_yOf 2 (some .long), Cond.fieldLink RX0 13 "SiteTriangles" "siteY" "[I", Cond.methodLink RX0 188 yX0_takeEdge, Cond.instanceMethod yX0_takeEdge, Cond.selects RX0 yX0_takeEdge yX0_takeEdge, Cond.code yX0_takeEdge cX0_takeEdge 6 none, Cond.fieldLink RX0 38 "SiteTriangles" "treeCount" "I", Cond.fieldLink RX0 35 "SiteTriangles" "packedTree" "[I", Cond.fieldLink RX0 41 "SiteTriangles" "treeLength" "J"]
def wsX0_takeNextEdge : List Cond := .code yX0_takeNextEdge cX0_takeNextEdge 7 none :: ((wsX0_takeNextEdge_r1 ++ wsX0_takeNextEdge_r2) ++ wsX00)
def wsX0_growTree_r1 : List Cond := [Cond.fieldLink RX0 38 "SiteTriangles" "treeCount" "I", Cond.fieldLink RX0 41 "SiteTriangles" "treeLength" "J", Cond.fieldLink RX0 16 "SiteTriangles" "siteCount" "I", Cond.fieldLink RX0 45 "SiteTriangles" "group" "[I", Cond.methodLink RX0 185 yX0_takeNextEdge, Cond.instanceMethod yX0_takeNextEdge, Cond.selects RX0 yX0_takeNextEdge yX0_takeNextEdge, Cond.initialized RX0, Cond.code yX0_takeNextEdge cX0_takeNextEdge 7 none, Cond.methodLink RX0 90 yX0_hasEdge, Cond.instanceMethod yX0_hasEdge, Cond.selects RX0 yX0_hasEdge yX0_hasEdge, Cond.code yX0_hasEdge cX0_hasEdge 3 (some .boolean), Cond.fieldLink RX0 26 "SiteTriangles" "neighbours" "[I", Cond.methodLink RX0 93 yX0_isSite, Cond.instanceMethod yX0_isSite, Cond.selects RX0 yX0_isSite yX0_isSite, Cond.code yX0_isSite cX0_isSite 2 (some .boolean), Cond.methodLink RX0 75 yX0_gap, Cond.instanceMethod yX0_gap, Cond.selects RX0 yX0_gap yX0_gap, Cond.code yX0_gap cX0_gap 7 (some .long), Cond.methodLink RX0 79 yX0_xOf, Cond.instanceMethod yX0_xOf]
def wsX0_growTree_r2 : List Cond := [Cond.selects RX0 yX0_xOf yX0_xOf, Cond.code yX0_xOf cX0_xOf 2 (some .long), Cond.fieldLink RX0 9 "SiteTriangles" "siteX" "[I", Cond.methodLink RX0 83 yX0_yOf, Cond.instanceMethod yX0_yOf, Cond.selects RX0 yX0_yOf yX0_yOf, Cond.code yX0_yOf cX0_yOf 2 (some .long), Cond.fieldLink RX0 13 "SiteTriangles" "siteY" "[I", Cond.methodLink RX0 188 yX0_takeEdge, Cond.instanceMethod yX0_takeEdge, Cond.selects RX0 yX0_takeEdge yX0_takeEdge, Cond.code yX0_takeEdge cX0_takeEdge 6 none, Cond.fieldLink RX0 35 "SiteTriangles" "packedTree" "[I"]
def wsX0_growTree : List Cond := .code yX0_growTree cX0_growTree 2 none :: ((wsX0_growTree_r1 ++ wsX0_growTree_r2) ++ wsX00)
def wsX0_rebuild_r1 : List Cond := [Cond.methodLink RX0 135 yX0_findTriangles, Cond.instanceMethod yX0_findTriangles, Cond.selects RX0 yX0_findTriangles yX0_findTriangles, Cond.initialized RX0, Cond.code yX0_findTriangles cX0_findTriangles 4 none, Cond.fieldLink RX0 23 "SiteTriangles" "triangleCount" "I", Cond.fieldLink RX0 16 "SiteTriangles" "siteCount" "I", Cond.methodLink RX0 152 yX0_isDueTriangle, Cond.instanceMethod yX0_isDueTriangle, Cond.selects RX0 yX0_isDueTriangle yX0_isDueTriangle, Cond.code yX0_isDueTriangle cX0_isDueTriangle 9 (some .boolean), Cond.methodLink RX0 71 yX0_turn, Cond.instanceMethod yX0_turn, Cond.selects RX0 yX0_turn yX0_turn, Cond.code yX0_turn cX0_turn 4 (some .long), Cond.methodLink RX0 79 yX0_xOf, Cond.instanceMethod yX0_xOf, Cond.selects RX0 yX0_xOf yX0_xOf, Cond.code yX0_xOf cX0_xOf 2 (some .long), Cond.fieldLink RX0 9 "SiteTriangles" "siteX" "[I", Cond.methodLink RX0 83 yX0_yOf, Cond.instanceMethod yX0_yOf, Cond.selects RX0 yX0_yOf yX0_yOf, Cond.code yX0_yOf cX0_yOf 2 (some .long)]
def wsX0_rebuild_r2 : List Cond := [Cond.fieldLink RX0 13 "SiteTriangles" "siteY" "[I", Cond.methodLink RX0 160 yX0_circleSide, Cond.instanceMethod yX0_circleSide, Cond.selects RX0 yX0_circleSide yX0_circleSide, Cond.code yX0_circleSide cX0_circleSide 21 (some .int), Cond.constantLong RX0 164 (1048575), Cond.methodLink RX0 75 yX0_gap, Cond.instanceMethod yX0_gap, Cond.selects RX0 yX0_gap yX0_gap, Cond.code yX0_gap cX0_gap 7 (some .long), Cond.methodLink RX0 156 yX0_keepTriangle, Cond.instanceMethod yX0_keepTriangle, Cond.selects RX0 yX0_keepTriangle yX0_keepTriangle, Cond.code yX0_keepTriangle cX0_keepTriangle 4 none, Cond.fieldLink RX0 20 "SiteTriangles" "packedTriangles" "[I", Cond.methodLink RX0 138 yX0_findEdges, Cond.instanceMethod yX0_findEdges, Cond.selects RX0 yX0_findEdges yX0_findEdges, Cond.code yX0_findEdges cX0_findEdges 5 none, Cond.fieldLink RX0 26 "SiteTriangles" "neighbours" "[I", Cond.methodLink RX0 62 yX0_triangleCorner, Cond.instanceMethod yX0_triangleCorner, Cond.selects RX0 yX0_triangleCorner yX0_triangleCorner, Cond.code yX0_triangleCorner cX0_triangleCorner 3 (some .int)]
def wsX0_rebuild_r3 : List Cond := [Cond.methodLink RX0 59 yX0_isTriangle, Cond.instanceMethod yX0_isTriangle, Cond.selects RX0 yX0_isTriangle yX0_isTriangle, Cond.code yX0_isTriangle cX0_isTriangle 2 (some .boolean), Cond.methodLink RX0 166 yX0_join, Cond.instanceMethod yX0_join, Cond.selects RX0 yX0_join yX0_join, Cond.code yX0_join cX0_join 3 none, Cond.methodLink RX0 93 yX0_isSite, Cond.instanceMethod yX0_isSite, Cond.selects RX0 yX0_isSite yX0_isSite, Cond.code yX0_isSite cX0_isSite 2 (some .boolean), Cond.methodLink RX0 170 yX0_joinAlongLine, Cond.instanceMethod yX0_joinAlongLine, Cond.selects RX0 yX0_joinAlongLine yX0_joinAlongLine, Cond.code yX0_joinAlongLine cX0_joinAlongLine 3 none, Cond.methodLink RX0 173 yX0_isWayFree, Cond.instanceMethod yX0_isWayFree, Cond.selects RX0 yX0_isWayFree yX0_isWayFree, Cond.code yX0_isWayFree cX0_isWayFree 4 (some .boolean), Cond.methodLink RX0 176 yX0_dot, Cond.instanceMethod yX0_dot, Cond.selects RX0 yX0_dot yX0_dot, Cond.code yX0_dot cX0_dot 4 (some .long)]
def wsX0_rebuild_r4 : List Cond := [Cond.methodLink RX0 141 yX0_leastCorner, Cond.instanceMethod yX0_leastCorner, Cond.selects RX0 yX0_leastCorner yX0_leastCorner, Cond.code yX0_leastCorner cX0_leastCorner 2 (some .int), Cond.methodLink RX0 179 yX0_nextCorner, Cond.instanceMethod yX0_nextCorner, Cond.selects RX0 yX0_nextCorner yX0_nextCorner, Cond.code yX0_nextCorner cX0_nextCorner 3 (some .int), Cond.methodLink RX0 182 yX0_isRingSide, Cond.instanceMethod yX0_isRingSide, Cond.selects RX0 yX0_isRingSide yX0_isRingSide, Cond.code yX0_isRingSide cX0_isRingSide 6 (some .boolean), Cond.methodLink RX0 145 yX0_findRing, Cond.instanceMethod yX0_findRing, Cond.selects RX0 yX0_findRing yX0_findRing, Cond.code yX0_findRing cX0_findRing 5 none, Cond.fieldLink RX0 32 "SiteTriangles" "ringCount" "I", Cond.fieldLink RX0 29 "SiteTriangles" "ring" "[I", Cond.methodLink RX0 149 yX0_growTree, Cond.instanceMethod yX0_growTree, Cond.selects RX0 yX0_growTree yX0_growTree, Cond.code yX0_growTree cX0_growTree 2 none, Cond.fieldLink RX0 38 "SiteTriangles" "treeCount" "I", Cond.fieldLink RX0 41 "SiteTriangles" "treeLength" "J"]
def wsX0_rebuild_r5 : List Cond := [Cond.fieldLink RX0 45 "SiteTriangles" "group" "[I", Cond.methodLink RX0 185 yX0_takeNextEdge, Cond.instanceMethod yX0_takeNextEdge, Cond.selects RX0 yX0_takeNextEdge yX0_takeNextEdge, Cond.code yX0_takeNextEdge cX0_takeNextEdge 7 none, Cond.methodLink RX0 90 yX0_hasEdge, Cond.instanceMethod yX0_hasEdge, Cond.selects RX0 yX0_hasEdge yX0_hasEdge, Cond.code yX0_hasEdge cX0_hasEdge 3 (some .boolean), Cond.methodLink RX0 188 yX0_takeEdge, Cond.instanceMethod yX0_takeEdge, Cond.selects RX0 yX0_takeEdge yX0_takeEdge, Cond.code yX0_takeEdge cX0_takeEdge 6 none, Cond.fieldLink RX0 35 "SiteTriangles" "packedTree" "[I"]
def wsX0_rebuild : List Cond := .code yX0_rebuild cX0_rebuild 1 none :: ((wsX0_rebuild_r1 ++ (wsX0_rebuild_r2 ++ (wsX0_rebuild_r3 ++ (wsX0_rebuild_r4 ++ wsX0_rebuild_r5)))) ++ wsX00)
def wsX0_add_r1 : List Cond := [Cond.fieldLink RX0 16 "SiteTriangles" "siteCount" "I", Cond.fieldLink RX0 9 "SiteTriangles" "siteX" "[I", Cond.fieldLink RX0 13 "SiteTriangles" "siteY" "[I", Cond.methodLink RX0 48 yX0_isTooFar, Cond.static yX0_isTooFar, Cond.initialized RX0, Cond.code yX0_isTooFar cX0_isTooFar 1 (some .boolean), Cond.methodLink RX0 52 yX0_siteAt, Cond.instanceMethod yX0_siteAt, Cond.selects RX0 yX0_siteAt yX0_siteAt, Cond.code yX0_siteAt cX0_siteAt 4 (some .int), Cond.methodLink RX0 56 yX0_rebuild, Cond.instanceMethod yX0_rebuild, Cond.selects RX0 yX0_rebuild yX0_rebuild, Cond.code yX0_rebuild cX0_rebuild 1 none, Cond.methodLink RX0 135 yX0_findTriangles, Cond.instanceMethod yX0_findTriangles, Cond.selects RX0 yX0_findTriangles yX0_findTriangles, Cond.code yX0_findTriangles cX0_findTriangles 4 none, Cond.fieldLink RX0 23 "SiteTriangles" "triangleCount" "I", Cond.methodLink RX0 152 yX0_isDueTriangle, Cond.instanceMethod yX0_isDueTriangle, Cond.selects RX0 yX0_isDueTriangle yX0_isDueTriangle, Cond.code yX0_isDueTriangle cX0_isDueTriangle 9 (some .boolean)]
def wsX0_add_r2 : List Cond := [Cond.methodLink RX0 71 yX0_turn, Cond.instanceMethod yX0_turn, Cond.selects RX0 yX0_turn yX0_turn, Cond.code yX0_turn cX0_turn 4 (some .long), Cond.methodLink RX0 79 yX0_xOf, Cond.instanceMethod yX0_xOf, Cond.selects RX0 yX0_xOf yX0_xOf, Cond.code yX0_xOf cX0_xOf 2 (some .long), Cond.methodLink RX0 83 yX0_yOf, Cond.instanceMethod yX0_yOf, Cond.selects RX0 yX0_yOf yX0_yOf, Cond.code yX0_yOf cX0_yOf 2 (some .long), Cond.methodLink RX0 160 yX0_circleSide, Cond.instanceMethod yX0_circleSide, Cond.selects RX0 yX0_circleSide yX0_circleSide, Cond.code yX0_circleSide cX0_circleSide 21 (some .int), Cond.constantLong RX0 164 (1048575), Cond.methodLink RX0 75 yX0_gap, Cond.instanceMethod yX0_gap, Cond.selects RX0 yX0_gap yX0_gap, Cond.code yX0_gap cX0_gap 7 (some .long), Cond.methodLink RX0 156 yX0_keepTriangle, Cond.instanceMethod yX0_keepTriangle, Cond.selects RX0 yX0_keepTriangle yX0_keepTriangle]
def wsX0_add_r3 : List Cond := [Cond.code yX0_keepTriangle cX0_keepTriangle 4 none, Cond.fieldLink RX0 20 "SiteTriangles" "packedTriangles" "[I", Cond.methodLink RX0 138 yX0_findEdges, Cond.instanceMethod yX0_findEdges, Cond.selects RX0 yX0_findEdges yX0_findEdges, Cond.code yX0_findEdges cX0_findEdges 5 none, Cond.fieldLink RX0 26 "SiteTriangles" "neighbours" "[I", Cond.methodLink RX0 62 yX0_triangleCorner, Cond.instanceMethod yX0_triangleCorner, Cond.selects RX0 yX0_triangleCorner yX0_triangleCorner, Cond.code yX0_triangleCorner cX0_triangleCorner 3 (some .int), Cond.methodLink RX0 59 yX0_isTriangle, Cond.instanceMethod yX0_isTriangle, Cond.selects RX0 yX0_isTriangle yX0_isTriangle, Cond.code yX0_isTriangle cX0_isTriangle 2 (some .boolean), Cond.methodLink RX0 166 yX0_join, Cond.instanceMethod yX0_join, Cond.selects RX0 yX0_join yX0_join, Cond.code yX0_join cX0_join 3 none, Cond.methodLink RX0 93 yX0_isSite, Cond.instanceMethod yX0_isSite, Cond.selects RX0 yX0_isSite yX0_isSite, Cond.code yX0_isSite cX0_isSite 2 (some .boolean), Cond.methodLink RX0 170 yX0_joinAlongLine]
def wsX0_add_r4 : List Cond := [Cond.instanceMethod yX0_joinAlongLine, Cond.selects RX0 yX0_joinAlongLine yX0_joinAlongLine, Cond.code yX0_joinAlongLine cX0_joinAlongLine 3 none, Cond.methodLink RX0 173 yX0_isWayFree, Cond.instanceMethod yX0_isWayFree, Cond.selects RX0 yX0_isWayFree yX0_isWayFree, Cond.code yX0_isWayFree cX0_isWayFree 4 (some .boolean), Cond.methodLink RX0 176 yX0_dot, Cond.instanceMethod yX0_dot, Cond.selects RX0 yX0_dot yX0_dot, Cond.code yX0_dot cX0_dot 4 (some .long), Cond.methodLink RX0 141 yX0_leastCorner, Cond.instanceMethod yX0_leastCorner, Cond.selects RX0 yX0_leastCorner yX0_leastCorner, Cond.code yX0_leastCorner cX0_leastCorner 2 (some .int), Cond.methodLink RX0 179 yX0_nextCorner, Cond.instanceMethod yX0_nextCorner, Cond.selects RX0 yX0_nextCorner yX0_nextCorner, Cond.code yX0_nextCorner cX0_nextCorner 3 (some .int), Cond.methodLink RX0 182 yX0_isRingSide, Cond.instanceMethod yX0_isRingSide, Cond.selects RX0 yX0_isRingSide yX0_isRingSide, Cond.code yX0_isRingSide cX0_isRingSide 6 (some .boolean), Cond.methodLink RX0 145 yX0_findRing]
def wsX0_add_r5 : List Cond := [Cond.instanceMethod yX0_findRing, Cond.selects RX0 yX0_findRing yX0_findRing, Cond.code yX0_findRing cX0_findRing 5 none, Cond.fieldLink RX0 32 "SiteTriangles" "ringCount" "I", Cond.fieldLink RX0 29 "SiteTriangles" "ring" "[I", Cond.methodLink RX0 149 yX0_growTree, Cond.instanceMethod yX0_growTree, Cond.selects RX0 yX0_growTree yX0_growTree, Cond.code yX0_growTree cX0_growTree 2 none, Cond.fieldLink RX0 38 "SiteTriangles" "treeCount" "I", Cond.fieldLink RX0 41 "SiteTriangles" "treeLength" "J", Cond.fieldLink RX0 45 "SiteTriangles" "group" "[I", Cond.methodLink RX0 185 yX0_takeNextEdge, Cond.instanceMethod yX0_takeNextEdge, Cond.selects RX0 yX0_takeNextEdge yX0_takeNextEdge, Cond.code yX0_takeNextEdge cX0_takeNextEdge 7 none, Cond.methodLink RX0 90 yX0_hasEdge, Cond.instanceMethod yX0_hasEdge, Cond.selects RX0 yX0_hasEdge yX0_hasEdge, Cond.code yX0_hasEdge cX0_hasEdge 3 (some .boolean), Cond.methodLink RX0 188 yX0_takeEdge, Cond.instanceMethod yX0_takeEdge, Cond.selects RX0 yX0_takeEdge yX0_takeEdge, Cond.code yX0_takeEdge cX0_takeEdge 6 none]
def wsX0_add_r6 : List Cond := [Cond.fieldLink RX0 35 "SiteTriangles" "packedTree" "[I"]
def wsX0_add : List Cond := .code yX0_add cX0_add 5 (some .int) :: ((wsX0_add_r1 ++ (wsX0_add_r2 ++ (wsX0_add_r3 ++ (wsX0_add_r4 ++ (wsX0_add_r5 ++ wsX0_add_r6))))) ++ wsX00)
def wsX0_sites : List Cond := .code yX0_sites cX0_sites 1 (some .int) :: ([.fieldLink RX0 16 "SiteTriangles" "siteCount" "I"] ++ wsX00)
def wsX0_triangles : List Cond := .code yX0_triangles cX0_triangles 1 (some .int) :: ([.fieldLink RX0 23 "SiteTriangles" "triangleCount" "I"] ++ wsX00)
def wsX0_triangle : List Cond := .code yX0_triangle cX0_triangle 2 (some .int) :: ([.fieldLink RX0 20 "SiteTriangles" "packedTriangles" "[I", .methodLink RX0 59 yX0_isTriangle, .instanceMethod yX0_isTriangle, .selects RX0 yX0_isTriangle yX0_isTriangle, .initialized RX0, .code yX0_isTriangle cX0_isTriangle 2 (some .boolean), .fieldLink RX0 23 "SiteTriangles" "triangleCount" "I"] ++ wsX00)
def wsX0_hasCorner : List Cond := .code yX0_hasCorner cX0_hasCorner 3 (some .boolean) :: ([.methodLink RX0 62 yX0_triangleCorner, .instanceMethod yX0_triangleCorner, .selects RX0 yX0_triangleCorner yX0_triangleCorner, .initialized RX0, .code yX0_triangleCorner cX0_triangleCorner 3 (some .int), .fieldLink RX0 20 "SiteTriangles" "packedTriangles" "[I", .methodLink RX0 59 yX0_isTriangle, .instanceMethod yX0_isTriangle, .selects RX0 yX0_isTriangle yX0_isTriangle, .code yX0_isTriangle cX0_isTriangle 2 (some .boolean), .fieldLink RX0 23 "SiteTriangles" "triangleCount" "I"] ++ wsX00)
def wsX0_beyond : List Cond := .code yX0_beyond cX0_beyond 6 (some .int) :: ([.fieldLink RX0 23 "SiteTriangles" "triangleCount" "I", .methodLink RX0 59 yX0_isTriangle, .instanceMethod yX0_isTriangle, .selects RX0 yX0_isTriangle yX0_isTriangle, .initialized RX0, .code yX0_isTriangle cX0_isTriangle 2 (some .boolean), .methodLink RX0 62 yX0_triangleCorner, .instanceMethod yX0_triangleCorner, .selects RX0 yX0_triangleCorner yX0_triangleCorner, .code yX0_triangleCorner cX0_triangleCorner 3 (some .int), .fieldLink RX0 20 "SiteTriangles" "packedTriangles" "[I", .methodLink RX0 65 yX0_hasCorner, .instanceMethod yX0_hasCorner, .selects RX0 yX0_hasCorner yX0_hasCorner, .code yX0_hasCorner cX0_hasCorner 3 (some .boolean)] ++ wsX00)
def wsX0_commonDivisor : List Cond := .code yX0_commonDivisor cX0_commonDivisor 11 (some .long) :: ([.methodLink RX0 125 Lib.MathLoose.abs_long.x, .static Lib.MathLoose.abs_long.x, .initialized "java/lang/Math", .code Lib.MathLoose.abs_long.x Lib.MathLoose.abs_long.code 2 (some .long)])
def wsX0_centre_r1 : List Cond := [Cond.constantLong RX0 69 (2), Cond.methodLink RX0 59 yX0_isTriangle, Cond.instanceMethod yX0_isTriangle, Cond.selects RX0 yX0_isTriangle yX0_isTriangle, Cond.initialized RX0, Cond.code yX0_isTriangle cX0_isTriangle 2 (some .boolean), Cond.fieldLink RX0 23 "SiteTriangles" "triangleCount" "I", Cond.methodLink RX0 62 yX0_triangleCorner, Cond.instanceMethod yX0_triangleCorner, Cond.selects RX0 yX0_triangleCorner yX0_triangleCorner, Cond.code yX0_triangleCorner cX0_triangleCorner 3 (some .int), Cond.fieldLink RX0 20 "SiteTriangles" "packedTriangles" "[I", Cond.methodLink RX0 71 yX0_turn, Cond.instanceMethod yX0_turn, Cond.selects RX0 yX0_turn yX0_turn, Cond.code yX0_turn cX0_turn 4 (some .long), Cond.methodLink RX0 79 yX0_xOf, Cond.instanceMethod yX0_xOf, Cond.selects RX0 yX0_xOf yX0_xOf, Cond.code yX0_xOf cX0_xOf 2 (some .long), Cond.fieldLink RX0 16 "SiteTriangles" "siteCount" "I", Cond.fieldLink RX0 9 "SiteTriangles" "siteX" "[I", Cond.methodLink RX0 83 yX0_yOf, Cond.instanceMethod yX0_yOf]
def wsX0_centre_r2 : List Cond := [Cond.selects RX0 yX0_yOf yX0_yOf, Cond.code yX0_yOf cX0_yOf 2 (some .long), Cond.fieldLink RX0 13 "SiteTriangles" "siteY" "[I", Cond.methodLink RX0 75 yX0_gap, Cond.instanceMethod yX0_gap, Cond.selects RX0 yX0_gap yX0_gap, Cond.code yX0_gap cX0_gap 7 (some .long), Cond.methodLink RX0 86 yX0_commonDivisor, Cond.static yX0_commonDivisor, Cond.code yX0_commonDivisor cX0_commonDivisor 11 (some .long), Cond.methodLink RX0 125 Lib.MathLoose.abs_long.x, Cond.static Lib.MathLoose.abs_long.x, Cond.initialized "java/lang/Math", Cond.code Lib.MathLoose.abs_long.x Lib.MathLoose.abs_long.code 2 (some .long)]
def wsX0_centre : List Cond := .code yX0_centre cX0_centre 20 (some .long) :: ((wsX0_centre_r1 ++ wsX0_centre_r2) ++ wsX00)
def wsX0_joined : List Cond := .code yX0_joined cX0_joined 3 (some .boolean) :: ([.methodLink RX0 90 yX0_hasEdge, .instanceMethod yX0_hasEdge, .selects RX0 yX0_hasEdge yX0_hasEdge, .initialized RX0, .code yX0_hasEdge cX0_hasEdge 3 (some .boolean), .fieldLink RX0 26 "SiteTriangles" "neighbours" "[I", .methodLink RX0 93 yX0_isSite, .instanceMethod yX0_isSite, .selects RX0 yX0_isSite yX0_isSite, .code yX0_isSite cX0_isSite 2 (some .boolean), .fieldLink RX0 16 "SiteTriangles" "siteCount" "I"] ++ wsX00)
def wsJ6_bitCount_0f7a4 : List Cond := .code yJ6_bitCount_0f7a4 cJ6_bitCount_0f7a4 1 (some .int) :: ([.constant RJ6 265 (1431655765), .constant RJ6 266 (858993459), .constant RJ6 267 (252645135)])
def wsX0_degree : List Cond := .code yX0_degree cX0_degree 2 (some .int) :: ([.fieldLink RX0 26 "SiteTriangles" "neighbours" "[I", .methodLink RX0 93 yX0_isSite, .instanceMethod yX0_isSite, .selects RX0 yX0_isSite yX0_isSite, .initialized RX0, .code yX0_isSite cX0_isSite 2 (some .boolean), .fieldLink RX0 16 "SiteTriangles" "siteCount" "I", .methodLink RX0 96 yJ6_bitCount_0f7a4, .static yJ6_bitCount_0f7a4, .initialized RJ6, .code yJ6_bitCount_0f7a4 cJ6_bitCount_0f7a4 1 (some .int), .constant RJ6 265 (1431655765), .constant RJ6 266 (858993459), .constant RJ6 267 (252645135)] ++ wsX00)
def wsX0_corners : List Cond := .code yX0_corners cX0_corners 1 (some .int) :: ([.fieldLink RX0 32 "SiteTriangles" "ringCount" "I"] ++ wsX00)
def wsX0_corner : List Cond := .code yX0_corner cX0_corner 2 (some .int) :: ([.fieldLink RX0 32 "SiteTriangles" "ringCount" "I", .fieldLink RX0 29 "SiteTriangles" "ring" "[I"] ++ wsX00)
def wsX0_isRefused : List Cond := .code yX0_isRefused cX0_isRefused 5 (some .boolean) :: ([.constantDouble RX0 121 (13899102408576860160), .constantDouble RX0 123 (4675730371722084352)])
def wsX0_gapToPoint : List Cond := .code yX0_gapToPoint cX0_gapToPoint 10 (some .double) :: ([.methodLink RX0 79 yX0_xOf, .instanceMethod yX0_xOf, .selects RX0 yX0_xOf yX0_xOf, .initialized RX0, .code yX0_xOf cX0_xOf 2 (some .long), .fieldLink RX0 16 "SiteTriangles" "siteCount" "I", .fieldLink RX0 9 "SiteTriangles" "siteX" "[I", .methodLink RX0 83 yX0_yOf, .instanceMethod yX0_yOf, .selects RX0 yX0_yOf yX0_yOf, .code yX0_yOf cX0_yOf 2 (some .long), .fieldLink RX0 13 "SiteTriangles" "siteY" "[I"] ++ wsX00)
def wsX0_nearest : List Cond := .code yX0_nearest cX0_nearest 11 (some .int) :: ([.fieldLink RX0 16 "SiteTriangles" "siteCount" "I", .methodLink RX0 102 yX0_isRefused, .static yX0_isRefused, .initialized RX0, .code yX0_isRefused cX0_isRefused 5 (some .boolean), .constantDouble RX0 121 (13899102408576860160), .constantDouble RX0 123 (4675730371722084352), .methodLink RX0 106 yX0_gapToPoint, .instanceMethod yX0_gapToPoint, .selects RX0 yX0_gapToPoint yX0_gapToPoint, .code yX0_gapToPoint cX0_gapToPoint 10 (some .double), .methodLink RX0 79 yX0_xOf, .instanceMethod yX0_xOf, .selects RX0 yX0_xOf yX0_xOf, .code yX0_xOf cX0_xOf 2 (some .long), .fieldLink RX0 9 "SiteTriangles" "siteX" "[I", .methodLink RX0 83 yX0_yOf, .instanceMethod yX0_yOf, .selects RX0 yX0_yOf yX0_yOf, .code yX0_yOf cX0_yOf 2 (some .long), .fieldLink RX0 13 "SiteTriangles" "siteY" "[I"] ++ wsX00)
def wsX0_turnToPoint : List Cond := .code yX0_turnToPoint cX0_turnToPoint 7 (some .double) :: ([.methodLink RX0 79 yX0_xOf, .instanceMethod yX0_xOf, .selects RX0 yX0_xOf yX0_xOf, .initialized RX0, .code yX0_xOf cX0_xOf 2 (some .long), .fieldLink RX0 16 "SiteTriangles" "siteCount" "I", .fieldLink RX0 9 "SiteTriangles" "siteX" "[I", .methodLink RX0 83 yX0_yOf, .instanceMethod yX0_yOf, .selects RX0 yX0_yOf yX0_yOf, .code yX0_yOf cX0_yOf 2 (some .long), .fieldLink RX0 13 "SiteTriangles" "siteY" "[I"] ++ wsX00)
def wsX0_holds_r1 : List Cond := [Cond.methodLink RX0 62 yX0_triangleCorner, Cond.instanceMethod yX0_triangleCorner, Cond.selects RX0 yX0_triangleCorner yX0_triangleCorner, Cond.initialized RX0, Cond.code yX0_triangleCorner cX0_triangleCorner 3 (some .int), Cond.fieldLink RX0 20 "SiteTriangles" "packedTriangles" "[I", Cond.methodLink RX0 59 yX0_isTriangle, Cond.instanceMethod yX0_isTriangle, Cond.selects RX0 yX0_isTriangle yX0_isTriangle, Cond.code yX0_isTriangle cX0_isTriangle 2 (some .boolean), Cond.fieldLink RX0 23 "SiteTriangles" "triangleCount" "I", Cond.methodLink RX0 131 yX0_turnToPoint, Cond.instanceMethod yX0_turnToPoint, Cond.selects RX0 yX0_turnToPoint yX0_turnToPoint, Cond.code yX0_turnToPoint cX0_turnToPoint 7 (some .double), Cond.methodLink RX0 79 yX0_xOf, Cond.instanceMethod yX0_xOf, Cond.selects RX0 yX0_xOf yX0_xOf, Cond.code yX0_xOf cX0_xOf 2 (some .long), Cond.fieldLink RX0 16 "SiteTriangles" "siteCount" "I", Cond.fieldLink RX0 9 "SiteTriangles" "siteX" "[I", Cond.methodLink RX0 83 yX0_yOf, Cond.instanceMethod yX0_yOf, Cond.selects RX0 yX0_yOf yX0_yOf]
def wsX0_holds_r2 : List Cond := [Cond.code yX0_yOf cX0_yOf 2 (some .long), Cond.fieldLink RX0 13 "SiteTriangles" "siteY" "[I"]
def wsX0_holds : List Cond := .code yX0_holds cX0_holds 17 (some .boolean) :: ((wsX0_holds_r1 ++ wsX0_holds_r2) ++ wsX00)
def wsX0_holder_r1 : List Cond := [Cond.fieldLink RX0 23 "SiteTriangles" "triangleCount" "I", Cond.methodLink RX0 102 yX0_isRefused, Cond.static yX0_isRefused, Cond.initialized RX0, Cond.code yX0_isRefused cX0_isRefused 5 (some .boolean), Cond.constantDouble RX0 121 (13899102408576860160), Cond.constantDouble RX0 123 (4675730371722084352), Cond.methodLink RX0 110 yX0_holds, Cond.instanceMethod yX0_holds, Cond.selects RX0 yX0_holds yX0_holds, Cond.code yX0_holds cX0_holds 17 (some .boolean), Cond.methodLink RX0 62 yX0_triangleCorner, Cond.instanceMethod yX0_triangleCorner, Cond.selects RX0 yX0_triangleCorner yX0_triangleCorner, Cond.code yX0_triangleCorner cX0_triangleCorner 3 (some .int), Cond.fieldLink RX0 20 "SiteTriangles" "packedTriangles" "[I", Cond.methodLink RX0 59 yX0_isTriangle, Cond.instanceMethod yX0_isTriangle, Cond.selects RX0 yX0_isTriangle yX0_isTriangle, Cond.code yX0_isTriangle cX0_isTriangle 2 (some .boolean), Cond.methodLink RX0 131 yX0_turnToPoint, Cond.instanceMethod yX0_turnToPoint, Cond.selects RX0 yX0_turnToPoint yX0_turnToPoint, Cond.code yX0_turnToPoint cX0_turnToPoint 7 (some .double)]
def wsX0_holder_r2 : List Cond := [Cond.methodLink RX0 79 yX0_xOf, Cond.instanceMethod yX0_xOf, Cond.selects RX0 yX0_xOf yX0_xOf, Cond.code yX0_xOf cX0_xOf 2 (some .long), Cond.fieldLink RX0 16 "SiteTriangles" "siteCount" "I", Cond.fieldLink RX0 9 "SiteTriangles" "siteX" "[I", Cond.methodLink RX0 83 yX0_yOf, Cond.instanceMethod yX0_yOf, Cond.selects RX0 yX0_yOf yX0_yOf, Cond.code yX0_yOf cX0_yOf 2 (some .long), Cond.fieldLink RX0 13 "SiteTriangles" "siteY" "[I"]
def wsX0_holder : List Cond := .code yX0_holder cX0_holder 6 (some .int) :: ((wsX0_holder_r1 ++ wsX0_holder_r2) ++ wsX00)
def wsX0_square_r1 : List Cond := [Cond.constantDouble RX0 114 (13835058055282163712), Cond.constantDouble RX0 116 (13830554455654793216), Cond.methodLink RX0 102 yX0_isRefused, Cond.static yX0_isRefused, Cond.initialized RX0, Cond.code yX0_isRefused cX0_isRefused 5 (some .boolean), Cond.constantDouble RX0 121 (13899102408576860160), Cond.constantDouble RX0 123 (4675730371722084352), Cond.methodLink RX0 93 yX0_isSite, Cond.instanceMethod yX0_isSite, Cond.selects RX0 yX0_isSite yX0_isSite, Cond.code yX0_isSite cX0_isSite 2 (some .boolean), Cond.fieldLink RX0 16 "SiteTriangles" "siteCount" "I", Cond.methodLink RX0 106 yX0_gapToPoint, Cond.instanceMethod yX0_gapToPoint, Cond.selects RX0 yX0_gapToPoint yX0_gapToPoint, Cond.code yX0_gapToPoint cX0_gapToPoint 10 (some .double), Cond.methodLink RX0 79 yX0_xOf, Cond.instanceMethod yX0_xOf, Cond.selects RX0 yX0_xOf yX0_xOf, Cond.code yX0_xOf cX0_xOf 2 (some .long), Cond.fieldLink RX0 9 "SiteTriangles" "siteX" "[I", Cond.methodLink RX0 83 yX0_yOf, Cond.instanceMethod yX0_yOf]
def wsX0_square_r2 : List Cond := [Cond.selects RX0 yX0_yOf yX0_yOf, Cond.code yX0_yOf cX0_yOf 2 (some .long), Cond.fieldLink RX0 13 "SiteTriangles" "siteY" "[I"]
def wsX0_square : List Cond := .code yX0_square cX0_square 6 (some .double) :: ((wsX0_square_r1 ++ wsX0_square_r2) ++ wsX00)
def wsX0_tree : List Cond := .code yX0_tree cX0_tree 2 (some .int) :: ([.fieldLink RX0 38 "SiteTriangles" "treeCount" "I", .fieldLink RX0 35 "SiteTriangles" "packedTree" "[I"] ++ wsX00)
def wsX0_total : List Cond := .code yX0_total cX0_total 1 (some .long) :: ([.fieldLink RX0 41 "SiteTriangles" "treeLength" "J"] ++ wsX00)
def wsX0_noneTurnsRight : List Cond := .code yX0_noneTurnsRight cX0_noneTurnsRight 4 (some .boolean) :: ([.fieldLink RX0 16 "SiteTriangles" "siteCount" "I", .methodLink RX0 71 yX0_turn, .instanceMethod yX0_turn, .selects RX0 yX0_turn yX0_turn, .initialized RX0, .code yX0_turn cX0_turn 4 (some .long), .methodLink RX0 79 yX0_xOf, .instanceMethod yX0_xOf, .selects RX0 yX0_xOf yX0_xOf, .code yX0_xOf cX0_xOf 2 (some .long), .fieldLink RX0 9 "SiteTriangles" "siteX" "[I", .methodLink RX0 83 yX0_yOf, .instanceMethod yX0_yOf, .selects RX0 yX0_yOf yX0_yOf, .code yX0_yOf cX0_yOf 2 (some .long), .fieldLink RX0 13 "SiteTriangles" "siteY" "[I"] ++ wsX00)
def wsX0_bounded : List Cond := .code yX0_bounded cX0_bounded 3 (some .boolean) :: ([.fieldLink RX0 16 "SiteTriangles" "siteCount" "I", .methodLink RX0 93 yX0_isSite, .instanceMethod yX0_isSite, .selects RX0 yX0_isSite yX0_isSite, .initialized RX0, .code yX0_isSite cX0_isSite 2 (some .boolean), .methodLink RX0 118 yX0_noneTurnsRight, .instanceMethod yX0_noneTurnsRight, .selects RX0 yX0_noneTurnsRight yX0_noneTurnsRight, .code yX0_noneTurnsRight cX0_noneTurnsRight 4 (some .boolean), .methodLink RX0 71 yX0_turn, .instanceMethod yX0_turn, .selects RX0 yX0_turn yX0_turn, .code yX0_turn cX0_turn 4 (some .long), .methodLink RX0 79 yX0_xOf, .instanceMethod yX0_xOf, .selects RX0 yX0_xOf yX0_xOf, .code yX0_xOf cX0_xOf 2 (some .long), .fieldLink RX0 9 "SiteTriangles" "siteX" "[I", .methodLink RX0 83 yX0_yOf, .instanceMethod yX0_yOf, .selects RX0 yX0_yOf yX0_yOf, .code yX0_yOf cX0_yOf 2 (some .long), .fieldLink RX0 13 "SiteTriangles" "siteY" "[I"] ++ wsX00)
def wsX1_init : List Cond := .code yX1_init cX1_init 1 none :: ([.methodLink RX1 1 objectInit, .instanceMethod objectInit, .code objectInit ⟨#[0xb1]⟩ 1 none, .arrayClass .long, .fieldLink RX1 7 "SiteTrianglesModel" "xs" "[J", .fieldLink RX1 13 "SiteTrianglesModel" "ys" "[J", .arrayClass .int, .fieldLink RX1 16 "SiteTrianglesModel" "least" "[I", .fieldLink RX1 20 "SiteTrianglesModel" "middle" "[I", .fieldLink RX1 23 "SiteTrianglesModel" "greatest" "[I", .fieldLink RX1 26 "SiteTrianglesModel" "corners" "[I", .fieldLink RX1 29 "SiteTrianglesModel" "lesser" "[I", .fieldLink RX1 32 "SiteTrianglesModel" "greater" "[I", .fieldLink RX1 35 "SiteTrianglesModel" "group" "[I"] ++ wsX10)
def wsX1_sign : List Cond := .code yX1_sign cX1_sign 3 (some .int) :: ([])
def wsX1_turn : List Cond := .code yX1_turn cX1_turn 4 (some .int) :: ([.fieldLink RX1 7 "SiteTrianglesModel" "xs" "[J", .fieldLink RX1 13 "SiteTrianglesModel" "ys" "[J", .methodLink RX1 38 yX1_sign, .instanceMethod yX1_sign, .selects RX1 yX1_sign yX1_sign, .initialized RX1, .code yX1_sign cX1_sign 3 (some .int)] ++ wsX10)
def wsX1_apart : List Cond := .code yX1_apart cX1_apart 3 (some .long) :: ([.fieldLink RX1 7 "SiteTrianglesModel" "xs" "[J", .fieldLink RX1 13 "SiteTrianglesModel" "ys" "[J"] ++ wsX10)
def wsX1_span : List Cond := .code yX1_span cX1_span 4 (some .long) :: ([.fieldLink RX1 7 "SiteTrianglesModel" "xs" "[J", .fieldLink RX1 13 "SiteTrianglesModel" "ys" "[J"] ++ wsX10)
def wsX1_inside : List Cond := .code yX1_inside cX1_inside 22 (some .int) :: ([.constantLong RX1 50 (65535), .methodLink RX1 42 yX1_apart, .instanceMethod yX1_apart, .selects RX1 yX1_apart yX1_apart, .initialized RX1, .code yX1_apart cX1_apart 3 (some .long), .fieldLink RX1 7 "SiteTrianglesModel" "xs" "[J", .fieldLink RX1 13 "SiteTrianglesModel" "ys" "[J", .methodLink RX1 46 yX1_span, .instanceMethod yX1_span, .selects RX1 yX1_span yX1_span, .code yX1_span cX1_span 4 (some .long), .methodLink RX1 38 yX1_sign, .instanceMethod yX1_sign, .selects RX1 yX1_sign yX1_sign, .code yX1_sign cX1_sign 3 (some .int), .methodLink RX1 52 yX1_turn, .instanceMethod yX1_turn, .selects RX1 yX1_turn yX1_turn, .code yX1_turn cX1_turn 4 (some .int)] ++ wsX10)
def wsX1_between : List Cond := .code yX1_between cX1_between 4 (some .boolean) :: ([.fieldLink RX1 7 "SiteTrianglesModel" "xs" "[J", .fieldLink RX1 13 "SiteTrianglesModel" "ys" "[J", .methodLink RX1 52 yX1_turn, .instanceMethod yX1_turn, .selects RX1 yX1_turn yX1_turn, .initialized RX1, .code yX1_turn cX1_turn 4 (some .int), .methodLink RX1 38 yX1_sign, .instanceMethod yX1_sign, .selects RX1 yX1_sign yX1_sign, .code yX1_sign cX1_sign 3 (some .int)] ++ wsX10)
def wsX1_good_r1 : List Cond := [Cond.fieldLink RX1 56 "SiteTrianglesModel" "count" "I", Cond.methodLink RX1 52 yX1_turn, Cond.instanceMethod yX1_turn, Cond.selects RX1 yX1_turn yX1_turn, Cond.initialized RX1, Cond.code yX1_turn cX1_turn 4 (some .int), Cond.fieldLink RX1 7 "SiteTrianglesModel" "xs" "[J", Cond.fieldLink RX1 13 "SiteTrianglesModel" "ys" "[J", Cond.methodLink RX1 38 yX1_sign, Cond.instanceMethod yX1_sign, Cond.selects RX1 yX1_sign yX1_sign, Cond.code yX1_sign cX1_sign 3 (some .int), Cond.methodLink RX1 60 yX1_inside, Cond.instanceMethod yX1_inside, Cond.selects RX1 yX1_inside yX1_inside, Cond.code yX1_inside cX1_inside 22 (some .int), Cond.constantLong RX1 50 (65535), Cond.methodLink RX1 42 yX1_apart, Cond.instanceMethod yX1_apart, Cond.selects RX1 yX1_apart yX1_apart, Cond.code yX1_apart cX1_apart 3 (some .long), Cond.methodLink RX1 46 yX1_span, Cond.instanceMethod yX1_span, Cond.selects RX1 yX1_span yX1_span]
def wsX1_good_r2 : List Cond := [Cond.code yX1_span cX1_span 4 (some .long)]
def wsX1_good : List Cond := .code yX1_good cX1_good 7 (some .boolean) :: ((wsX1_good_r1 ++ wsX1_good_r2) ++ wsX10)
def wsX1_makeTriangles_r1 : List Cond := [Cond.fieldLink RX1 64 "SiteTrianglesModel" "many" "I", Cond.fieldLink RX1 56 "SiteTrianglesModel" "count" "I", Cond.fieldLink RX1 16 "SiteTrianglesModel" "least" "[I", Cond.fieldLink RX1 20 "SiteTrianglesModel" "middle" "[I", Cond.fieldLink RX1 23 "SiteTrianglesModel" "greatest" "[I", Cond.methodLink RX1 67 yX1_good, Cond.instanceMethod yX1_good, Cond.selects RX1 yX1_good yX1_good, Cond.initialized RX1, Cond.code yX1_good cX1_good 7 (some .boolean), Cond.methodLink RX1 52 yX1_turn, Cond.instanceMethod yX1_turn, Cond.selects RX1 yX1_turn yX1_turn, Cond.code yX1_turn cX1_turn 4 (some .int), Cond.fieldLink RX1 7 "SiteTrianglesModel" "xs" "[J", Cond.fieldLink RX1 13 "SiteTrianglesModel" "ys" "[J", Cond.methodLink RX1 38 yX1_sign, Cond.instanceMethod yX1_sign, Cond.selects RX1 yX1_sign yX1_sign, Cond.code yX1_sign cX1_sign 3 (some .int), Cond.methodLink RX1 60 yX1_inside, Cond.instanceMethod yX1_inside, Cond.selects RX1 yX1_inside yX1_inside, Cond.code yX1_inside cX1_inside 22 (some .int)]
def wsX1_makeTriangles_r2 : List Cond := [Cond.constantLong RX1 50 (65535), Cond.methodLink RX1 42 yX1_apart, Cond.instanceMethod yX1_apart, Cond.selects RX1 yX1_apart yX1_apart, Cond.code yX1_apart cX1_apart 3 (some .long), Cond.methodLink RX1 46 yX1_span, Cond.instanceMethod yX1_span, Cond.selects RX1 yX1_span yX1_span, Cond.code yX1_span cX1_span 4 (some .long)]
def wsX1_makeTriangles : List Cond := .code yX1_makeTriangles cX1_makeTriangles 4 none :: ((wsX1_makeTriangles_r1 ++ wsX1_makeTriangles_r2) ++ wsX10)
def wsX1_isOf : List Cond := .code yX1_isOf cX1_isOf 3 (some .boolean) :: ([.fieldLink RX1 16 "SiteTrianglesModel" "least" "[I", .fieldLink RX1 20 "SiteTrianglesModel" "middle" "[I", .fieldLink RX1 23 "SiteTrianglesModel" "greatest" "[I"] ++ wsX10)
def wsX1_edge : List Cond := .code yX1_edge cX1_edge 6 (some .boolean) :: ([.fieldLink RX1 64 "SiteTrianglesModel" "many" "I", .fieldLink RX1 56 "SiteTrianglesModel" "count" "I", .methodLink RX1 71 yX1_isOf, .instanceMethod yX1_isOf, .selects RX1 yX1_isOf yX1_isOf, .initialized RX1, .code yX1_isOf cX1_isOf 3 (some .boolean), .fieldLink RX1 16 "SiteTrianglesModel" "least" "[I", .fieldLink RX1 20 "SiteTrianglesModel" "middle" "[I", .fieldLink RX1 23 "SiteTrianglesModel" "greatest" "[I", .methodLink RX1 75 yX1_between, .instanceMethod yX1_between, .selects RX1 yX1_between yX1_between, .code yX1_between cX1_between 4 (some .boolean), .fieldLink RX1 7 "SiteTrianglesModel" "xs" "[J", .fieldLink RX1 13 "SiteTrianglesModel" "ys" "[J", .methodLink RX1 52 yX1_turn, .instanceMethod yX1_turn, .selects RX1 yX1_turn yX1_turn, .code yX1_turn cX1_turn 4 (some .int), .methodLink RX1 38 yX1_sign, .instanceMethod yX1_sign, .selects RX1 yX1_sign yX1_sign, .code yX1_sign cX1_sign 3 (some .int)] ++ wsX10)
def wsX1_within : List Cond := .code yX1_within cX1_within 6 (some .boolean) :: ([.methodLink RX1 52 yX1_turn, .instanceMethod yX1_turn, .selects RX1 yX1_turn yX1_turn, .initialized RX1, .code yX1_turn cX1_turn 4 (some .int), .fieldLink RX1 7 "SiteTrianglesModel" "xs" "[J", .fieldLink RX1 13 "SiteTrianglesModel" "ys" "[J", .methodLink RX1 38 yX1_sign, .instanceMethod yX1_sign, .selects RX1 yX1_sign yX1_sign, .code yX1_sign cX1_sign 3 (some .int)] ++ wsX10)
def wsX1_isCorner : List Cond := .code yX1_isCorner cX1_isCorner 6 (some .boolean) :: ([.fieldLink RX1 56 "SiteTrianglesModel" "count" "I", .methodLink RX1 75 yX1_between, .instanceMethod yX1_between, .selects RX1 yX1_between yX1_between, .initialized RX1, .code yX1_between cX1_between 4 (some .boolean), .fieldLink RX1 7 "SiteTrianglesModel" "xs" "[J", .fieldLink RX1 13 "SiteTrianglesModel" "ys" "[J", .methodLink RX1 52 yX1_turn, .instanceMethod yX1_turn, .selects RX1 yX1_turn yX1_turn, .code yX1_turn cX1_turn 4 (some .int), .methodLink RX1 38 yX1_sign, .instanceMethod yX1_sign, .selects RX1 yX1_sign yX1_sign, .code yX1_sign cX1_sign 3 (some .int), .methodLink RX1 78 yX1_within, .instanceMethod yX1_within, .selects RX1 yX1_within yX1_within, .code yX1_within cX1_within 6 (some .boolean)] ++ wsX10)
def wsX1_following : List Cond := .code yX1_following cX1_following 6 (some .int) :: ([.fieldLink RX1 56 "SiteTrianglesModel" "count" "I", .methodLink RX1 82 yX1_isCorner, .instanceMethod yX1_isCorner, .selects RX1 yX1_isCorner yX1_isCorner, .initialized RX1, .code yX1_isCorner cX1_isCorner 6 (some .boolean), .methodLink RX1 75 yX1_between, .instanceMethod yX1_between, .selects RX1 yX1_between yX1_between, .code yX1_between cX1_between 4 (some .boolean), .fieldLink RX1 7 "SiteTrianglesModel" "xs" "[J", .fieldLink RX1 13 "SiteTrianglesModel" "ys" "[J", .methodLink RX1 52 yX1_turn, .instanceMethod yX1_turn, .selects RX1 yX1_turn yX1_turn, .code yX1_turn cX1_turn 4 (some .int), .methodLink RX1 38 yX1_sign, .instanceMethod yX1_sign, .selects RX1 yX1_sign yX1_sign, .code yX1_sign cX1_sign 3 (some .int), .methodLink RX1 78 yX1_within, .instanceMethod yX1_within, .selects RX1 yX1_within yX1_within, .code yX1_within cX1_within 6 (some .boolean)] ++ wsX10)
def wsX1_makeCorners_r1 : List Cond := [Cond.fieldLink RX1 86 "SiteTrianglesModel" "ends" "I", Cond.fieldLink RX1 26 "SiteTrianglesModel" "corners" "[I", Cond.methodLink RX1 82 yX1_isCorner, Cond.instanceMethod yX1_isCorner, Cond.selects RX1 yX1_isCorner yX1_isCorner, Cond.initialized RX1, Cond.code yX1_isCorner cX1_isCorner 6 (some .boolean), Cond.fieldLink RX1 56 "SiteTrianglesModel" "count" "I", Cond.methodLink RX1 75 yX1_between, Cond.instanceMethod yX1_between, Cond.selects RX1 yX1_between yX1_between, Cond.code yX1_between cX1_between 4 (some .boolean), Cond.fieldLink RX1 7 "SiteTrianglesModel" "xs" "[J", Cond.fieldLink RX1 13 "SiteTrianglesModel" "ys" "[J", Cond.methodLink RX1 52 yX1_turn, Cond.instanceMethod yX1_turn, Cond.selects RX1 yX1_turn yX1_turn, Cond.code yX1_turn cX1_turn 4 (some .int), Cond.methodLink RX1 38 yX1_sign, Cond.instanceMethod yX1_sign, Cond.selects RX1 yX1_sign yX1_sign, Cond.code yX1_sign cX1_sign 3 (some .int), Cond.methodLink RX1 78 yX1_within, Cond.instanceMethod yX1_within]
def wsX1_makeCorners_r2 : List Cond := [Cond.selects RX1 yX1_within yX1_within, Cond.code yX1_within cX1_within 6 (some .boolean), Cond.methodLink RX1 89 yX1_following, Cond.instanceMethod yX1_following, Cond.selects RX1 yX1_following yX1_following, Cond.code yX1_following cX1_following 6 (some .int)]
def wsX1_makeCorners : List Cond := .code yX1_makeCorners cX1_makeCorners 3 none :: ((wsX1_makeCorners_r1 ++ wsX1_makeCorners_r2) ++ wsX10)
def wsX1_before : List Cond := .code yX1_before cX1_before 9 (some .boolean) :: ([.methodLink RX1 42 yX1_apart, .instanceMethod yX1_apart, .selects RX1 yX1_apart yX1_apart, .initialized RX1, .code yX1_apart cX1_apart 3 (some .long), .fieldLink RX1 7 "SiteTrianglesModel" "xs" "[J", .fieldLink RX1 13 "SiteTrianglesModel" "ys" "[J"] ++ wsX10)
def wsX1_makeTree_r1 : List Cond := [Cond.fieldLink RX1 93 "SiteTrianglesModel" "taken" "I", Cond.fieldLink RX1 96 "SiteTrianglesModel" "total" "J", Cond.fieldLink RX1 56 "SiteTrianglesModel" "count" "I", Cond.fieldLink RX1 35 "SiteTrianglesModel" "group" "[I", Cond.fieldLink RX1 29 "SiteTrianglesModel" "lesser" "[I", Cond.fieldLink RX1 32 "SiteTrianglesModel" "greater" "[I", Cond.methodLink RX1 100 yX1_before, Cond.instanceMethod yX1_before, Cond.selects RX1 yX1_before yX1_before, Cond.initialized RX1, Cond.code yX1_before cX1_before 9 (some .boolean), Cond.methodLink RX1 42 yX1_apart, Cond.instanceMethod yX1_apart, Cond.selects RX1 yX1_apart yX1_apart, Cond.code yX1_apart cX1_apart 3 (some .long), Cond.fieldLink RX1 7 "SiteTrianglesModel" "xs" "[J", Cond.fieldLink RX1 13 "SiteTrianglesModel" "ys" "[J", Cond.methodLink RX1 103 yX1_edge, Cond.instanceMethod yX1_edge, Cond.selects RX1 yX1_edge yX1_edge, Cond.code yX1_edge cX1_edge 6 (some .boolean), Cond.fieldLink RX1 64 "SiteTrianglesModel" "many" "I", Cond.methodLink RX1 71 yX1_isOf, Cond.instanceMethod yX1_isOf]
def wsX1_makeTree_r2 : List Cond := [Cond.selects RX1 yX1_isOf yX1_isOf, Cond.code yX1_isOf cX1_isOf 3 (some .boolean), Cond.fieldLink RX1 16 "SiteTrianglesModel" "least" "[I", Cond.fieldLink RX1 20 "SiteTrianglesModel" "middle" "[I", Cond.fieldLink RX1 23 "SiteTrianglesModel" "greatest" "[I", Cond.methodLink RX1 75 yX1_between, Cond.instanceMethod yX1_between, Cond.selects RX1 yX1_between yX1_between, Cond.code yX1_between cX1_between 4 (some .boolean), Cond.methodLink RX1 52 yX1_turn, Cond.instanceMethod yX1_turn, Cond.selects RX1 yX1_turn yX1_turn, Cond.code yX1_turn cX1_turn 4 (some .int), Cond.methodLink RX1 38 yX1_sign, Cond.instanceMethod yX1_sign, Cond.selects RX1 yX1_sign yX1_sign, Cond.code yX1_sign cX1_sign 3 (some .int)]
def wsX1_makeTree : List Cond := .code yX1_makeTree cX1_makeTree 6 none :: ((wsX1_makeTree_r1 ++ wsX1_makeTree_r2) ++ wsX10)
def wsX1_add_r1 : List Cond := [Cond.fieldLink RX1 56 "SiteTrianglesModel" "count" "I", Cond.fieldLink RX1 7 "SiteTrianglesModel" "xs" "[J", Cond.fieldLink RX1 13 "SiteTrianglesModel" "ys" "[J", Cond.methodLink RX1 106 yX1_makeTriangles, Cond.instanceMethod yX1_makeTriangles, Cond.selects RX1 yX1_makeTriangles yX1_makeTriangles, Cond.initialized RX1, Cond.code yX1_makeTriangles cX1_makeTriangles 4 none, Cond.fieldLink RX1 64 "SiteTrianglesModel" "many" "I", Cond.fieldLink RX1 16 "SiteTrianglesModel" "least" "[I", Cond.fieldLink RX1 20 "SiteTrianglesModel" "middle" "[I", Cond.fieldLink RX1 23 "SiteTrianglesModel" "greatest" "[I", Cond.methodLink RX1 67 yX1_good, Cond.instanceMethod yX1_good, Cond.selects RX1 yX1_good yX1_good, Cond.code yX1_good cX1_good 7 (some .boolean), Cond.methodLink RX1 52 yX1_turn, Cond.instanceMethod yX1_turn, Cond.selects RX1 yX1_turn yX1_turn, Cond.code yX1_turn cX1_turn 4 (some .int), Cond.methodLink RX1 38 yX1_sign, Cond.instanceMethod yX1_sign, Cond.selects RX1 yX1_sign yX1_sign, Cond.code yX1_sign cX1_sign 3 (some .int)]
def wsX1_add_r2 : List Cond := [Cond.methodLink RX1 60 yX1_inside, Cond.instanceMethod yX1_inside, Cond.selects RX1 yX1_inside yX1_inside, Cond.code yX1_inside cX1_inside 22 (some .int), Cond.constantLong RX1 50 (65535), Cond.methodLink RX1 42 yX1_apart, Cond.instanceMethod yX1_apart, Cond.selects RX1 yX1_apart yX1_apart, Cond.code yX1_apart cX1_apart 3 (some .long), Cond.methodLink RX1 46 yX1_span, Cond.instanceMethod yX1_span, Cond.selects RX1 yX1_span yX1_span, Cond.code yX1_span cX1_span 4 (some .long), Cond.methodLink RX1 109 yX1_makeCorners, Cond.instanceMethod yX1_makeCorners, Cond.selects RX1 yX1_makeCorners yX1_makeCorners, Cond.code yX1_makeCorners cX1_makeCorners 3 none, Cond.fieldLink RX1 86 "SiteTrianglesModel" "ends" "I", Cond.fieldLink RX1 26 "SiteTrianglesModel" "corners" "[I", Cond.methodLink RX1 82 yX1_isCorner, Cond.instanceMethod yX1_isCorner, Cond.selects RX1 yX1_isCorner yX1_isCorner, Cond.code yX1_isCorner cX1_isCorner 6 (some .boolean), Cond.methodLink RX1 75 yX1_between]
def wsX1_add_r3 : List Cond := [Cond.instanceMethod yX1_between, Cond.selects RX1 yX1_between yX1_between, Cond.code yX1_between cX1_between 4 (some .boolean), Cond.methodLink RX1 78 yX1_within, Cond.instanceMethod yX1_within, Cond.selects RX1 yX1_within yX1_within, Cond.code yX1_within cX1_within 6 (some .boolean), Cond.methodLink RX1 89 yX1_following, Cond.instanceMethod yX1_following, Cond.selects RX1 yX1_following yX1_following, Cond.code yX1_following cX1_following 6 (some .int), Cond.methodLink RX1 112 yX1_makeTree, Cond.instanceMethod yX1_makeTree, Cond.selects RX1 yX1_makeTree yX1_makeTree, Cond.code yX1_makeTree cX1_makeTree 6 none, Cond.fieldLink RX1 93 "SiteTrianglesModel" "taken" "I", Cond.fieldLink RX1 96 "SiteTrianglesModel" "total" "J", Cond.fieldLink RX1 35 "SiteTrianglesModel" "group" "[I", Cond.fieldLink RX1 29 "SiteTrianglesModel" "lesser" "[I", Cond.fieldLink RX1 32 "SiteTrianglesModel" "greater" "[I", Cond.methodLink RX1 100 yX1_before, Cond.instanceMethod yX1_before, Cond.selects RX1 yX1_before yX1_before, Cond.code yX1_before cX1_before 9 (some .boolean)]
def wsX1_add_r4 : List Cond := [Cond.methodLink RX1 103 yX1_edge, Cond.instanceMethod yX1_edge, Cond.selects RX1 yX1_edge yX1_edge, Cond.code yX1_edge cX1_edge 6 (some .boolean), Cond.methodLink RX1 71 yX1_isOf, Cond.instanceMethod yX1_isOf, Cond.selects RX1 yX1_isOf yX1_isOf, Cond.code yX1_isOf cX1_isOf 3 (some .boolean)]
def wsX1_add : List Cond := .code yX1_add cX1_add 4 (some .int) :: ((wsX1_add_r1 ++ (wsX1_add_r2 ++ (wsX1_add_r3 ++ wsX1_add_r4))) ++ wsX10)
def wsX1_sites : List Cond := .code yX1_sites cX1_sites 1 (some .int) :: ([.fieldLink RX1 56 "SiteTrianglesModel" "count" "I"] ++ wsX10)
def wsX1_triangles : List Cond := .code yX1_triangles cX1_triangles 1 (some .int) :: ([.fieldLink RX1 64 "SiteTrianglesModel" "many" "I"] ++ wsX10)
def wsX1_none : List Cond := .code yX1_none cX1_none 2 (some .boolean) :: ([.fieldLink RX1 64 "SiteTrianglesModel" "many" "I"] ++ wsX10)
def wsX1_triangle : List Cond := .code yX1_triangle cX1_triangle 2 (some .int) :: ([.fieldLink RX1 16 "SiteTrianglesModel" "least" "[I", .fieldLink RX1 20 "SiteTrianglesModel" "middle" "[I", .fieldLink RX1 23 "SiteTrianglesModel" "greatest" "[I", .methodLink RX1 115 yX1_none, .instanceMethod yX1_none, .selects RX1 yX1_none yX1_none, .initialized RX1, .code yX1_none cX1_none 2 (some .boolean), .fieldLink RX1 64 "SiteTrianglesModel" "many" "I"] ++ wsX10)
def wsX1_beyond : List Cond := .code yX1_beyond cX1_beyond 7 (some .int) :: ([.fieldLink RX1 20 "SiteTrianglesModel" "middle" "[I", .fieldLink RX1 16 "SiteTrianglesModel" "least" "[I", .fieldLink RX1 23 "SiteTrianglesModel" "greatest" "[I", .fieldLink RX1 64 "SiteTrianglesModel" "many" "I", .methodLink RX1 115 yX1_none, .instanceMethod yX1_none, .selects RX1 yX1_none yX1_none, .initialized RX1, .code yX1_none cX1_none 2 (some .boolean), .methodLink RX1 71 yX1_isOf, .instanceMethod yX1_isOf, .selects RX1 yX1_isOf yX1_isOf, .code yX1_isOf cX1_isOf 3 (some .boolean)] ++ wsX10)
def wsX1_divisor : List Cond := .code yX1_divisor cX1_divisor 11 (some .long) :: ([])
def wsX1_centre : List Cond := .code yX1_centre cX1_centre 18 (some .long) :: ([.fieldLink RX1 16 "SiteTrianglesModel" "least" "[I", .fieldLink RX1 20 "SiteTrianglesModel" "middle" "[I", .fieldLink RX1 23 "SiteTrianglesModel" "greatest" "[I", .constantLong RX1 118 (2), .fieldLink RX1 7 "SiteTrianglesModel" "xs" "[J", .fieldLink RX1 13 "SiteTrianglesModel" "ys" "[J", .methodLink RX1 115 yX1_none, .instanceMethod yX1_none, .selects RX1 yX1_none yX1_none, .initialized RX1, .code yX1_none cX1_none 2 (some .boolean), .fieldLink RX1 64 "SiteTrianglesModel" "many" "I", .methodLink RX1 46 yX1_span, .instanceMethod yX1_span, .selects RX1 yX1_span yX1_span, .code yX1_span cX1_span 4 (some .long), .methodLink RX1 42 yX1_apart, .instanceMethod yX1_apart, .selects RX1 yX1_apart yX1_apart, .code yX1_apart cX1_apart 3 (some .long), .methodLink RX1 120 yX1_divisor, .instanceMethod yX1_divisor, .selects RX1 yX1_divisor yX1_divisor, .code yX1_divisor cX1_divisor 11 (some .long)] ++ wsX10)
def wsX1_noSite : List Cond := .code yX1_noSite cX1_noSite 2 (some .boolean) :: ([.fieldLink RX1 56 "SiteTrianglesModel" "count" "I"] ++ wsX10)
def wsX1_joined_r1 : List Cond := [Cond.methodLink RX1 124 yX1_noSite, Cond.instanceMethod yX1_noSite, Cond.selects RX1 yX1_noSite yX1_noSite, Cond.initialized RX1, Cond.code yX1_noSite cX1_noSite 2 (some .boolean), Cond.fieldLink RX1 56 "SiteTrianglesModel" "count" "I", Cond.methodLink RX1 103 yX1_edge, Cond.instanceMethod yX1_edge, Cond.selects RX1 yX1_edge yX1_edge, Cond.code yX1_edge cX1_edge 6 (some .boolean), Cond.fieldLink RX1 64 "SiteTrianglesModel" "many" "I", Cond.methodLink RX1 71 yX1_isOf, Cond.instanceMethod yX1_isOf, Cond.selects RX1 yX1_isOf yX1_isOf, Cond.code yX1_isOf cX1_isOf 3 (some .boolean), Cond.fieldLink RX1 16 "SiteTrianglesModel" "least" "[I", Cond.fieldLink RX1 20 "SiteTrianglesModel" "middle" "[I", Cond.fieldLink RX1 23 "SiteTrianglesModel" "greatest" "[I", Cond.methodLink RX1 75 yX1_between, Cond.instanceMethod yX1_between, Cond.selects RX1 yX1_between yX1_between, Cond.code yX1_between cX1_between 4 (some .boolean), Cond.fieldLink RX1 7 "SiteTrianglesModel" "xs" "[J", Cond.fieldLink RX1 13 "SiteTrianglesModel" "ys" "[J"]
def wsX1_joined_r2 : List Cond := [Cond.methodLink RX1 52 yX1_turn, Cond.instanceMethod yX1_turn, Cond.selects RX1 yX1_turn yX1_turn, Cond.code yX1_turn cX1_turn 4 (some .int), Cond.methodLink RX1 38 yX1_sign, Cond.instanceMethod yX1_sign, Cond.selects RX1 yX1_sign yX1_sign, Cond.code yX1_sign cX1_sign 3 (some .int)]
def wsX1_joined : List Cond := .code yX1_joined cX1_joined 3 (some .boolean) :: ((wsX1_joined_r1 ++ wsX1_joined_r2) ++ wsX10)
def wsX1_degree_r1 : List Cond := [Cond.fieldLink RX1 56 "SiteTrianglesModel" "count" "I", Cond.methodLink RX1 124 yX1_noSite, Cond.instanceMethod yX1_noSite, Cond.selects RX1 yX1_noSite yX1_noSite, Cond.initialized RX1, Cond.code yX1_noSite cX1_noSite 2 (some .boolean), Cond.methodLink RX1 103 yX1_edge, Cond.instanceMethod yX1_edge, Cond.selects RX1 yX1_edge yX1_edge, Cond.code yX1_edge cX1_edge 6 (some .boolean), Cond.fieldLink RX1 64 "SiteTrianglesModel" "many" "I", Cond.methodLink RX1 71 yX1_isOf, Cond.instanceMethod yX1_isOf, Cond.selects RX1 yX1_isOf yX1_isOf, Cond.code yX1_isOf cX1_isOf 3 (some .boolean), Cond.fieldLink RX1 16 "SiteTrianglesModel" "least" "[I", Cond.fieldLink RX1 20 "SiteTrianglesModel" "middle" "[I", Cond.fieldLink RX1 23 "SiteTrianglesModel" "greatest" "[I", Cond.methodLink RX1 75 yX1_between, Cond.instanceMethod yX1_between, Cond.selects RX1 yX1_between yX1_between, Cond.code yX1_between cX1_between 4 (some .boolean), Cond.fieldLink RX1 7 "SiteTrianglesModel" "xs" "[J", Cond.fieldLink RX1 13 "SiteTrianglesModel" "ys" "[J"]
def wsX1_degree_r2 : List Cond := [Cond.methodLink RX1 52 yX1_turn, Cond.instanceMethod yX1_turn, Cond.selects RX1 yX1_turn yX1_turn, Cond.code yX1_turn cX1_turn 4 (some .int), Cond.methodLink RX1 38 yX1_sign, Cond.instanceMethod yX1_sign, Cond.selects RX1 yX1_sign yX1_sign, Cond.code yX1_sign cX1_sign 3 (some .int)]
def wsX1_degree : List Cond := .code yX1_degree cX1_degree 4 (some .int) :: ((wsX1_degree_r1 ++ wsX1_degree_r2) ++ wsX10)
def wsX1_corners : List Cond := .code yX1_corners cX1_corners 1 (some .int) :: ([.fieldLink RX1 86 "SiteTrianglesModel" "ends" "I"] ++ wsX10)
def wsX1_corner : List Cond := .code yX1_corner cX1_corner 2 (some .int) :: ([.fieldLink RX1 86 "SiteTrianglesModel" "ends" "I", .fieldLink RX1 26 "SiteTrianglesModel" "corners" "[I"] ++ wsX10)
def wsX1_refused : List Cond := .code yX1_refused cX1_refused 5 (some .boolean) :: ([.constantDouble RX1 127 (13899102408576860160), .constantDouble RX1 129 (4675730371722084352)])
def wsX1_far : List Cond := .code yX1_far cX1_far 6 (some .long) :: ([.constantLong RX1 131 (8), .fieldLink RX1 7 "SiteTrianglesModel" "xs" "[J", .fieldLink RX1 13 "SiteTrianglesModel" "ys" "[J"] ++ wsX10)
def wsX1_nearest : List Cond := .code yX1_nearest cX1_nearest 11 (some .int) :: ([.constantDouble RX1 137 (4620693217682128896), .fieldLink RX1 56 "SiteTrianglesModel" "count" "I", .methodLink RX1 133 yX1_refused, .instanceMethod yX1_refused, .selects RX1 yX1_refused yX1_refused, .initialized RX1, .code yX1_refused cX1_refused 5 (some .boolean), .constantDouble RX1 127 (13899102408576860160), .constantDouble RX1 129 (4675730371722084352), .methodLink RX1 139 yX1_far, .instanceMethod yX1_far, .selects RX1 yX1_far yX1_far, .code yX1_far cX1_far 6 (some .long), .constantLong RX1 131 (8), .fieldLink RX1 7 "SiteTrianglesModel" "xs" "[J", .fieldLink RX1 13 "SiteTrianglesModel" "ys" "[J"] ++ wsX10)
def wsX1_side : List Cond := .code yX1_side cX1_side 7 (some .int) :: ([.fieldLink RX1 7 "SiteTrianglesModel" "xs" "[J", .constantLong RX1 131 (8), .fieldLink RX1 13 "SiteTrianglesModel" "ys" "[J", .methodLink RX1 38 yX1_sign, .instanceMethod yX1_sign, .selects RX1 yX1_sign yX1_sign, .initialized RX1, .code yX1_sign cX1_sign 3 (some .int)] ++ wsX10)
def wsX1_holder_r1 : List Cond := [Cond.constantDouble RX1 137 (4620693217682128896), Cond.fieldLink RX1 64 "SiteTrianglesModel" "many" "I", Cond.fieldLink RX1 16 "SiteTrianglesModel" "least" "[I", Cond.fieldLink RX1 20 "SiteTrianglesModel" "middle" "[I", Cond.fieldLink RX1 23 "SiteTrianglesModel" "greatest" "[I", Cond.methodLink RX1 133 yX1_refused, Cond.instanceMethod yX1_refused, Cond.selects RX1 yX1_refused yX1_refused, Cond.initialized RX1, Cond.code yX1_refused cX1_refused 5 (some .boolean), Cond.constantDouble RX1 127 (13899102408576860160), Cond.constantDouble RX1 129 (4675730371722084352), Cond.methodLink RX1 52 yX1_turn, Cond.instanceMethod yX1_turn, Cond.selects RX1 yX1_turn yX1_turn, Cond.code yX1_turn cX1_turn 4 (some .int), Cond.fieldLink RX1 7 "SiteTrianglesModel" "xs" "[J", Cond.fieldLink RX1 13 "SiteTrianglesModel" "ys" "[J", Cond.methodLink RX1 38 yX1_sign, Cond.instanceMethod yX1_sign, Cond.selects RX1 yX1_sign yX1_sign, Cond.code yX1_sign cX1_sign 3 (some .int), Cond.methodLink RX1 143 yX1_side, Cond.instanceMethod yX1_side]
def wsX1_holder_r2 : List Cond := [Cond.selects RX1 yX1_side yX1_side, Cond.code yX1_side cX1_side 7 (some .int), Cond.constantLong RX1 131 (8)]
def wsX1_holder : List Cond := .code yX1_holder cX1_holder 14 (some .int) :: ((wsX1_holder_r1 ++ wsX1_holder_r2) ++ wsX10)
def wsX1_square : List Cond := .code yX1_square cX1_square 6 (some .double) :: ([.constantDouble RX1 147 (13835058055282163712), .constantDouble RX1 149 (13830554455654793216), .constantDouble RX1 137 (4620693217682128896), .constantDouble RX1 151 (4634204016564240384), .methodLink RX1 133 yX1_refused, .instanceMethod yX1_refused, .selects RX1 yX1_refused yX1_refused, .initialized RX1, .code yX1_refused cX1_refused 5 (some .boolean), .constantDouble RX1 127 (13899102408576860160), .constantDouble RX1 129 (4675730371722084352), .methodLink RX1 124 yX1_noSite, .instanceMethod yX1_noSite, .selects RX1 yX1_noSite yX1_noSite, .code yX1_noSite cX1_noSite 2 (some .boolean), .fieldLink RX1 56 "SiteTrianglesModel" "count" "I", .methodLink RX1 139 yX1_far, .instanceMethod yX1_far, .selects RX1 yX1_far yX1_far, .code yX1_far cX1_far 6 (some .long), .constantLong RX1 131 (8), .fieldLink RX1 7 "SiteTrianglesModel" "xs" "[J", .fieldLink RX1 13 "SiteTrianglesModel" "ys" "[J"] ++ wsX10)
def wsX1_tree : List Cond := .code yX1_tree cX1_tree 2 (some .int) :: ([.fieldLink RX1 93 "SiteTrianglesModel" "taken" "I", .fieldLink RX1 29 "SiteTrianglesModel" "lesser" "[I", .fieldLink RX1 32 "SiteTrianglesModel" "greater" "[I"] ++ wsX10)
def wsX1_total : List Cond := .code yX1_total cX1_total 1 (some .long) :: ([.fieldLink RX1 96 "SiteTrianglesModel" "total" "J"] ++ wsX10)
def wsX1_bounded : List Cond := .code yX1_bounded cX1_bounded 6 (some .boolean) :: ([.fieldLink RX1 56 "SiteTrianglesModel" "count" "I", .methodLink RX1 124 yX1_noSite, .instanceMethod yX1_noSite, .selects RX1 yX1_noSite yX1_noSite, .initialized RX1, .code yX1_noSite cX1_noSite 2 (some .boolean), .methodLink RX1 52 yX1_turn, .instanceMethod yX1_turn, .selects RX1 yX1_turn yX1_turn, .code yX1_turn cX1_turn 4 (some .int), .fieldLink RX1 7 "SiteTrianglesModel" "xs" "[J", .fieldLink RX1 13 "SiteTrianglesModel" "ys" "[J", .methodLink RX1 38 yX1_sign, .instanceMethod yX1_sign, .selects RX1 yX1_sign yX1_sign, .code yX1_sign cX1_sign 3 (some .int)] ++ wsX10)
def wsJ9_abs_067f4 : List Cond := .code yJ9_abs_067f4 cJ9_abs_067f4 2 (some .long) :: ([])
def wsL_law_r1 : List Cond := [Cond.classLink RL 7 RX0, Cond.instantiable RX0 12, Cond.initialized RX0, Cond.classLink RL 10 RX1, Cond.instantiable RX1 14, Cond.initialized RX1, Cond.constantDouble RL 58 (4593671619917905920), Cond.methodLink RL 9 yX0_init, Cond.instanceMethod yX0_init, Cond.code yX0_init cX0_init 1 none, Cond.methodLink RX0 3 objectInit, Cond.instanceMethod objectInit, Cond.code objectInit ⟨#[0xb1]⟩ 1 none, Cond.arrayClass .int, Cond.fieldLink RX0 9 "SiteTriangles" "siteX" "[I", Cond.fieldLink RX0 13 "SiteTriangles" "siteY" "[I", Cond.fieldLink RX0 16 "SiteTriangles" "siteCount" "I", Cond.fieldLink RX0 20 "SiteTriangles" "packedTriangles" "[I", Cond.fieldLink RX0 23 "SiteTriangles" "triangleCount" "I", Cond.fieldLink RX0 26 "SiteTriangles" "neighbours" "[I", Cond.fieldLink RX0 29 "SiteTriangles" "ring" "[I", Cond.fieldLink RX0 32 "SiteTriangles" "ringCount" "I", Cond.fieldLink RX0 35 "SiteTriangles" "packedTree" "[I", Cond.fieldLink RX0 38 "SiteTriangles" "treeCount" "I"]
def wsL_law_r2 : List Cond := [Cond.fieldLink RX0 41 "SiteTriangles" "treeLength" "J", Cond.fieldLink RX0 45 "SiteTriangles" "group" "[I", Cond.methodLink RL 12 yX1_init, Cond.instanceMethod yX1_init, Cond.code yX1_init cX1_init 1 none, Cond.methodLink RX1 1 objectInit, Cond.arrayClass .long, Cond.fieldLink RX1 7 "SiteTrianglesModel" "xs" "[J", Cond.fieldLink RX1 13 "SiteTrianglesModel" "ys" "[J", Cond.fieldLink RX1 16 "SiteTrianglesModel" "least" "[I", Cond.fieldLink RX1 20 "SiteTrianglesModel" "middle" "[I", Cond.fieldLink RX1 23 "SiteTrianglesModel" "greatest" "[I", Cond.fieldLink RX1 26 "SiteTrianglesModel" "corners" "[I", Cond.fieldLink RX1 29 "SiteTrianglesModel" "lesser" "[I", Cond.fieldLink RX1 32 "SiteTrianglesModel" "greater" "[I", Cond.fieldLink RX1 35 "SiteTrianglesModel" "group" "[I", Cond.methodLink RL 13 yX0_add, Cond.instanceMethod yX0_add, Cond.selects RX0 yX0_add yX0_add, Cond.code yX0_add cX0_add 5 (some .int), Cond.methodLink RX0 48 yX0_isTooFar, Cond.static yX0_isTooFar, Cond.code yX0_isTooFar cX0_isTooFar 1 (some .boolean), Cond.methodLink RX0 52 yX0_siteAt]
def wsL_law_r3 : List Cond := [Cond.instanceMethod yX0_siteAt, Cond.selects RX0 yX0_siteAt yX0_siteAt, Cond.code yX0_siteAt cX0_siteAt 4 (some .int), Cond.methodLink RX0 56 yX0_rebuild, Cond.instanceMethod yX0_rebuild, Cond.selects RX0 yX0_rebuild yX0_rebuild, Cond.code yX0_rebuild cX0_rebuild 1 none, Cond.methodLink RX0 135 yX0_findTriangles, Cond.instanceMethod yX0_findTriangles, Cond.selects RX0 yX0_findTriangles yX0_findTriangles, Cond.code yX0_findTriangles cX0_findTriangles 4 none, Cond.methodLink RX0 152 yX0_isDueTriangle, Cond.instanceMethod yX0_isDueTriangle, Cond.selects RX0 yX0_isDueTriangle yX0_isDueTriangle, Cond.code yX0_isDueTriangle cX0_isDueTriangle 9 (some .boolean), Cond.methodLink RX0 71 yX0_turn, Cond.instanceMethod yX0_turn, Cond.selects RX0 yX0_turn yX0_turn, Cond.code yX0_turn cX0_turn 4 (some .long), Cond.methodLink RX0 79 yX0_xOf, Cond.instanceMethod yX0_xOf, Cond.selects RX0 yX0_xOf yX0_xOf, Cond.code yX0_xOf cX0_xOf 2 (some .long), Cond.methodLink RX0 83 yX0_yOf]
def wsL_law_r4 : List Cond := [Cond.instanceMethod yX0_yOf, Cond.selects RX0 yX0_yOf yX0_yOf, Cond.code yX0_yOf cX0_yOf 2 (some .long), Cond.methodLink RX0 160 yX0_circleSide, Cond.instanceMethod yX0_circleSide, Cond.selects RX0 yX0_circleSide yX0_circleSide, Cond.code yX0_circleSide cX0_circleSide 21 (some .int), Cond.constantLong RX0 164 (1048575), Cond.methodLink RX0 75 yX0_gap, Cond.instanceMethod yX0_gap, Cond.selects RX0 yX0_gap yX0_gap, Cond.code yX0_gap cX0_gap 7 (some .long), Cond.methodLink RX0 156 yX0_keepTriangle, Cond.instanceMethod yX0_keepTriangle, Cond.selects RX0 yX0_keepTriangle yX0_keepTriangle, Cond.code yX0_keepTriangle cX0_keepTriangle 4 none, Cond.methodLink RX0 138 yX0_findEdges, Cond.instanceMethod yX0_findEdges, Cond.selects RX0 yX0_findEdges yX0_findEdges, Cond.code yX0_findEdges cX0_findEdges 5 none, Cond.methodLink RX0 62 yX0_triangleCorner, Cond.instanceMethod yX0_triangleCorner, Cond.selects RX0 yX0_triangleCorner yX0_triangleCorner, Cond.code yX0_triangleCorner cX0_triangleCorner 3 (some .int)]
def wsL_law_r5 : List Cond := [Cond.methodLink RX0 59 yX0_isTriangle, Cond.instanceMethod yX0_isTriangle, Cond.selects RX0 yX0_isTriangle yX0_isTriangle, Cond.code yX0_isTriangle cX0_isTriangle 2 (some .boolean), Cond.methodLink RX0 166 yX0_join, Cond.instanceMethod yX0_join, Cond.selects RX0 yX0_join yX0_join, Cond.code yX0_join cX0_join 3 none, Cond.methodLink RX0 93 yX0_isSite, Cond.instanceMethod yX0_isSite, Cond.selects RX0 yX0_isSite yX0_isSite, Cond.code yX0_isSite cX0_isSite 2 (some .boolean), Cond.methodLink RX0 170 yX0_joinAlongLine, Cond.instanceMethod yX0_joinAlongLine, Cond.selects RX0 yX0_joinAlongLine yX0_joinAlongLine, Cond.code yX0_joinAlongLine cX0_joinAlongLine 3 none, Cond.methodLink RX0 173 yX0_isWayFree, Cond.instanceMethod yX0_isWayFree, Cond.selects RX0 yX0_isWayFree yX0_isWayFree, Cond.code yX0_isWayFree cX0_isWayFree 4 (some .boolean), Cond.methodLink RX0 176 yX0_dot, Cond.instanceMethod yX0_dot, Cond.selects RX0 yX0_dot yX0_dot, Cond.code yX0_dot cX0_dot 4 (some .long)]
def wsL_law_r6 : List Cond := [Cond.methodLink RX0 141 yX0_leastCorner, Cond.instanceMethod yX0_leastCorner, Cond.selects RX0 yX0_leastCorner yX0_leastCorner, Cond.code yX0_leastCorner cX0_leastCorner 2 (some .int), Cond.methodLink RX0 179 yX0_nextCorner, Cond.instanceMethod yX0_nextCorner, Cond.selects RX0 yX0_nextCorner yX0_nextCorner, Cond.code yX0_nextCorner cX0_nextCorner 3 (some .int), Cond.methodLink RX0 182 yX0_isRingSide, Cond.instanceMethod yX0_isRingSide, Cond.selects RX0 yX0_isRingSide yX0_isRingSide, Cond.code yX0_isRingSide cX0_isRingSide 6 (some .boolean), Cond.methodLink RX0 145 yX0_findRing, Cond.instanceMethod yX0_findRing, Cond.selects RX0 yX0_findRing yX0_findRing, Cond.code yX0_findRing cX0_findRing 5 none, Cond.methodLink RX0 149 yX0_growTree, Cond.instanceMethod yX0_growTree, Cond.selects RX0 yX0_growTree yX0_growTree, Cond.code yX0_growTree cX0_growTree 2 none, Cond.methodLink RX0 185 yX0_takeNextEdge, Cond.instanceMethod yX0_takeNextEdge, Cond.selects RX0 yX0_takeNextEdge yX0_takeNextEdge, Cond.code yX0_takeNextEdge cX0_takeNextEdge 7 none]
def wsL_law_r7 : List Cond := [Cond.methodLink RX0 90 yX0_hasEdge, Cond.instanceMethod yX0_hasEdge, Cond.selects RX0 yX0_hasEdge yX0_hasEdge, Cond.code yX0_hasEdge cX0_hasEdge 3 (some .boolean), Cond.methodLink RX0 188 yX0_takeEdge, Cond.instanceMethod yX0_takeEdge, Cond.selects RX0 yX0_takeEdge yX0_takeEdge, Cond.code yX0_takeEdge cX0_takeEdge 6 none, Cond.methodLink RL 17 yX1_add, Cond.instanceMethod yX1_add, Cond.selects RX1 yX1_add yX1_add, Cond.code yX1_add cX1_add 4 (some .int), Cond.fieldLink RX1 56 "SiteTrianglesModel" "count" "I", Cond.methodLink RX1 106 yX1_makeTriangles, Cond.instanceMethod yX1_makeTriangles, Cond.selects RX1 yX1_makeTriangles yX1_makeTriangles, Cond.code yX1_makeTriangles cX1_makeTriangles 4 none, Cond.fieldLink RX1 64 "SiteTrianglesModel" "many" "I", Cond.methodLink RX1 67 yX1_good, Cond.instanceMethod yX1_good, Cond.selects RX1 yX1_good yX1_good, Cond.code yX1_good cX1_good 7 (some .boolean), Cond.methodLink RX1 52 yX1_turn, Cond.instanceMethod yX1_turn]
def wsL_law_r8 : List Cond := [Cond.selects RX1 yX1_turn yX1_turn, Cond.code yX1_turn cX1_turn 4 (some .int), Cond.methodLink RX1 38 yX1_sign, Cond.instanceMethod yX1_sign, Cond.selects RX1 yX1_sign yX1_sign, Cond.code yX1_sign cX1_sign 3 (some .int), Cond.methodLink RX1 60 yX1_inside, Cond.instanceMethod yX1_inside, Cond.selects RX1 yX1_inside yX1_inside, Cond.code yX1_inside cX1_inside 22 (some .int), Cond.constantLong RX1 50 (65535), Cond.methodLink RX1 42 yX1_apart, Cond.instanceMethod yX1_apart, Cond.selects RX1 yX1_apart yX1_apart, Cond.code yX1_apart cX1_apart 3 (some .long), Cond.methodLink RX1 46 yX1_span, Cond.instanceMethod yX1_span, Cond.selects RX1 yX1_span yX1_span, Cond.code yX1_span cX1_span 4 (some .long), Cond.methodLink RX1 109 yX1_makeCorners, Cond.instanceMethod yX1_makeCorners, Cond.selects RX1 yX1_makeCorners yX1_makeCorners, Cond.code yX1_makeCorners cX1_makeCorners 3 none, Cond.fieldLink RX1 86 "SiteTrianglesModel" "ends" "I"]
def wsL_law_r9 : List Cond := [Cond.methodLink RX1 82 yX1_isCorner, Cond.instanceMethod yX1_isCorner, Cond.selects RX1 yX1_isCorner yX1_isCorner, Cond.code yX1_isCorner cX1_isCorner 6 (some .boolean), Cond.methodLink RX1 75 yX1_between, Cond.instanceMethod yX1_between, Cond.selects RX1 yX1_between yX1_between, Cond.code yX1_between cX1_between 4 (some .boolean), Cond.methodLink RX1 78 yX1_within, Cond.instanceMethod yX1_within, Cond.selects RX1 yX1_within yX1_within, Cond.code yX1_within cX1_within 6 (some .boolean), Cond.methodLink RX1 89 yX1_following, Cond.instanceMethod yX1_following, Cond.selects RX1 yX1_following yX1_following, Cond.code yX1_following cX1_following 6 (some .int), Cond.methodLink RX1 112 yX1_makeTree, Cond.instanceMethod yX1_makeTree, Cond.selects RX1 yX1_makeTree yX1_makeTree, Cond.code yX1_makeTree cX1_makeTree 6 none, Cond.fieldLink RX1 93 "SiteTrianglesModel" "taken" "I", Cond.fieldLink RX1 96 "SiteTrianglesModel" "total" "J", Cond.methodLink RX1 100 yX1_before, Cond.instanceMethod yX1_before]
def wsL_law_r10 : List Cond := [Cond.selects RX1 yX1_before yX1_before, Cond.code yX1_before cX1_before 9 (some .boolean), Cond.methodLink RX1 103 yX1_edge, Cond.instanceMethod yX1_edge, Cond.selects RX1 yX1_edge yX1_edge, Cond.code yX1_edge cX1_edge 6 (some .boolean), Cond.methodLink RX1 71 yX1_isOf, Cond.instanceMethod yX1_isOf, Cond.selects RX1 yX1_isOf yX1_isOf, Cond.code yX1_isOf cX1_isOf 3 (some .boolean), Cond.methodLink RL 18 yX0_sites, Cond.instanceMethod yX0_sites, Cond.selects RX0 yX0_sites yX0_sites, Cond.code yX0_sites cX0_sites 1 (some .int), Cond.methodLink RL 22 yX1_sites, Cond.instanceMethod yX1_sites, Cond.selects RX1 yX1_sites yX1_sites, Cond.code yX1_sites cX1_sites 1 (some .int), Cond.methodLink RL 23 yX0_triangles, Cond.instanceMethod yX0_triangles, Cond.selects RX0 yX0_triangles yX0_triangles, Cond.code yX0_triangles cX0_triangles 1 (some .int), Cond.methodLink RL 26 yX1_triangles, Cond.instanceMethod yX1_triangles]
def wsL_law_r11 : List Cond := [Cond.selects RX1 yX1_triangles yX1_triangles, Cond.code yX1_triangles cX1_triangles 1 (some .int), Cond.methodLink RL 27 yX0_triangle, Cond.instanceMethod yX0_triangle, Cond.selects RX0 yX0_triangle yX0_triangle, Cond.code yX0_triangle cX0_triangle 2 (some .int), Cond.methodLink RL 31 yX1_triangle, Cond.instanceMethod yX1_triangle, Cond.selects RX1 yX1_triangle yX1_triangle, Cond.code yX1_triangle cX1_triangle 2 (some .int), Cond.methodLink RX1 115 yX1_none, Cond.instanceMethod yX1_none, Cond.selects RX1 yX1_none yX1_none, Cond.code yX1_none cX1_none 2 (some .boolean), Cond.methodLink RL 32 yX0_beyond, Cond.instanceMethod yX0_beyond, Cond.selects RX0 yX0_beyond yX0_beyond, Cond.code yX0_beyond cX0_beyond 6 (some .int), Cond.methodLink RX0 65 yX0_hasCorner, Cond.instanceMethod yX0_hasCorner, Cond.selects RX0 yX0_hasCorner yX0_hasCorner, Cond.code yX0_hasCorner cX0_hasCorner 3 (some .boolean), Cond.methodLink RL 35 yX1_beyond, Cond.instanceMethod yX1_beyond]
def wsL_law_r12 : List Cond := [Cond.selects RX1 yX1_beyond yX1_beyond, Cond.code yX1_beyond cX1_beyond 7 (some .int), Cond.methodLink RL 36 yX0_centre, Cond.instanceMethod yX0_centre, Cond.selects RX0 yX0_centre yX0_centre, Cond.code yX0_centre cX0_centre 20 (some .long), Cond.constantLong RX0 69 (2), Cond.methodLink RX0 86 yX0_commonDivisor, Cond.static yX0_commonDivisor, Cond.code yX0_commonDivisor cX0_commonDivisor 11 (some .long), Cond.methodLink RX0 125 Lib.MathLoose.abs_long.x, Cond.static Lib.MathLoose.abs_long.x, Cond.initialized "java/lang/Math", Cond.code Lib.MathLoose.abs_long.x Lib.MathLoose.abs_long.code 2 (some .long), Cond.methodLink RL 40 yX1_centre, Cond.instanceMethod yX1_centre, Cond.selects RX1 yX1_centre yX1_centre, Cond.code yX1_centre cX1_centre 18 (some .long), Cond.constantLong RX1 118 (2), Cond.methodLink RX1 120 yX1_divisor, Cond.instanceMethod yX1_divisor, Cond.selects RX1 yX1_divisor yX1_divisor, Cond.code yX1_divisor cX1_divisor 11 (some .long), Cond.methodLink RL 41 yX0_joined]
def wsL_law_r13 : List Cond := [Cond.instanceMethod yX0_joined, Cond.selects RX0 yX0_joined yX0_joined, Cond.code yX0_joined cX0_joined 3 (some .boolean), Cond.methodLink RL 45 yX1_joined, Cond.instanceMethod yX1_joined, Cond.selects RX1 yX1_joined yX1_joined, Cond.code yX1_joined cX1_joined 3 (some .boolean), Cond.methodLink RX1 124 yX1_noSite, Cond.instanceMethod yX1_noSite, Cond.selects RX1 yX1_noSite yX1_noSite, Cond.code yX1_noSite cX1_noSite 2 (some .boolean), Cond.methodLink RL 46 yX0_degree, Cond.instanceMethod yX0_degree, Cond.selects RX0 yX0_degree yX0_degree, Cond.code yX0_degree cX0_degree 2 (some .int), Cond.methodLink RX0 96 yJ6_bitCount_0f7a4, Cond.static yJ6_bitCount_0f7a4, Cond.initialized RJ6, Cond.code yJ6_bitCount_0f7a4 cJ6_bitCount_0f7a4 1 (some .int), Cond.constant RJ6 265 (1431655765), Cond.constant RJ6 266 (858993459), Cond.constant RJ6 267 (252645135), Cond.methodLink RL 49 yX1_degree, Cond.instanceMethod yX1_degree]
def wsL_law_r14 : List Cond := [Cond.selects RX1 yX1_degree yX1_degree, Cond.code yX1_degree cX1_degree 4 (some .int), Cond.methodLink RL 50 yX0_corners, Cond.instanceMethod yX0_corners, Cond.selects RX0 yX0_corners yX0_corners, Cond.code yX0_corners cX0_corners 1 (some .int), Cond.methodLink RL 53 yX1_corners, Cond.instanceMethod yX1_corners, Cond.selects RX1 yX1_corners yX1_corners, Cond.code yX1_corners cX1_corners 1 (some .int), Cond.methodLink RL 54 yX0_corner, Cond.instanceMethod yX0_corner, Cond.selects RX0 yX0_corner yX0_corner, Cond.code yX0_corner cX0_corner 2 (some .int), Cond.methodLink RL 57 yX1_corner, Cond.instanceMethod yX1_corner, Cond.selects RX1 yX1_corner yX1_corner, Cond.code yX1_corner cX1_corner 2 (some .int), Cond.methodLink RL 60 yX0_nearest, Cond.instanceMethod yX0_nearest, Cond.selects RX0 yX0_nearest yX0_nearest, Cond.code yX0_nearest cX0_nearest 11 (some .int), Cond.methodLink RX0 102 yX0_isRefused, Cond.static yX0_isRefused]
def wsL_law_r15 : List Cond := [Cond.code yX0_isRefused cX0_isRefused 5 (some .boolean), Cond.constantDouble RX0 121 (13899102408576860160), Cond.constantDouble RX0 123 (4675730371722084352), Cond.methodLink RX0 106 yX0_gapToPoint, Cond.instanceMethod yX0_gapToPoint, Cond.selects RX0 yX0_gapToPoint yX0_gapToPoint, Cond.code yX0_gapToPoint cX0_gapToPoint 10 (some .double), Cond.methodLink RL 64 yX1_nearest, Cond.instanceMethod yX1_nearest, Cond.selects RX1 yX1_nearest yX1_nearest, Cond.code yX1_nearest cX1_nearest 11 (some .int), Cond.constantDouble RX1 137 (4620693217682128896), Cond.methodLink RX1 133 yX1_refused, Cond.instanceMethod yX1_refused, Cond.selects RX1 yX1_refused yX1_refused, Cond.code yX1_refused cX1_refused 5 (some .boolean), Cond.constantDouble RX1 127 (13899102408576860160), Cond.constantDouble RX1 129 (4675730371722084352), Cond.methodLink RX1 139 yX1_far, Cond.instanceMethod yX1_far, Cond.selects RX1 yX1_far yX1_far, Cond.code yX1_far cX1_far 6 (some .long), Cond.constantLong RX1 131 (8), Cond.methodLink RL 65 yX0_holder]
def wsL_law_r16 : List Cond := [Cond.instanceMethod yX0_holder, Cond.selects RX0 yX0_holder yX0_holder, Cond.code yX0_holder cX0_holder 6 (some .int), Cond.methodLink RX0 110 yX0_holds, Cond.instanceMethod yX0_holds, Cond.selects RX0 yX0_holds yX0_holds, Cond.code yX0_holds cX0_holds 17 (some .boolean), Cond.methodLink RX0 131 yX0_turnToPoint, Cond.instanceMethod yX0_turnToPoint, Cond.selects RX0 yX0_turnToPoint yX0_turnToPoint, Cond.code yX0_turnToPoint cX0_turnToPoint 7 (some .double), Cond.methodLink RL 68 yX1_holder, Cond.instanceMethod yX1_holder, Cond.selects RX1 yX1_holder yX1_holder, Cond.code yX1_holder cX1_holder 14 (some .int), Cond.methodLink RX1 143 yX1_side, Cond.instanceMethod yX1_side, Cond.selects RX1 yX1_side yX1_side, Cond.code yX1_side cX1_side 7 (some .int), Cond.methodLink RL 69 yX0_square, Cond.instanceMethod yX0_square, Cond.selects RX0 yX0_square yX0_square, Cond.code yX0_square cX0_square 6 (some .double), Cond.constantDouble RX0 114 (13835058055282163712)]
def wsL_law_r17 : List Cond := [Cond.constantDouble RX0 116 (13830554455654793216), Cond.methodLink RL 73 yX1_square, Cond.instanceMethod yX1_square, Cond.selects RX1 yX1_square yX1_square, Cond.code yX1_square cX1_square 6 (some .double), Cond.constantDouble RX1 147 (13835058055282163712), Cond.constantDouble RX1 149 (13830554455654793216), Cond.constantDouble RX1 151 (4634204016564240384), Cond.methodLink RL 74 yX0_tree, Cond.instanceMethod yX0_tree, Cond.selects RX0 yX0_tree yX0_tree, Cond.code yX0_tree cX0_tree 2 (some .int), Cond.methodLink RL 77 yX1_tree, Cond.instanceMethod yX1_tree, Cond.selects RX1 yX1_tree yX1_tree, Cond.code yX1_tree cX1_tree 2 (some .int), Cond.methodLink RL 78 yX0_total, Cond.instanceMethod yX0_total, Cond.selects RX0 yX0_total yX0_total, Cond.code yX0_total cX0_total 1 (some .long), Cond.methodLink RL 82 yX1_total, Cond.instanceMethod yX1_total, Cond.selects RX1 yX1_total yX1_total, Cond.code yX1_total cX1_total 1 (some .long)]
def wsL_law_r18 : List Cond := [Cond.methodLink RL 83 yX0_bounded, Cond.instanceMethod yX0_bounded, Cond.selects RX0 yX0_bounded yX0_bounded, Cond.code yX0_bounded cX0_bounded 3 (some .boolean), Cond.methodLink RX0 118 yX0_noneTurnsRight, Cond.instanceMethod yX0_noneTurnsRight, Cond.selects RX0 yX0_noneTurnsRight yX0_noneTurnsRight, Cond.code yX0_noneTurnsRight cX0_noneTurnsRight 4 (some .boolean), Cond.methodLink RL 87 yX1_bounded, Cond.instanceMethod yX1_bounded, Cond.selects RX1 yX1_bounded yX1_bounded, Cond.code yX1_bounded cX1_bounded 6 (some .boolean)]
def wsL_law : List Cond := (wsL_law_r1 ++ (wsL_law_r2 ++ (wsL_law_r3 ++ (wsL_law_r4 ++ (wsL_law_r5 ++ (wsL_law_r6 ++ (wsL_law_r7 ++ (wsL_law_r8 ++ (wsL_law_r9 ++ (wsL_law_r10 ++ (wsL_law_r11 ++ (wsL_law_r12 ++ (wsL_law_r13 ++ (wsL_law_r14 ++ (wsL_law_r15 ++ (wsL_law_r16 ++ (wsL_law_r17 ++ wsL_law_r18))))))))))))))))) ++ wsX00 ++ wsX10 ++ ([] : List Cond)
end
section
set_option maxRecDepth 20000 in
theorem wsL_law_r1_in : ∀ w ∈ wsL_law_r1, w ∈ lw_tbl := fun w h => (goodIn_p wsL_law_r1 [62, 65] (by decide +kernel) (by decide +kernel) w h).1
set_option maxRecDepth 20000 in
theorem wsL_law_r2_in : ∀ w ∈ wsL_law_r2, w ∈ lw_tbl := fun w h => (goodIn_p wsL_law_r2 [320, 107, 110] (by decide +kernel) (by decide +kernel) w h).1
set_option maxRecDepth 20000 in
theorem wsL_law_r3_in : ∀ w ∈ wsL_law_r3, w ∈ lw_tbl := fun w h => (goodIn_p wsL_law_r3 [114, 118, 122, 126, 130, 134] (by decide +kernel) (by decide +kernel) w h).1
set_option maxRecDepth 20000 in
theorem wsL_law_r4_in : ∀ w ∈ wsL_law_r4, w ∈ lw_tbl := fun w h => (goodIn_p wsL_law_r4 [138, 142, 146, 151, 155, 159] (by decide +kernel) (by decide +kernel) w h).1
set_option maxRecDepth 20000 in
theorem wsL_law_r5_in : ∀ w ∈ wsL_law_r5, w ∈ lw_tbl := fun w h => (goodIn_p wsL_law_r5 [163, 167, 171, 175, 179, 183] (by decide +kernel) (by decide +kernel) w h).1
set_option maxRecDepth 20000 in
theorem wsL_law_r6_in : ∀ w ∈ wsL_law_r6, w ∈ lw_tbl := fun w h => (goodIn_p wsL_law_r6 [187, 191, 195, 199, 203, 207] (by decide +kernel) (by decide +kernel) w h).1
set_option maxRecDepth 20000 in
theorem wsL_law_r7_in : ∀ w ∈ wsL_law_r7, w ∈ lw_tbl := fun w h => (goodIn_p wsL_law_r7 [211, 215, 369, 373, 377] (by decide +kernel) (by decide +kernel) w h).1
set_option maxRecDepth 20000 in
theorem wsL_law_r8_in : ∀ w ∈ wsL_law_r8, w ∈ lw_tbl := fun w h => (goodIn_p wsL_law_r8 [381, 385, 389, 393, 397, 402] (by decide +kernel) (by decide +kernel) w h).1
set_option maxRecDepth 20000 in
theorem wsL_law_r9_in : ∀ w ∈ wsL_law_r9, w ∈ lw_tbl := fun w h => (goodIn_p wsL_law_r9 [406, 410, 414, 418, 422] (by decide +kernel) (by decide +kernel) w h).1
set_option maxRecDepth 20000 in
theorem wsL_law_r10_in : ∀ w ∈ wsL_law_r10, w ∈ lw_tbl := fun w h => (goodIn_p wsL_law_r10 [426, 430, 434, 219, 438, 223] (by decide +kernel) (by decide +kernel) w h).1
set_option maxRecDepth 20000 in
theorem wsL_law_r11_in : ∀ w ∈ wsL_law_r11, w ∈ lw_tbl := fun w h => (goodIn_p wsL_law_r11 [442, 227, 446, 450, 231, 235] (by decide +kernel) (by decide +kernel) w h).1
set_option maxRecDepth 20000 in
theorem wsL_law_r12_in : ∀ w ∈ wsL_law_r12, w ∈ lw_tbl := fun w h => (goodIn_p wsL_law_r12 [454, 239, 243, 246, 458, 463] (by decide +kernel) (by decide +kernel) w h).1
set_option maxRecDepth 20000 in
theorem wsL_law_r13_in : ∀ w ∈ wsL_law_r13, w ∈ lw_tbl := fun w h => (goodIn_p wsL_law_r13 [250, 467, 471, 254, 257] (by decide +kernel) (by decide +kernel) w h).1
set_option maxRecDepth 20000 in
theorem wsL_law_r14_in : ∀ w ∈ wsL_law_r14, w ∈ lw_tbl := fun w h => (goodIn_p wsL_law_r14 [475, 264, 479, 268, 483, 272] (by decide +kernel) (by decide +kernel) w h).1
set_option maxRecDepth 20000 in
theorem wsL_law_r15_in : ∀ w ∈ wsL_law_r15, w ∈ lw_tbl := fun w h => (goodIn_p wsL_law_r15 [275, 281, 487, 491, 498] (by decide +kernel) (by decide +kernel) w h).1
set_option maxRecDepth 20000 in
theorem wsL_law_r16_in : ∀ w ∈ wsL_law_r16, w ∈ lw_tbl := fun w h => (goodIn_p wsL_law_r16 [285, 289, 293, 503, 507, 297] (by decide +kernel) (by decide +kernel) w h).1
set_option maxRecDepth 20000 in
theorem wsL_law_r17_in : ∀ w ∈ wsL_law_r17, w ∈ lw_tbl := fun w h => (goodIn_p wsL_law_r17 [511, 303, 518, 307, 522] (by decide +kernel) (by decide +kernel) w h).1
set_option maxRecDepth 20000 in
theorem wsL_law_r18_in : ∀ w ∈ wsL_law_r18, w ∈ lw_tbl := fun w h => (goodIn_p wsL_law_r18 [311, 315, 526] (by decide +kernel) (by decide +kernel) w h).1
set_option maxRecDepth 20000 in
theorem wsX00_in : ∀ w ∈ wsX00, w ∈ lw_tbl := fun w h => (goodIn_p wsX00 [] (by decide +kernel) (by decide +kernel) w h).1
set_option maxRecDepth 20000 in
theorem wsX10_in : ∀ w ∈ wsX10, w ∈ lw_tbl := fun w h => (goodIn_p wsX10 [] (by decide +kernel) (by decide +kernel) w h).1
theorem wsL_law_in : ∀ w ∈ wsL_law, w ∈ lw_tbl := fun w h => (List.mem_append.mp h).elim (fun h => (List.mem_append.mp h).elim (fun h => (List.mem_append.mp h).elim (fun h => (List.mem_append.mp h).elim (wsL_law_r1_in w) (fun h => (List.mem_append.mp h).elim (wsL_law_r2_in w) (fun h => (List.mem_append.mp h).elim (wsL_law_r3_in w) (fun h => (List.mem_append.mp h).elim (wsL_law_r4_in w) (fun h => (List.mem_append.mp h).elim (wsL_law_r5_in w) (fun h => (List.mem_append.mp h).elim (wsL_law_r6_in w) (fun h => (List.mem_append.mp h).elim (wsL_law_r7_in w) (fun h => (List.mem_append.mp h).elim (wsL_law_r8_in w) (fun h => (List.mem_append.mp h).elim (wsL_law_r9_in w) (fun h => (List.mem_append.mp h).elim (wsL_law_r10_in w) (fun h => (List.mem_append.mp h).elim (wsL_law_r11_in w) (fun h => (List.mem_append.mp h).elim (wsL_law_r12_in w) (fun h => (List.mem_append.mp h).elim (wsL_law_r13_in w) (fun h => (List.mem_append.mp h).elim (wsL_law_r14_in w) (fun h => (List.mem_append.mp h).elim (wsL_law_r15_in w) (fun h => (List.mem_append.mp h).elim (wsL_law_r16_in w) (fun h => (List.mem_append.mp h).elim (wsL_law_r17_in w) (fun h => wsL_law_r18_in w h)))))))))))))))))) (wsX00_in w)) (wsX10_in w)) (fun h => absurd h List.not_mem_nil)
end
section
theorem inlX0 : ∀ w ∈ wsX00, w ∈ wsL_law := fun _ h => List.mem_append_left _ (List.mem_append_left _ (List.mem_append_right _ h))
theorem inX0 : ∀ w ∈ wsX00, w ∈ lw_tbl := fun w h => wsL_law_in w (inlX0 w h)
theorem inlX1 : ∀ w ∈ wsX10, w ∈ wsL_law := fun _ h => List.mem_append_left _ (List.mem_append_right _ h)
theorem inX1 : ∀ w ∈ wsX10, w ∈ lw_tbl := fun w h => wsL_law_in w (inlX1 w h)
theorem inJ6 : ∀ w ∈ wsJ60, w ∈ lw_tbl := by decide +kernel
theorem inJ9 : ∀ w ∈ wsJ90, w ∈ lw_tbl := by decide +kernel
theorem dX0_init_0 : decode cX0_init 0 = .ok (.aload_n 0, 1) := by decide +kernel
theorem dX0_init_1 : decode cX0_init 1 = .ok (.invokespecial 3, 3) := by decide +kernel
theorem dX0_init_4 : decode cX0_init 4 = .ok (.aload_n 0, 1) := by decide +kernel
theorem dX0_init_5 : decode cX0_init 5 = .ok (.bipush 14, 2) := by decide +kernel
theorem dX0_init_7 : decode cX0_init 7 = .ok (.newarray .int, 2) := by decide +kernel
theorem dX0_init_9 : decode cX0_init 9 = .ok (.putfield 9, 3) := by decide +kernel
theorem dX0_init_12 : decode cX0_init 12 = .ok (.aload_n 0, 1) := by decide +kernel
theorem dX0_init_13 : decode cX0_init 13 = .ok (.bipush 14, 2) := by decide +kernel
theorem dX0_init_15 : decode cX0_init 15 = .ok (.newarray .int, 2) := by decide +kernel
theorem dX0_init_17 : decode cX0_init 17 = .ok (.putfield 13, 3) := by decide +kernel
theorem dX0_init_20 : decode cX0_init 20 = .ok (.aload_n 0, 1) := by decide +kernel
theorem dX0_init_21 : decode cX0_init 21 = .ok (.iconst 0, 1) := by decide +kernel
theorem dX0_init_22 : decode cX0_init 22 = .ok (.putfield 16, 3) := by decide +kernel
theorem dX0_init_25 : decode cX0_init 25 = .ok (.aload_n 0, 1) := by decide +kernel
theorem dX0_init_26 : decode cX0_init 26 = .ok (.bipush 23, 2) := by decide +kernel
theorem dX0_init_28 : decode cX0_init 28 = .ok (.newarray .int, 2) := by decide +kernel
theorem dX0_init_30 : decode cX0_init 30 = .ok (.putfield 20, 3) := by decide +kernel
theorem dX0_init_33 : decode cX0_init 33 = .ok (.aload_n 0, 1) := by decide +kernel
theorem dX0_init_34 : decode cX0_init 34 = .ok (.iconst 0, 1) := by decide +kernel
theorem dX0_init_35 : decode cX0_init 35 = .ok (.putfield 23, 3) := by decide +kernel
theorem dX0_init_38 : decode cX0_init 38 = .ok (.aload_n 0, 1) := by decide +kernel
theorem dX0_init_39 : decode cX0_init 39 = .ok (.bipush 14, 2) := by decide +kernel
theorem dX0_init_41 : decode cX0_init 41 = .ok (.newarray .int, 2) := by decide +kernel
theorem dX0_init_43 : decode cX0_init 43 = .ok (.putfield 26, 3) := by decide +kernel
theorem dX0_init_46 : decode cX0_init 46 = .ok (.aload_n 0, 1) := by decide +kernel
theorem dX0_init_47 : decode cX0_init 47 = .ok (.bipush 14, 2) := by decide +kernel
theorem dX0_init_49 : decode cX0_init 49 = .ok (.newarray .int, 2) := by decide +kernel
theorem dX0_init_51 : decode cX0_init 51 = .ok (.putfield 29, 3) := by decide +kernel
theorem dX0_init_54 : decode cX0_init 54 = .ok (.aload_n 0, 1) := by decide +kernel
theorem dX0_init_55 : decode cX0_init 55 = .ok (.iconst 0, 1) := by decide +kernel
theorem dX0_init_56 : decode cX0_init 56 = .ok (.putfield 32, 3) := by decide +kernel
theorem dX0_init_59 : decode cX0_init 59 = .ok (.aload_n 0, 1) := by decide +kernel
theorem dX0_init_60 : decode cX0_init 60 = .ok (.bipush 13, 2) := by decide +kernel
theorem dX0_init_62 : decode cX0_init 62 = .ok (.newarray .int, 2) := by decide +kernel
theorem dX0_init_64 : decode cX0_init 64 = .ok (.putfield 35, 3) := by decide +kernel
theorem dX0_init_67 : decode cX0_init 67 = .ok (.aload_n 0, 1) := by decide +kernel
theorem dX0_init_68 : decode cX0_init 68 = .ok (.iconst 0, 1) := by decide +kernel
theorem dX0_init_69 : decode cX0_init 69 = .ok (.putfield 38, 3) := by decide +kernel
theorem dX0_init_72 : decode cX0_init 72 = .ok (.aload_n 0, 1) := by decide +kernel
theorem dX0_init_73 : decode cX0_init 73 = .ok (.lconst 0, 1) := by decide +kernel
theorem dX0_init_74 : decode cX0_init 74 = .ok (.putfield 41, 3) := by decide +kernel
theorem dX0_init_77 : decode cX0_init 77 = .ok (.aload_n 0, 1) := by decide +kernel
theorem dX0_init_78 : decode cX0_init 78 = .ok (.bipush 14, 2) := by decide +kernel
theorem dX0_init_80 : decode cX0_init 80 = .ok (.newarray .int, 2) := by decide +kernel
theorem dX0_init_82 : decode cX0_init 82 = .ok (.putfield 45, 3) := by decide +kernel
theorem dX0_init_85 : decode cX0_init 85 = .ok (.return_, 1) := by decide +kernel
set_option maxRecDepth 20000 in
theorem ggX0_add_X0_isTooFar : GoodIn wsX0_add wsX0_isTooFar := goodIn_r _ [7] (by decide +kernel) (by decide +kernel)
set_option maxRecDepth 20000 in
theorem gX0_add_X0_isTooFar : GoodIn wsX0_add (va_wsS RX0 48 yX0_isTooFar wsX0_isTooFar) := goodIn_app (goodIn_of _ (by decide +kernel)) ggX0_add_X0_isTooFar
set_option maxRecDepth 20000 in
theorem ggX0_add_X0_siteAt : GoodIn wsX0_add wsX0_siteAt := goodIn_r _ [11, 1, 2, 3, 122, 123, 124, 125, 126, 127, 128, 129, 130, 131, 132, 133] (by decide +kernel) (by decide +kernel)
set_option maxRecDepth 20000 in
theorem gX0_add_X0_siteAt : GoodIn wsX0_add (wsV RX0 52 RX0 yX0_siteAt wsX0_siteAt) := goodIn_app (goodIn_of _ (by decide +kernel)) ggX0_add_X0_siteAt
set_option maxRecDepth 20000 in
theorem ggX0_add_X0_rebuild : GoodIn wsX0_add wsX0_rebuild := goodIn_r _ [15, 16, 17, 18, 6, 19, 20, 1, 21, 22, 23, 24, 25, 26, 27, 28, 29, 30, 31, 32, 2, 33, 34, 35, 36, 3, 37, 38, 39, 40, 41, 42, 43, 44, 45, 46, 47, 48, 49, 50, 51, 52, 53, 54, 55, 56, 57, 58, 59, 60, 61, 62, 63, 64, 65, 66, 67, 68, 69, 70, 71, 72, 73, 74, 75, 76, 77, 78, 79, 80, 81, 82, 83, 84, 85, 86, 87, 88, 89, 90, 91, 92, 93, 94, 95, 96, 97, 98, 99, 100, 101, 102, 103, 104, 105, 106, 107, 108, 109, 110, 111, 112, 113, 114, 115, 116, 117, 118, 119, 120, 121, 122, 123, 124, 125, 126, 127, 128, 129, 130, 131, 132, 133] (by decide +kernel) (by decide +kernel)
set_option maxRecDepth 20000 in
theorem gX0_add_X0_rebuild : GoodIn wsX0_add (wsV RX0 56 RX0 yX0_rebuild wsX0_rebuild) := goodIn_app (goodIn_of _ (by decide +kernel)) ggX0_add_X0_rebuild
theorem dX0_add_0 : decode cX0_add 0 = .ok (.iload_n 1, 1) := by decide +kernel
theorem dX0_add_1 : decode cX0_add 1 = .ok (.invokestatic 48, 3) := by decide +kernel
theorem dX0_add_4 : decode cX0_add 4 = .ok (.ifCond .ne 10, 3) := by decide +kernel
theorem dX0_add_7 : decode cX0_add 7 = .ok (.iload_n 2, 1) := by decide +kernel
theorem dX0_add_8 : decode cX0_add 8 = .ok (.invokestatic 48, 3) := by decide +kernel
theorem dX0_add_11 : decode cX0_add 11 = .ok (.ifCond .eq 5, 3) := by decide +kernel
theorem dX0_add_14 : decode cX0_add 14 = .ok (.iconst (-1), 1) := by decide +kernel
theorem dX0_add_15 : decode cX0_add 15 = .ok (.ireturn, 1) := by decide +kernel
theorem dX0_add_16 : decode cX0_add 16 = .ok (.aload_n 0, 1) := by decide +kernel
theorem dX0_add_17 : decode cX0_add 17 = .ok (.iload_n 1, 1) := by decide +kernel
theorem dX0_add_18 : decode cX0_add 18 = .ok (.iload_n 2, 1) := by decide +kernel
theorem dX0_add_19 : decode cX0_add 19 = .ok (.invokevirtual 52, 3) := by decide +kernel
theorem dX0_add_22 : decode cX0_add 22 = .ok (.istore_n 3, 1) := by decide +kernel
theorem dX0_add_23 : decode cX0_add 23 = .ok (.iload_n 3, 1) := by decide +kernel
theorem dX0_add_24 : decode cX0_add 24 = .ok (.ifCond .lt 5, 3) := by decide +kernel
theorem dX0_add_27 : decode cX0_add 27 = .ok (.iload_n 3, 1) := by decide +kernel
theorem dX0_add_28 : decode cX0_add 28 = .ok (.ireturn, 1) := by decide +kernel
theorem dX0_add_29 : decode cX0_add 29 = .ok (.aload_n 0, 1) := by decide +kernel
theorem dX0_add_30 : decode cX0_add 30 = .ok (.getfield 16, 3) := by decide +kernel
theorem dX0_add_33 : decode cX0_add 33 = .ok (.bipush 14, 2) := by decide +kernel
theorem dX0_add_35 : decode cX0_add 35 = .ok (.if_icmp .lt 6, 3) := by decide +kernel
theorem dX0_add_38 : decode cX0_add 38 = .ok (.bipush (-2), 2) := by decide +kernel
theorem dX0_add_40 : decode cX0_add 40 = .ok (.ireturn, 1) := by decide +kernel
theorem dX0_add_41 : decode cX0_add 41 = .ok (.aload_n 0, 1) := by decide +kernel
theorem dX0_add_42 : decode cX0_add 42 = .ok (.getfield 16, 3) := by decide +kernel
theorem dX0_add_45 : decode cX0_add 45 = .ok (.istore 4, 2) := by decide +kernel
theorem dX0_add_47 : decode cX0_add 47 = .ok (.aload_n 0, 1) := by decide +kernel
theorem dX0_add_48 : decode cX0_add 48 = .ok (.getfield 9, 3) := by decide +kernel
theorem dX0_add_51 : decode cX0_add 51 = .ok (.iload 4, 2) := by decide +kernel
theorem dX0_add_53 : decode cX0_add 53 = .ok (.iload_n 1, 1) := by decide +kernel
theorem dX0_add_54 : decode cX0_add 54 = .ok (.iastore, 1) := by decide +kernel
theorem dX0_add_55 : decode cX0_add 55 = .ok (.aload_n 0, 1) := by decide +kernel
theorem dX0_add_56 : decode cX0_add 56 = .ok (.getfield 13, 3) := by decide +kernel
theorem dX0_add_59 : decode cX0_add 59 = .ok (.iload 4, 2) := by decide +kernel
theorem dX0_add_61 : decode cX0_add 61 = .ok (.iload_n 2, 1) := by decide +kernel
theorem dX0_add_62 : decode cX0_add 62 = .ok (.iastore, 1) := by decide +kernel
theorem dX0_add_63 : decode cX0_add 63 = .ok (.aload_n 0, 1) := by decide +kernel
theorem dX0_add_64 : decode cX0_add 64 = .ok (.iload 4, 2) := by decide +kernel
theorem dX0_add_66 : decode cX0_add 66 = .ok (.iconst 1, 1) := by decide +kernel
theorem dX0_add_67 : decode cX0_add 67 = .ok (.iadd, 1) := by decide +kernel
theorem dX0_add_68 : decode cX0_add 68 = .ok (.putfield 16, 3) := by decide +kernel
theorem dX0_add_71 : decode cX0_add 71 = .ok (.aload_n 0, 1) := by decide +kernel
theorem dX0_add_72 : decode cX0_add 72 = .ok (.invokevirtual 56, 3) := by decide +kernel
theorem dX0_add_75 : decode cX0_add 75 = .ok (.iload 4, 2) := by decide +kernel
theorem dX0_add_77 : decode cX0_add 77 = .ok (.ireturn, 1) := by decide +kernel
theorem dX0_sites_0 : decode cX0_sites 0 = .ok (.aload_n 0, 1) := by decide +kernel
theorem dX0_sites_1 : decode cX0_sites 1 = .ok (.getfield 16, 3) := by decide +kernel
theorem dX0_sites_4 : decode cX0_sites 4 = .ok (.ireturn, 1) := by decide +kernel
theorem dX0_triangles_0 : decode cX0_triangles 0 = .ok (.aload_n 0, 1) := by decide +kernel
theorem dX0_triangles_1 : decode cX0_triangles 1 = .ok (.getfield 23, 3) := by decide +kernel
theorem dX0_triangles_4 : decode cX0_triangles 4 = .ok (.ireturn, 1) := by decide +kernel
set_option maxRecDepth 20000 in
theorem ggX0_triangle_X0_isTriangle : GoodIn wsX0_triangle wsX0_isTriangle := goodIn_r _ [6, 7, 8, 9, 10, 11, 12, 13, 14, 15, 16, 17, 18, 19] (by decide +kernel) (by decide +kernel)
set_option maxRecDepth 20000 in
theorem gX0_triangle_X0_isTriangle : GoodIn wsX0_triangle (wsV RX0 59 RX0 yX0_isTriangle wsX0_isTriangle) := goodIn_app (goodIn_of _ (by decide +kernel)) ggX0_triangle_X0_isTriangle
theorem dX0_triangle_0 : decode cX0_triangle 0 = .ok (.aload_n 0, 1) := by decide +kernel
theorem dX0_triangle_1 : decode cX0_triangle 1 = .ok (.iload_n 1, 1) := by decide +kernel
theorem dX0_triangle_2 : decode cX0_triangle 2 = .ok (.invokevirtual 59, 3) := by decide +kernel
theorem dX0_triangle_5 : decode cX0_triangle 5 = .ok (.ifCond .eq 12, 3) := by decide +kernel
theorem dX0_triangle_8 : decode cX0_triangle 8 = .ok (.aload_n 0, 1) := by decide +kernel
theorem dX0_triangle_9 : decode cX0_triangle 9 = .ok (.getfield 20, 3) := by decide +kernel
theorem dX0_triangle_12 : decode cX0_triangle 12 = .ok (.iload_n 1, 1) := by decide +kernel
theorem dX0_triangle_13 : decode cX0_triangle 13 = .ok (.iaload, 1) := by decide +kernel
theorem dX0_triangle_14 : decode cX0_triangle 14 = .ok (.goto 4, 3) := by decide +kernel
theorem dX0_triangle_17 : decode cX0_triangle 17 = .ok (.iconst (-1), 1) := by decide +kernel
theorem dX0_triangle_18 : decode cX0_triangle 18 = .ok (.ireturn, 1) := by decide +kernel
set_option maxRecDepth 20000 in
theorem ggX0_beyond_X0_isTriangle : GoodIn wsX0_beyond wsX0_isTriangle := goodIn_r _ [6, 1, 16, 17, 18, 19, 20, 21, 22, 23, 24, 25, 26, 27] (by decide +kernel) (by decide +kernel)
set_option maxRecDepth 20000 in
theorem gX0_beyond_X0_isTriangle : GoodIn wsX0_beyond (wsV RX0 59 RX0 yX0_isTriangle wsX0_isTriangle) := goodIn_app (goodIn_of _ (by decide +kernel)) ggX0_beyond_X0_isTriangle
set_option maxRecDepth 20000 in
theorem ggX0_beyond_X0_triangleCorner : GoodIn wsX0_beyond wsX0_triangleCorner := goodIn_r _ [10, 11, 2, 3, 4, 5, 6, 1, 16, 17, 18, 19, 20, 21, 22, 23, 24, 25, 26, 27] (by decide +kernel) (by decide +kernel)
set_option maxRecDepth 20000 in
theorem gX0_beyond_X0_triangleCorner : GoodIn wsX0_beyond (wsV RX0 62 RX0 yX0_triangleCorner wsX0_triangleCorner) := goodIn_app (goodIn_of _ (by decide +kernel)) ggX0_beyond_X0_triangleCorner
set_option maxRecDepth 20000 in
theorem ggX0_beyond_X0_hasCorner : GoodIn wsX0_beyond wsX0_hasCorner := goodIn_r _ [15, 7, 8, 9, 5, 10, 11, 2, 3, 4, 6, 1, 16, 17, 18, 19, 20, 21, 22, 23, 24, 25, 26, 27] (by decide +kernel) (by decide +kernel)
set_option maxRecDepth 20000 in
theorem gX0_beyond_X0_hasCorner : GoodIn wsX0_beyond (wsV RX0 65 RX0 yX0_hasCorner wsX0_hasCorner) := goodIn_app (goodIn_of _ (by decide +kernel)) ggX0_beyond_X0_hasCorner
theorem dX0_beyond_0 : decode cX0_beyond 0 = .ok (.aload_n 0, 1) := by decide +kernel
theorem dX0_beyond_1 : decode cX0_beyond 1 = .ok (.iload_n 1, 1) := by decide +kernel
theorem dX0_beyond_2 : decode cX0_beyond 2 = .ok (.invokevirtual 59, 3) := by decide +kernel
theorem dX0_beyond_5 : decode cX0_beyond 5 = .ok (.ifCond .eq 12, 3) := by decide +kernel
theorem dX0_beyond_8 : decode cX0_beyond 8 = .ok (.iload_n 2, 1) := by decide +kernel
theorem dX0_beyond_9 : decode cX0_beyond 9 = .ok (.ifCond .lt 8, 3) := by decide +kernel
theorem dX0_beyond_12 : decode cX0_beyond 12 = .ok (.iload_n 2, 1) := by decide +kernel
theorem dX0_beyond_13 : decode cX0_beyond 13 = .ok (.iconst 2, 1) := by decide +kernel
theorem dX0_beyond_14 : decode cX0_beyond 14 = .ok (.if_icmp .le 5, 3) := by decide +kernel
theorem dX0_beyond_17 : decode cX0_beyond 17 = .ok (.iconst (-1), 1) := by decide +kernel
theorem dX0_beyond_18 : decode cX0_beyond 18 = .ok (.ireturn, 1) := by decide +kernel
theorem dX0_beyond_19 : decode cX0_beyond 19 = .ok (.aload_n 0, 1) := by decide +kernel
theorem dX0_beyond_20 : decode cX0_beyond 20 = .ok (.iload_n 1, 1) := by decide +kernel
theorem dX0_beyond_21 : decode cX0_beyond 21 = .ok (.iload_n 2, 1) := by decide +kernel
theorem dX0_beyond_22 : decode cX0_beyond 22 = .ok (.ifCond .ne 7, 3) := by decide +kernel
theorem dX0_beyond_25 : decode cX0_beyond 25 = .ok (.iconst 1, 1) := by decide +kernel
theorem dX0_beyond_26 : decode cX0_beyond 26 = .ok (.goto 4, 3) := by decide +kernel
theorem dX0_beyond_29 : decode cX0_beyond 29 = .ok (.iconst 0, 1) := by decide +kernel
theorem dX0_beyond_30 : decode cX0_beyond 30 = .ok (.invokevirtual 62, 3) := by decide +kernel
theorem dX0_beyond_33 : decode cX0_beyond 33 = .ok (.istore_n 3, 1) := by decide +kernel
theorem dX0_beyond_34 : decode cX0_beyond 34 = .ok (.aload_n 0, 1) := by decide +kernel
theorem dX0_beyond_35 : decode cX0_beyond 35 = .ok (.iload_n 1, 1) := by decide +kernel
theorem dX0_beyond_36 : decode cX0_beyond 36 = .ok (.iload_n 2, 1) := by decide +kernel
theorem dX0_beyond_37 : decode cX0_beyond 37 = .ok (.iconst 2, 1) := by decide +kernel
theorem dX0_beyond_38 : decode cX0_beyond 38 = .ok (.if_icmp .ne 7, 3) := by decide +kernel
theorem dX0_beyond_41 : decode cX0_beyond 41 = .ok (.iconst 1, 1) := by decide +kernel
theorem dX0_beyond_42 : decode cX0_beyond 42 = .ok (.goto 4, 3) := by decide +kernel
theorem dX0_beyond_45 : decode cX0_beyond 45 = .ok (.iconst 2, 1) := by decide +kernel
theorem dX0_beyond_46 : decode cX0_beyond 46 = .ok (.invokevirtual 62, 3) := by decide +kernel
theorem dX0_beyond_49 : decode cX0_beyond 49 = .ok (.istore 4, 2) := by decide +kernel
theorem dX0_beyond_51 : decode cX0_beyond 51 = .ok (.iconst 0, 1) := by decide +kernel
theorem dX0_beyond_52 : decode cX0_beyond 52 = .ok (.istore 5, 2) := by decide +kernel
theorem dX0_beyond_54 : decode cX0_beyond 54 = .ok (.iload 5, 2) := by decide +kernel
theorem dX0_beyond_56 : decode cX0_beyond 56 = .ok (.aload_n 0, 1) := by decide +kernel
theorem dX0_beyond_57 : decode cX0_beyond 57 = .ok (.getfield 23, 3) := by decide +kernel
theorem dX0_beyond_60 : decode cX0_beyond 60 = .ok (.if_icmp .ge 39, 3) := by decide +kernel
theorem dX0_beyond_63 : decode cX0_beyond 63 = .ok (.iload 5, 2) := by decide +kernel
theorem dX0_beyond_65 : decode cX0_beyond 65 = .ok (.iload_n 1, 1) := by decide +kernel
theorem dX0_beyond_66 : decode cX0_beyond 66 = .ok (.if_icmp .eq 27, 3) := by decide +kernel
theorem dX0_beyond_69 : decode cX0_beyond 69 = .ok (.aload_n 0, 1) := by decide +kernel
theorem dX0_beyond_70 : decode cX0_beyond 70 = .ok (.iload 5, 2) := by decide +kernel
theorem dX0_beyond_72 : decode cX0_beyond 72 = .ok (.iload_n 3, 1) := by decide +kernel
theorem dX0_beyond_73 : decode cX0_beyond 73 = .ok (.invokevirtual 65, 3) := by decide +kernel
theorem dX0_beyond_76 : decode cX0_beyond 76 = .ok (.ifCond .eq 17, 3) := by decide +kernel
theorem dX0_beyond_79 : decode cX0_beyond 79 = .ok (.aload_n 0, 1) := by decide +kernel
theorem dX0_beyond_80 : decode cX0_beyond 80 = .ok (.iload 5, 2) := by decide +kernel
theorem dX0_beyond_82 : decode cX0_beyond 82 = .ok (.iload 4, 2) := by decide +kernel
theorem dX0_beyond_84 : decode cX0_beyond 84 = .ok (.invokevirtual 65, 3) := by decide +kernel
theorem dX0_beyond_87 : decode cX0_beyond 87 = .ok (.ifCond .eq 6, 3) := by decide +kernel
theorem dX0_beyond_90 : decode cX0_beyond 90 = .ok (.iload 5, 2) := by decide +kernel
theorem dX0_beyond_92 : decode cX0_beyond 92 = .ok (.ireturn, 1) := by decide +kernel
theorem dX0_beyond_93 : decode cX0_beyond 93 = .ok (.iinc 5 1, 3) := by decide +kernel
theorem dX0_beyond_96 : decode cX0_beyond 96 = .ok (.goto (-42), 3) := by decide +kernel
theorem dX0_beyond_99 : decode cX0_beyond 99 = .ok (.iconst (-1), 1) := by decide +kernel
theorem dX0_beyond_100 : decode cX0_beyond 100 = .ok (.ireturn, 1) := by decide +kernel
set_option maxRecDepth 20000 in
theorem ggX0_centre_X0_isTriangle : GoodIn wsX0_centre wsX0_isTriangle := goodIn_r _ [6, 7, 39, 40, 41, 42, 43, 44, 45, 46, 47, 48, 49, 50] (by decide +kernel) (by decide +kernel)
set_option maxRecDepth 20000 in
theorem gX0_centre_X0_isTriangle : GoodIn wsX0_centre (wsV RX0 59 RX0 yX0_isTriangle wsX0_isTriangle) := goodIn_app (goodIn_of _ (by decide +kernel)) ggX0_centre_X0_isTriangle
set_option maxRecDepth 20000 in
theorem ggX0_centre_X0_triangleCorner : GoodIn wsX0_centre wsX0_triangleCorner := goodIn_r _ [11, 12, 2, 3, 4, 5, 6, 7, 39, 40, 41, 42, 43, 44, 45, 46, 47, 48, 49, 50] (by decide +kernel) (by decide +kernel)
set_option maxRecDepth 20000 in
theorem gX0_centre_X0_triangleCorner : GoodIn wsX0_centre (wsV RX0 62 RX0 yX0_triangleCorner wsX0_triangleCorner) := goodIn_app (goodIn_of _ (by decide +kernel)) ggX0_centre_X0_triangleCorner
set_option maxRecDepth 20000 in
theorem ggX0_centre_X0_turn : GoodIn wsX0_centre wsX0_turn := goodIn_r _ [16, 17, 18, 19, 5, 20, 21, 22, 23, 24, 25, 26, 27, 39, 40, 41, 42, 43, 44, 45, 46, 47, 48, 49, 50] (by decide +kernel) (by decide +kernel)
set_option maxRecDepth 20000 in
theorem gX0_centre_X0_turn : GoodIn wsX0_centre (wsV RX0 71 RX0 yX0_turn wsX0_turn) := goodIn_app (goodIn_of _ (by decide +kernel)) ggX0_centre_X0_turn
set_option maxRecDepth 20000 in
theorem ggX0_centre_X0_gap : GoodIn wsX0_centre wsX0_gap := goodIn_r _ [31, 17, 18, 19, 5, 20, 21, 22, 23, 24, 25, 26, 27, 39, 40, 41, 42, 43, 44, 45, 46, 47, 48, 49, 50] (by decide +kernel) (by decide +kernel)
set_option maxRecDepth 20000 in
theorem gX0_centre_X0_gap : GoodIn wsX0_centre (wsV RX0 75 RX0 yX0_gap wsX0_gap) := goodIn_app (goodIn_of _ (by decide +kernel)) ggX0_centre_X0_gap
set_option maxRecDepth 20000 in
theorem ggX0_centre_X0_xOf : GoodIn wsX0_centre wsX0_xOf := goodIn_r _ [20, 21, 22, 39, 40, 41, 42, 43, 44, 45, 46, 47, 48, 49, 50] (by decide +kernel) (by decide +kernel)
set_option maxRecDepth 20000 in
theorem gX0_centre_X0_xOf : GoodIn wsX0_centre (wsV RX0 79 RX0 yX0_xOf wsX0_xOf) := goodIn_app (goodIn_of _ (by decide +kernel)) ggX0_centre_X0_xOf
set_option maxRecDepth 20000 in
theorem ggX0_centre_X0_yOf : GoodIn wsX0_centre wsX0_yOf := goodIn_r _ [26, 21, 27, 39, 40, 41, 42, 43, 44, 45, 46, 47, 48, 49, 50] (by decide +kernel) (by decide +kernel)
set_option maxRecDepth 20000 in
theorem gX0_centre_X0_yOf : GoodIn wsX0_centre (wsV RX0 83 RX0 yX0_yOf wsX0_yOf) := goodIn_app (goodIn_of _ (by decide +kernel)) ggX0_centre_X0_yOf
set_option maxRecDepth 20000 in
theorem ggX0_centre_X0_commonDivisor : GoodIn wsX0_centre wsX0_commonDivisor := goodIn_r _ [34, 35, 36, 37, 38] (by decide +kernel) (by decide +kernel)
set_option maxRecDepth 20000 in
theorem gX0_centre_X0_commonDivisor : GoodIn wsX0_centre (va_wsS RX0 86 yX0_commonDivisor wsX0_commonDivisor) := goodIn_app (goodIn_of _ (by decide +kernel)) ggX0_centre_X0_commonDivisor
theorem dX0_centre_0 : decode cX0_centre 0 = .ok (.aload_n 0, 1) := by decide +kernel
theorem dX0_centre_1 : decode cX0_centre 1 = .ok (.iload_n 1, 1) := by decide +kernel
theorem dX0_centre_2 : decode cX0_centre 2 = .ok (.invokevirtual 59, 3) := by decide +kernel
theorem dX0_centre_5 : decode cX0_centre 5 = .ok (.ifCond .eq 12, 3) := by decide +kernel
theorem dX0_centre_8 : decode cX0_centre 8 = .ok (.iload_n 2, 1) := by decide +kernel
theorem dX0_centre_9 : decode cX0_centre 9 = .ok (.ifCond .lt 8, 3) := by decide +kernel
theorem dX0_centre_12 : decode cX0_centre 12 = .ok (.iload_n 2, 1) := by decide +kernel
theorem dX0_centre_13 : decode cX0_centre 13 = .ok (.iconst 2, 1) := by decide +kernel
theorem dX0_centre_14 : decode cX0_centre 14 = .ok (.if_icmp .le 5, 3) := by decide +kernel
theorem dX0_centre_17 : decode cX0_centre 17 = .ok (.lconst 0, 1) := by decide +kernel
theorem dX0_centre_18 : decode cX0_centre 18 = .ok (.lreturn, 1) := by decide +kernel
theorem dX0_centre_19 : decode cX0_centre 19 = .ok (.aload_n 0, 1) := by decide +kernel
theorem dX0_centre_20 : decode cX0_centre 20 = .ok (.iload_n 1, 1) := by decide +kernel
theorem dX0_centre_21 : decode cX0_centre 21 = .ok (.iconst 0, 1) := by decide +kernel
theorem dX0_centre_22 : decode cX0_centre 22 = .ok (.invokevirtual 62, 3) := by decide +kernel
theorem dX0_centre_25 : decode cX0_centre 25 = .ok (.istore_n 3, 1) := by decide +kernel
theorem dX0_centre_26 : decode cX0_centre 26 = .ok (.aload_n 0, 1) := by decide +kernel
theorem dX0_centre_27 : decode cX0_centre 27 = .ok (.iload_n 1, 1) := by decide +kernel
theorem dX0_centre_28 : decode cX0_centre 28 = .ok (.iconst 1, 1) := by decide +kernel
theorem dX0_centre_29 : decode cX0_centre 29 = .ok (.invokevirtual 62, 3) := by decide +kernel
theorem dX0_centre_32 : decode cX0_centre 32 = .ok (.istore 4, 2) := by decide +kernel
theorem dX0_centre_34 : decode cX0_centre 34 = .ok (.aload_n 0, 1) := by decide +kernel
theorem dX0_centre_35 : decode cX0_centre 35 = .ok (.iload_n 1, 1) := by decide +kernel
theorem dX0_centre_36 : decode cX0_centre 36 = .ok (.iconst 2, 1) := by decide +kernel
theorem dX0_centre_37 : decode cX0_centre 37 = .ok (.invokevirtual 62, 3) := by decide +kernel
theorem dX0_centre_40 : decode cX0_centre 40 = .ok (.istore 5, 2) := by decide +kernel
theorem dX0_centre_42 : decode cX0_centre 42 = .ok (.ldc2_w 69, 3) := by decide +kernel
theorem dX0_centre_45 : decode cX0_centre 45 = .ok (.aload_n 0, 1) := by decide +kernel
theorem dX0_centre_46 : decode cX0_centre 46 = .ok (.iload_n 3, 1) := by decide +kernel
theorem dX0_centre_47 : decode cX0_centre 47 = .ok (.iload 4, 2) := by decide +kernel
theorem dX0_centre_49 : decode cX0_centre 49 = .ok (.iload 5, 2) := by decide +kernel
theorem dX0_centre_51 : decode cX0_centre 51 = .ok (.invokevirtual 71, 3) := by decide +kernel
theorem dX0_centre_54 : decode cX0_centre 54 = .ok (.lmul, 1) := by decide +kernel
theorem dX0_centre_55 : decode cX0_centre 55 = .ok (.lstore 6, 2) := by decide +kernel
theorem dX0_centre_57 : decode cX0_centre 57 = .ok (.aload_n 0, 1) := by decide +kernel
theorem dX0_centre_58 : decode cX0_centre 58 = .ok (.iload_n 3, 1) := by decide +kernel
theorem dX0_centre_59 : decode cX0_centre 59 = .ok (.iload 4, 2) := by decide +kernel
theorem dX0_centre_61 : decode cX0_centre 61 = .ok (.invokevirtual 75, 3) := by decide +kernel
theorem dX0_centre_64 : decode cX0_centre 64 = .ok (.lstore 8, 2) := by decide +kernel
theorem dX0_centre_66 : decode cX0_centre 66 = .ok (.aload_n 0, 1) := by decide +kernel
theorem dX0_centre_67 : decode cX0_centre 67 = .ok (.iload_n 3, 1) := by decide +kernel
theorem dX0_centre_68 : decode cX0_centre 68 = .ok (.iload 5, 2) := by decide +kernel
theorem dX0_centre_70 : decode cX0_centre 70 = .ok (.invokevirtual 75, 3) := by decide +kernel
theorem dX0_centre_73 : decode cX0_centre 73 = .ok (.lstore 10, 2) := by decide +kernel
theorem dX0_centre_75 : decode cX0_centre 75 = .ok (.lload 6, 2) := by decide +kernel
theorem dX0_centre_77 : decode cX0_centre 77 = .ok (.aload_n 0, 1) := by decide +kernel
theorem dX0_centre_78 : decode cX0_centre 78 = .ok (.iload_n 3, 1) := by decide +kernel
theorem dX0_centre_79 : decode cX0_centre 79 = .ok (.invokevirtual 79, 3) := by decide +kernel
theorem dX0_centre_82 : decode cX0_centre 82 = .ok (.lmul, 1) := by decide +kernel
theorem dX0_centre_83 : decode cX0_centre 83 = .ok (.aload_n 0, 1) := by decide +kernel
theorem dX0_centre_84 : decode cX0_centre 84 = .ok (.iload 5, 2) := by decide +kernel
theorem dX0_centre_86 : decode cX0_centre 86 = .ok (.invokevirtual 83, 3) := by decide +kernel
theorem dX0_centre_89 : decode cX0_centre 89 = .ok (.aload_n 0, 1) := by decide +kernel
theorem dX0_centre_90 : decode cX0_centre 90 = .ok (.iload_n 3, 1) := by decide +kernel
theorem dX0_centre_91 : decode cX0_centre 91 = .ok (.invokevirtual 83, 3) := by decide +kernel
theorem dX0_centre_94 : decode cX0_centre 94 = .ok (.lsub, 1) := by decide +kernel
theorem dX0_centre_95 : decode cX0_centre 95 = .ok (.lload 8, 2) := by decide +kernel
theorem dX0_centre_97 : decode cX0_centre 97 = .ok (.lmul, 1) := by decide +kernel
theorem dX0_centre_98 : decode cX0_centre 98 = .ok (.ladd, 1) := by decide +kernel
theorem dX0_centre_99 : decode cX0_centre 99 = .ok (.aload_n 0, 1) := by decide +kernel
theorem dX0_centre_100 : decode cX0_centre 100 = .ok (.iload 4, 2) := by decide +kernel
theorem dX0_centre_102 : decode cX0_centre 102 = .ok (.invokevirtual 83, 3) := by decide +kernel
theorem dX0_centre_105 : decode cX0_centre 105 = .ok (.aload_n 0, 1) := by decide +kernel
theorem dX0_centre_106 : decode cX0_centre 106 = .ok (.iload_n 3, 1) := by decide +kernel
theorem dX0_centre_107 : decode cX0_centre 107 = .ok (.invokevirtual 83, 3) := by decide +kernel
theorem dX0_centre_110 : decode cX0_centre 110 = .ok (.lsub, 1) := by decide +kernel
theorem dX0_centre_111 : decode cX0_centre 111 = .ok (.lload 10, 2) := by decide +kernel
theorem dX0_centre_113 : decode cX0_centre 113 = .ok (.lmul, 1) := by decide +kernel
theorem dX0_centre_114 : decode cX0_centre 114 = .ok (.lsub, 1) := by decide +kernel
theorem dX0_centre_115 : decode cX0_centre 115 = .ok (.lstore 12, 2) := by decide +kernel
theorem dX0_centre_117 : decode cX0_centre 117 = .ok (.lload 6, 2) := by decide +kernel
theorem dX0_centre_119 : decode cX0_centre 119 = .ok (.aload_n 0, 1) := by decide +kernel
theorem dX0_centre_120 : decode cX0_centre 120 = .ok (.iload_n 3, 1) := by decide +kernel
theorem dX0_centre_121 : decode cX0_centre 121 = .ok (.invokevirtual 83, 3) := by decide +kernel
theorem dX0_centre_124 : decode cX0_centre 124 = .ok (.lmul, 1) := by decide +kernel
theorem dX0_centre_125 : decode cX0_centre 125 = .ok (.aload_n 0, 1) := by decide +kernel
theorem dX0_centre_126 : decode cX0_centre 126 = .ok (.iload 4, 2) := by decide +kernel
theorem dX0_centre_128 : decode cX0_centre 128 = .ok (.invokevirtual 79, 3) := by decide +kernel
theorem dX0_centre_131 : decode cX0_centre 131 = .ok (.aload_n 0, 1) := by decide +kernel
theorem dX0_centre_132 : decode cX0_centre 132 = .ok (.iload_n 3, 1) := by decide +kernel
theorem dX0_centre_133 : decode cX0_centre 133 = .ok (.invokevirtual 79, 3) := by decide +kernel
theorem dX0_centre_136 : decode cX0_centre 136 = .ok (.lsub, 1) := by decide +kernel
theorem dX0_centre_137 : decode cX0_centre 137 = .ok (.lload 10, 2) := by decide +kernel
theorem dX0_centre_139 : decode cX0_centre 139 = .ok (.lmul, 1) := by decide +kernel
theorem dX0_centre_140 : decode cX0_centre 140 = .ok (.ladd, 1) := by decide +kernel
theorem dX0_centre_141 : decode cX0_centre 141 = .ok (.aload_n 0, 1) := by decide +kernel
theorem dX0_centre_142 : decode cX0_centre 142 = .ok (.iload 5, 2) := by decide +kernel
theorem dX0_centre_144 : decode cX0_centre 144 = .ok (.invokevirtual 79, 3) := by decide +kernel
theorem dX0_centre_147 : decode cX0_centre 147 = .ok (.aload_n 0, 1) := by decide +kernel
theorem dX0_centre_148 : decode cX0_centre 148 = .ok (.iload_n 3, 1) := by decide +kernel
theorem dX0_centre_149 : decode cX0_centre 149 = .ok (.invokevirtual 79, 3) := by decide +kernel
theorem dX0_centre_152 : decode cX0_centre 152 = .ok (.lsub, 1) := by decide +kernel
theorem dX0_centre_153 : decode cX0_centre 153 = .ok (.lload 8, 2) := by decide +kernel
theorem dX0_centre_155 : decode cX0_centre 155 = .ok (.lmul, 1) := by decide +kernel
theorem dX0_centre_156 : decode cX0_centre 156 = .ok (.lsub, 1) := by decide +kernel
theorem dX0_centre_157 : decode cX0_centre 157 = .ok (.lstore 14, 2) := by decide +kernel
theorem dX0_centre_159 : decode cX0_centre 159 = .ok (.lload 12, 2) := by decide +kernel
theorem dX0_centre_161 : decode cX0_centre 161 = .ok (.lload 14, 2) := by decide +kernel
theorem dX0_centre_163 : decode cX0_centre 163 = .ok (.invokestatic 86, 3) := by decide +kernel
theorem dX0_centre_166 : decode cX0_centre 166 = .ok (.lload 6, 2) := by decide +kernel
theorem dX0_centre_168 : decode cX0_centre 168 = .ok (.invokestatic 86, 3) := by decide +kernel
theorem dX0_centre_171 : decode cX0_centre 171 = .ok (.lstore 16, 2) := by decide +kernel
theorem dX0_centre_173 : decode cX0_centre 173 = .ok (.lload 16, 2) := by decide +kernel
theorem dX0_centre_175 : decode cX0_centre 175 = .ok (.lconst 0, 1) := by decide +kernel
theorem dX0_centre_176 : decode cX0_centre 176 = .ok (.lcmp, 1) := by decide +kernel
theorem dX0_centre_177 : decode cX0_centre 177 = .ok (.ifCond .ne 5, 3) := by decide +kernel
theorem dX0_centre_180 : decode cX0_centre 180 = .ok (.lconst 0, 1) := by decide +kernel
theorem dX0_centre_181 : decode cX0_centre 181 = .ok (.lreturn, 1) := by decide +kernel
theorem dX0_centre_182 : decode cX0_centre 182 = .ok (.iload_n 2, 1) := by decide +kernel
theorem dX0_centre_183 : decode cX0_centre 183 = .ok (.ifCond .ne 8, 3) := by decide +kernel
theorem dX0_centre_186 : decode cX0_centre 186 = .ok (.lload 12, 2) := by decide +kernel
theorem dX0_centre_188 : decode cX0_centre 188 = .ok (.goto 15, 3) := by decide +kernel
theorem dX0_centre_191 : decode cX0_centre 191 = .ok (.iload_n 2, 1) := by decide +kernel
theorem dX0_centre_192 : decode cX0_centre 192 = .ok (.iconst 1, 1) := by decide +kernel
theorem dX0_centre_193 : decode cX0_centre 193 = .ok (.if_icmp .ne 8, 3) := by decide +kernel
theorem dX0_centre_196 : decode cX0_centre 196 = .ok (.lload 14, 2) := by decide +kernel
theorem dX0_centre_198 : decode cX0_centre 198 = .ok (.goto 5, 3) := by decide +kernel
theorem dX0_centre_201 : decode cX0_centre 201 = .ok (.lload 6, 2) := by decide +kernel
theorem dX0_centre_203 : decode cX0_centre 203 = .ok (.lstore 18, 2) := by decide +kernel
theorem dX0_centre_205 : decode cX0_centre 205 = .ok (.lload 6, 2) := by decide +kernel
theorem dX0_centre_207 : decode cX0_centre 207 = .ok (.lconst 0, 1) := by decide +kernel
theorem dX0_centre_208 : decode cX0_centre 208 = .ok (.lcmp, 1) := by decide +kernel
theorem dX0_centre_209 : decode cX0_centre 209 = .ok (.ifCond .ge 12, 3) := by decide +kernel
theorem dX0_centre_212 : decode cX0_centre 212 = .ok (.lload 18, 2) := by decide +kernel
theorem dX0_centre_214 : decode cX0_centre 214 = .ok (.lload 16, 2) := by decide +kernel
theorem dX0_centre_216 : decode cX0_centre 216 = .ok (.ldiv, 1) := by decide +kernel
theorem dX0_centre_217 : decode cX0_centre 217 = .ok (.lneg, 1) := by decide +kernel
theorem dX0_centre_218 : decode cX0_centre 218 = .ok (.goto 8, 3) := by decide +kernel
theorem dX0_centre_221 : decode cX0_centre 221 = .ok (.lload 18, 2) := by decide +kernel
theorem dX0_centre_223 : decode cX0_centre 223 = .ok (.lload 16, 2) := by decide +kernel
theorem dX0_centre_225 : decode cX0_centre 225 = .ok (.ldiv, 1) := by decide +kernel
theorem dX0_centre_226 : decode cX0_centre 226 = .ok (.lreturn, 1) := by decide +kernel
set_option maxRecDepth 20000 in
theorem ggX0_joined_X0_hasEdge : GoodIn wsX0_joined wsX0_hasEdge := goodIn_r _ [5, 6, 7, 8, 9, 4, 10, 11, 12, 13, 14, 15, 16, 17, 18, 19, 20, 21, 22, 23] (by decide +kernel) (by decide +kernel)
set_option maxRecDepth 20000 in
theorem gX0_joined_X0_hasEdge : GoodIn wsX0_joined (wsV RX0 90 RX0 yX0_hasEdge wsX0_hasEdge) := goodIn_app (goodIn_of _ (by decide +kernel)) ggX0_joined_X0_hasEdge
theorem dX0_joined_0 : decode cX0_joined 0 = .ok (.aload_n 0, 1) := by decide +kernel
theorem dX0_joined_1 : decode cX0_joined 1 = .ok (.iload_n 1, 1) := by decide +kernel
theorem dX0_joined_2 : decode cX0_joined 2 = .ok (.iload_n 2, 1) := by decide +kernel
theorem dX0_joined_3 : decode cX0_joined 3 = .ok (.invokevirtual 90, 3) := by decide +kernel
theorem dX0_joined_6 : decode cX0_joined 6 = .ok (.ireturn, 1) := by decide +kernel
set_option maxRecDepth 20000 in
theorem ggX0_degree_X0_isSite : GoodIn wsX0_degree wsX0_isSite := goodIn_r _ [6, 7, 15, 16, 17, 18, 19, 20, 21, 22, 23, 24, 25, 26] (by decide +kernel) (by decide +kernel)
set_option maxRecDepth 20000 in
theorem gX0_degree_X0_isSite : GoodIn wsX0_degree (wsV RX0 93 RX0 yX0_isSite wsX0_isSite) := goodIn_app (goodIn_of _ (by decide +kernel)) ggX0_degree_X0_isSite
set_option maxRecDepth 20000 in
theorem ggX0_degree_J6_bitCount_0f7a4 : GoodIn wsX0_degree wsJ6_bitCount_0f7a4 := goodIn_r _ [11, 12, 13, 14] (by decide +kernel) (by decide +kernel)
set_option maxRecDepth 20000 in
theorem gX0_degree_J6_bitCount_0f7a4 : GoodIn wsX0_degree (va_wsS RX0 96 yJ6_bitCount_0f7a4 wsJ6_bitCount_0f7a4) := goodIn_app (goodIn_of _ (by decide +kernel)) ggX0_degree_J6_bitCount_0f7a4
theorem dX0_degree_0 : decode cX0_degree 0 = .ok (.aload_n 0, 1) := by decide +kernel
theorem dX0_degree_1 : decode cX0_degree 1 = .ok (.iload_n 1, 1) := by decide +kernel
theorem dX0_degree_2 : decode cX0_degree 2 = .ok (.invokevirtual 93, 3) := by decide +kernel
theorem dX0_degree_5 : decode cX0_degree 5 = .ok (.ifCond .eq 15, 3) := by decide +kernel
theorem dX0_degree_8 : decode cX0_degree 8 = .ok (.aload_n 0, 1) := by decide +kernel
theorem dX0_degree_9 : decode cX0_degree 9 = .ok (.getfield 26, 3) := by decide +kernel
theorem dX0_degree_12 : decode cX0_degree 12 = .ok (.iload_n 1, 1) := by decide +kernel
theorem dX0_degree_13 : decode cX0_degree 13 = .ok (.iaload, 1) := by decide +kernel
theorem dX0_degree_14 : decode cX0_degree 14 = .ok (.invokestatic 96, 3) := by decide +kernel
theorem dX0_degree_17 : decode cX0_degree 17 = .ok (.goto 4, 3) := by decide +kernel
theorem dX0_degree_20 : decode cX0_degree 20 = .ok (.iconst (-1), 1) := by decide +kernel
theorem dX0_degree_21 : decode cX0_degree 21 = .ok (.ireturn, 1) := by decide +kernel
theorem dX0_corners_0 : decode cX0_corners 0 = .ok (.aload_n 0, 1) := by decide +kernel
theorem dX0_corners_1 : decode cX0_corners 1 = .ok (.getfield 32, 3) := by decide +kernel
theorem dX0_corners_4 : decode cX0_corners 4 = .ok (.ireturn, 1) := by decide +kernel
theorem dX0_corner_0 : decode cX0_corner 0 = .ok (.iload_n 1, 1) := by decide +kernel
theorem dX0_corner_1 : decode cX0_corner 1 = .ok (.ifCond .lt 20, 3) := by decide +kernel
theorem dX0_corner_4 : decode cX0_corner 4 = .ok (.iload_n 1, 1) := by decide +kernel
theorem dX0_corner_5 : decode cX0_corner 5 = .ok (.aload_n 0, 1) := by decide +kernel
theorem dX0_corner_6 : decode cX0_corner 6 = .ok (.getfield 32, 3) := by decide +kernel
theorem dX0_corner_9 : decode cX0_corner 9 = .ok (.if_icmp .ge 12, 3) := by decide +kernel
theorem dX0_corner_12 : decode cX0_corner 12 = .ok (.aload_n 0, 1) := by decide +kernel
theorem dX0_corner_13 : decode cX0_corner 13 = .ok (.getfield 29, 3) := by decide +kernel
theorem dX0_corner_16 : decode cX0_corner 16 = .ok (.iload_n 1, 1) := by decide +kernel
theorem dX0_corner_17 : decode cX0_corner 17 = .ok (.iaload, 1) := by decide +kernel
theorem dX0_corner_18 : decode cX0_corner 18 = .ok (.goto 4, 3) := by decide +kernel
theorem dX0_corner_21 : decode cX0_corner 21 = .ok (.iconst (-1), 1) := by decide +kernel
theorem dX0_corner_22 : decode cX0_corner 22 = .ok (.ireturn, 1) := by decide +kernel
set_option maxRecDepth 20000 in
theorem ggX0_nearest_X0_isRefused : GoodIn wsX0_nearest wsX0_isRefused := goodIn_r _ [5, 6, 7] (by decide +kernel) (by decide +kernel)
set_option maxRecDepth 20000 in
theorem gX0_nearest_X0_isRefused : GoodIn wsX0_nearest (va_wsS RX0 102 yX0_isRefused wsX0_isRefused) := goodIn_app (goodIn_of _ (by decide +kernel)) ggX0_nearest_X0_isRefused
set_option maxRecDepth 20000 in
theorem ggX0_nearest_X0_gapToPoint : GoodIn wsX0_nearest wsX0_gapToPoint := goodIn_r _ [11, 12, 13, 14, 4, 15, 1, 16, 17, 18, 19, 20, 21, 22, 23, 24, 25, 26, 27, 28, 29, 30, 31, 32, 33] (by decide +kernel) (by decide +kernel)
set_option maxRecDepth 20000 in
theorem gX0_nearest_X0_gapToPoint : GoodIn wsX0_nearest (wsV RX0 106 RX0 yX0_gapToPoint wsX0_gapToPoint) := goodIn_app (goodIn_of _ (by decide +kernel)) ggX0_nearest_X0_gapToPoint
theorem dX0_nearest_0 : decode cX0_nearest 0 = .ok (.dload_n 1, 1) := by decide +kernel
theorem dX0_nearest_1 : decode cX0_nearest 1 = .ok (.dload_n 3, 1) := by decide +kernel
theorem dX0_nearest_2 : decode cX0_nearest 2 = .ok (.invokestatic 102, 3) := by decide +kernel
theorem dX0_nearest_5 : decode cX0_nearest 5 = .ok (.ifCond .eq 6, 3) := by decide +kernel
theorem dX0_nearest_8 : decode cX0_nearest 8 = .ok (.bipush (-2), 2) := by decide +kernel
theorem dX0_nearest_10 : decode cX0_nearest 10 = .ok (.ireturn, 1) := by decide +kernel
theorem dX0_nearest_11 : decode cX0_nearest 11 = .ok (.iconst (-1), 1) := by decide +kernel
theorem dX0_nearest_12 : decode cX0_nearest 12 = .ok (.istore 5, 2) := by decide +kernel
theorem dX0_nearest_14 : decode cX0_nearest 14 = .ok (.dconst 0, 1) := by decide +kernel
theorem dX0_nearest_15 : decode cX0_nearest 15 = .ok (.dstore 6, 2) := by decide +kernel
theorem dX0_nearest_17 : decode cX0_nearest 17 = .ok (.iconst 0, 1) := by decide +kernel
theorem dX0_nearest_18 : decode cX0_nearest 18 = .ok (.istore 8, 2) := by decide +kernel
theorem dX0_nearest_20 : decode cX0_nearest 20 = .ok (.iload 8, 2) := by decide +kernel
theorem dX0_nearest_22 : decode cX0_nearest 22 = .ok (.aload_n 0, 1) := by decide +kernel
theorem dX0_nearest_23 : decode cX0_nearest 23 = .ok (.getfield 16, 3) := by decide +kernel
theorem dX0_nearest_26 : decode cX0_nearest 26 = .ok (.if_icmp .ge 40, 3) := by decide +kernel
theorem dX0_nearest_29 : decode cX0_nearest 29 = .ok (.aload_n 0, 1) := by decide +kernel
theorem dX0_nearest_30 : decode cX0_nearest 30 = .ok (.iload 8, 2) := by decide +kernel
theorem dX0_nearest_32 : decode cX0_nearest 32 = .ok (.dload_n 1, 1) := by decide +kernel
theorem dX0_nearest_33 : decode cX0_nearest 33 = .ok (.dload_n 3, 1) := by decide +kernel
theorem dX0_nearest_34 : decode cX0_nearest 34 = .ok (.invokevirtual 106, 3) := by decide +kernel
theorem dX0_nearest_37 : decode cX0_nearest 37 = .ok (.dstore 9, 2) := by decide +kernel
theorem dX0_nearest_39 : decode cX0_nearest 39 = .ok (.iload 5, 2) := by decide +kernel
theorem dX0_nearest_41 : decode cX0_nearest 41 = .ok (.ifCond .lt 11, 3) := by decide +kernel
theorem dX0_nearest_44 : decode cX0_nearest 44 = .ok (.dload 9, 2) := by decide +kernel
theorem dX0_nearest_46 : decode cX0_nearest 46 = .ok (.dload 6, 2) := by decide +kernel
theorem dX0_nearest_48 : decode cX0_nearest 48 = .ok (.dcmp .g, 1) := by decide +kernel
theorem dX0_nearest_49 : decode cX0_nearest 49 = .ok (.ifCond .ge 11, 3) := by decide +kernel
theorem dX0_nearest_52 : decode cX0_nearest 52 = .ok (.iload 8, 2) := by decide +kernel
theorem dX0_nearest_54 : decode cX0_nearest 54 = .ok (.istore 5, 2) := by decide +kernel
theorem dX0_nearest_56 : decode cX0_nearest 56 = .ok (.dload 9, 2) := by decide +kernel
theorem dX0_nearest_58 : decode cX0_nearest 58 = .ok (.dstore 6, 2) := by decide +kernel
theorem dX0_nearest_60 : decode cX0_nearest 60 = .ok (.iinc 8 1, 3) := by decide +kernel
theorem dX0_nearest_63 : decode cX0_nearest 63 = .ok (.goto (-43), 3) := by decide +kernel
theorem dX0_nearest_66 : decode cX0_nearest 66 = .ok (.iload 5, 2) := by decide +kernel
theorem dX0_nearest_68 : decode cX0_nearest 68 = .ok (.ireturn, 1) := by decide +kernel
set_option maxRecDepth 20000 in
theorem ggX0_holder_X0_isRefused : GoodIn wsX0_holder wsX0_isRefused := goodIn_r _ [5, 6, 7] (by decide +kernel) (by decide +kernel)
set_option maxRecDepth 20000 in
theorem gX0_holder_X0_isRefused : GoodIn wsX0_holder (va_wsS RX0 102 yX0_isRefused wsX0_isRefused) := goodIn_app (goodIn_of _ (by decide +kernel)) ggX0_holder_X0_isRefused
set_option maxRecDepth 20000 in
theorem ggX0_holder_X0_holds : GoodIn wsX0_holder wsX0_holds := goodIn_r _ [11, 12, 13, 14, 4, 15, 16, 17, 18, 19, 20, 1, 21, 22, 23, 24, 25, 26, 27, 28, 29, 30, 31, 32, 33, 34, 35, 36, 37, 38, 39, 40, 41, 42, 43, 44, 45, 46, 47] (by decide +kernel) (by decide +kernel)
set_option maxRecDepth 20000 in
theorem gX0_holder_X0_holds : GoodIn wsX0_holder (wsV RX0 110 RX0 yX0_holds wsX0_holds) := goodIn_app (goodIn_of _ (by decide +kernel)) ggX0_holder_X0_holds
theorem dX0_holder_0 : decode cX0_holder 0 = .ok (.dload_n 1, 1) := by decide +kernel
theorem dX0_holder_1 : decode cX0_holder 1 = .ok (.dload_n 3, 1) := by decide +kernel
theorem dX0_holder_2 : decode cX0_holder 2 = .ok (.invokestatic 102, 3) := by decide +kernel
theorem dX0_holder_5 : decode cX0_holder 5 = .ok (.ifCond .eq 6, 3) := by decide +kernel
theorem dX0_holder_8 : decode cX0_holder 8 = .ok (.bipush (-2), 2) := by decide +kernel
theorem dX0_holder_10 : decode cX0_holder 10 = .ok (.ireturn, 1) := by decide +kernel
theorem dX0_holder_11 : decode cX0_holder 11 = .ok (.iconst 0, 1) := by decide +kernel
theorem dX0_holder_12 : decode cX0_holder 12 = .ok (.istore 5, 2) := by decide +kernel
theorem dX0_holder_14 : decode cX0_holder 14 = .ok (.iload 5, 2) := by decide +kernel
theorem dX0_holder_16 : decode cX0_holder 16 = .ok (.aload_n 0, 1) := by decide +kernel
theorem dX0_holder_17 : decode cX0_holder 17 = .ok (.getfield 23, 3) := by decide +kernel
theorem dX0_holder_20 : decode cX0_holder 20 = .ok (.if_icmp .ge 23, 3) := by decide +kernel
theorem dX0_holder_23 : decode cX0_holder 23 = .ok (.aload_n 0, 1) := by decide +kernel
theorem dX0_holder_24 : decode cX0_holder 24 = .ok (.iload 5, 2) := by decide +kernel
theorem dX0_holder_26 : decode cX0_holder 26 = .ok (.dload_n 1, 1) := by decide +kernel
theorem dX0_holder_27 : decode cX0_holder 27 = .ok (.dload_n 3, 1) := by decide +kernel
theorem dX0_holder_28 : decode cX0_holder 28 = .ok (.invokevirtual 110, 3) := by decide +kernel
theorem dX0_holder_31 : decode cX0_holder 31 = .ok (.ifCond .eq 6, 3) := by decide +kernel
theorem dX0_holder_34 : decode cX0_holder 34 = .ok (.iload 5, 2) := by decide +kernel
theorem dX0_holder_36 : decode cX0_holder 36 = .ok (.ireturn, 1) := by decide +kernel
theorem dX0_holder_37 : decode cX0_holder 37 = .ok (.iinc 5 1, 3) := by decide +kernel
theorem dX0_holder_40 : decode cX0_holder 40 = .ok (.goto (-26), 3) := by decide +kernel
theorem dX0_holder_43 : decode cX0_holder 43 = .ok (.iconst (-1), 1) := by decide +kernel
theorem dX0_holder_44 : decode cX0_holder 44 = .ok (.ireturn, 1) := by decide +kernel
set_option maxRecDepth 20000 in
theorem ggX0_square_X0_isRefused : GoodIn wsX0_square wsX0_isRefused := goodIn_r _ [6, 7, 8] (by decide +kernel) (by decide +kernel)
set_option maxRecDepth 20000 in
theorem gX0_square_X0_isRefused : GoodIn wsX0_square (va_wsS RX0 102 yX0_isRefused wsX0_isRefused) := goodIn_app (goodIn_of _ (by decide +kernel)) ggX0_square_X0_isRefused
set_option maxRecDepth 20000 in
theorem ggX0_square_X0_isSite : GoodIn wsX0_square wsX0_isSite := goodIn_r _ [12, 13, 28, 29, 30, 31, 32, 33, 34, 35, 36, 37, 38, 39] (by decide +kernel) (by decide +kernel)
set_option maxRecDepth 20000 in
theorem gX0_square_X0_isSite : GoodIn wsX0_square (wsV RX0 93 RX0 yX0_isSite wsX0_isSite) := goodIn_app (goodIn_of _ (by decide +kernel)) ggX0_square_X0_isSite
set_option maxRecDepth 20000 in
theorem ggX0_square_X0_gapToPoint : GoodIn wsX0_square wsX0_gapToPoint := goodIn_r _ [17, 18, 19, 20, 5, 21, 13, 22, 23, 24, 25, 26, 27, 28, 29, 30, 31, 32, 33, 34, 35, 36, 37, 38, 39] (by decide +kernel) (by decide +kernel)
set_option maxRecDepth 20000 in
theorem gX0_square_X0_gapToPoint : GoodIn wsX0_square (wsV RX0 106 RX0 yX0_gapToPoint wsX0_gapToPoint) := goodIn_app (goodIn_of _ (by decide +kernel)) ggX0_square_X0_gapToPoint
theorem dX0_square_0 : decode cX0_square 0 = .ok (.dload_n 2, 1) := by decide +kernel
theorem dX0_square_1 : decode cX0_square 1 = .ok (.dload 4, 2) := by decide +kernel
theorem dX0_square_3 : decode cX0_square 3 = .ok (.invokestatic 102, 3) := by decide +kernel
theorem dX0_square_6 : decode cX0_square 6 = .ok (.ifCond .eq 7, 3) := by decide +kernel
theorem dX0_square_9 : decode cX0_square 9 = .ok (.ldc2_w 114, 3) := by decide +kernel
theorem dX0_square_12 : decode cX0_square 12 = .ok (.dreturn, 1) := by decide +kernel
theorem dX0_square_13 : decode cX0_square 13 = .ok (.aload_n 0, 1) := by decide +kernel
theorem dX0_square_14 : decode cX0_square 14 = .ok (.iload_n 1, 1) := by decide +kernel
theorem dX0_square_15 : decode cX0_square 15 = .ok (.invokevirtual 93, 3) := by decide +kernel
theorem dX0_square_18 : decode cX0_square 18 = .ok (.ifCond .eq 14, 3) := by decide +kernel
theorem dX0_square_21 : decode cX0_square 21 = .ok (.aload_n 0, 1) := by decide +kernel
theorem dX0_square_22 : decode cX0_square 22 = .ok (.iload_n 1, 1) := by decide +kernel
theorem dX0_square_23 : decode cX0_square 23 = .ok (.dload_n 2, 1) := by decide +kernel
theorem dX0_square_24 : decode cX0_square 24 = .ok (.dload 4, 2) := by decide +kernel
theorem dX0_square_26 : decode cX0_square 26 = .ok (.invokevirtual 106, 3) := by decide +kernel
theorem dX0_square_29 : decode cX0_square 29 = .ok (.goto 6, 3) := by decide +kernel
theorem dX0_square_32 : decode cX0_square 32 = .ok (.ldc2_w 116, 3) := by decide +kernel
theorem dX0_square_35 : decode cX0_square 35 = .ok (.dreturn, 1) := by decide +kernel
theorem dX0_tree_0 : decode cX0_tree 0 = .ok (.iload_n 1, 1) := by decide +kernel
theorem dX0_tree_1 : decode cX0_tree 1 = .ok (.ifCond .lt 20, 3) := by decide +kernel
theorem dX0_tree_4 : decode cX0_tree 4 = .ok (.iload_n 1, 1) := by decide +kernel
theorem dX0_tree_5 : decode cX0_tree 5 = .ok (.aload_n 0, 1) := by decide +kernel
theorem dX0_tree_6 : decode cX0_tree 6 = .ok (.getfield 38, 3) := by decide +kernel
theorem dX0_tree_9 : decode cX0_tree 9 = .ok (.if_icmp .ge 12, 3) := by decide +kernel
theorem dX0_tree_12 : decode cX0_tree 12 = .ok (.aload_n 0, 1) := by decide +kernel
theorem dX0_tree_13 : decode cX0_tree 13 = .ok (.getfield 35, 3) := by decide +kernel
theorem dX0_tree_16 : decode cX0_tree 16 = .ok (.iload_n 1, 1) := by decide +kernel
theorem dX0_tree_17 : decode cX0_tree 17 = .ok (.iaload, 1) := by decide +kernel
theorem dX0_tree_18 : decode cX0_tree 18 = .ok (.goto 4, 3) := by decide +kernel
theorem dX0_tree_21 : decode cX0_tree 21 = .ok (.iconst (-1), 1) := by decide +kernel
theorem dX0_tree_22 : decode cX0_tree 22 = .ok (.ireturn, 1) := by decide +kernel
theorem dX0_total_0 : decode cX0_total 0 = .ok (.aload_n 0, 1) := by decide +kernel
theorem dX0_total_1 : decode cX0_total 1 = .ok (.getfield 41, 3) := by decide +kernel
theorem dX0_total_4 : decode cX0_total 4 = .ok (.lreturn, 1) := by decide +kernel
set_option maxRecDepth 20000 in
theorem ggX0_bounded_X0_isSite : GoodIn wsX0_bounded wsX0_isSite := goodIn_r _ [6, 1, 25, 26, 27, 28, 29, 30, 31, 32, 33, 34, 35, 36] (by decide +kernel) (by decide +kernel)
set_option maxRecDepth 20000 in
theorem gX0_bounded_X0_isSite : GoodIn wsX0_bounded (wsV RX0 93 RX0 yX0_isSite wsX0_isSite) := goodIn_app (goodIn_of _ (by decide +kernel)) ggX0_bounded_X0_isSite
set_option maxRecDepth 20000 in
theorem ggX0_bounded_X0_noneTurnsRight : GoodIn wsX0_bounded wsX0_noneTurnsRight := goodIn_r _ [10, 1, 11, 12, 13, 5, 14, 15, 16, 17, 18, 19, 20, 21, 22, 23, 24, 25, 26, 27, 28, 29, 30, 31, 32, 33, 34, 35, 36] (by decide +kernel) (by decide +kernel)
set_option maxRecDepth 20000 in
theorem gX0_bounded_X0_noneTurnsRight : GoodIn wsX0_bounded (wsV RX0 118 RX0 yX0_noneTurnsRight wsX0_noneTurnsRight) := goodIn_app (goodIn_of _ (by decide +kernel)) ggX0_bounded_X0_noneTurnsRight
theorem dX0_bounded_0 : decode cX0_bounded 0 = .ok (.aload_n 0, 1) := by decide +kernel
theorem dX0_bounded_1 : decode cX0_bounded 1 = .ok (.iload_n 1, 1) := by decide +kernel
theorem dX0_bounded_2 : decode cX0_bounded 2 = .ok (.invokevirtual 93, 3) := by decide +kernel
theorem dX0_bounded_5 : decode cX0_bounded 5 = .ok (.ifCond .eq 11, 3) := by decide +kernel
theorem dX0_bounded_8 : decode cX0_bounded 8 = .ok (.aload_n 0, 1) := by decide +kernel
theorem dX0_bounded_9 : decode cX0_bounded 9 = .ok (.getfield 16, 3) := by decide +kernel
theorem dX0_bounded_12 : decode cX0_bounded 12 = .ok (.iconst 2, 1) := by decide +kernel
theorem dX0_bounded_13 : decode cX0_bounded 13 = .ok (.if_icmp .ge 5, 3) := by decide +kernel
theorem dX0_bounded_16 : decode cX0_bounded 16 = .ok (.iconst 0, 1) := by decide +kernel
theorem dX0_bounded_17 : decode cX0_bounded 17 = .ok (.ireturn, 1) := by decide +kernel
theorem dX0_bounded_18 : decode cX0_bounded 18 = .ok (.iconst 0, 1) := by decide +kernel
theorem dX0_bounded_19 : decode cX0_bounded 19 = .ok (.istore_n 2, 1) := by decide +kernel
theorem dX0_bounded_20 : decode cX0_bounded 20 = .ok (.iload_n 2, 1) := by decide +kernel
theorem dX0_bounded_21 : decode cX0_bounded 21 = .ok (.aload_n 0, 1) := by decide +kernel
theorem dX0_bounded_22 : decode cX0_bounded 22 = .ok (.getfield 16, 3) := by decide +kernel
theorem dX0_bounded_25 : decode cX0_bounded 25 = .ok (.if_icmp .ge 25, 3) := by decide +kernel
theorem dX0_bounded_28 : decode cX0_bounded 28 = .ok (.iload_n 2, 1) := by decide +kernel
theorem dX0_bounded_29 : decode cX0_bounded 29 = .ok (.iload_n 1, 1) := by decide +kernel
theorem dX0_bounded_30 : decode cX0_bounded 30 = .ok (.if_icmp .eq 14, 3) := by decide +kernel
theorem dX0_bounded_33 : decode cX0_bounded 33 = .ok (.aload_n 0, 1) := by decide +kernel
theorem dX0_bounded_34 : decode cX0_bounded 34 = .ok (.iload_n 1, 1) := by decide +kernel
theorem dX0_bounded_35 : decode cX0_bounded 35 = .ok (.iload_n 2, 1) := by decide +kernel
theorem dX0_bounded_36 : decode cX0_bounded 36 = .ok (.invokevirtual 118, 3) := by decide +kernel
theorem dX0_bounded_39 : decode cX0_bounded 39 = .ok (.ifCond .eq 5, 3) := by decide +kernel
theorem dX0_bounded_42 : decode cX0_bounded 42 = .ok (.iconst 0, 1) := by decide +kernel
theorem dX0_bounded_43 : decode cX0_bounded 43 = .ok (.ireturn, 1) := by decide +kernel
theorem dX0_bounded_44 : decode cX0_bounded 44 = .ok (.iinc 2 1, 3) := by decide +kernel
theorem dX0_bounded_47 : decode cX0_bounded 47 = .ok (.goto (-27), 3) := by decide +kernel
theorem dX0_bounded_50 : decode cX0_bounded 50 = .ok (.iconst 1, 1) := by decide +kernel
theorem dX0_bounded_51 : decode cX0_bounded 51 = .ok (.ireturn, 1) := by decide +kernel
theorem dX0_isTooFar_0 : decode cX0_isTooFar 0 = .ok (.iload_n 0, 1) := by decide +kernel
theorem dX0_isTooFar_1 : decode cX0_isTooFar 1 = .ok (.sipush (-30000), 3) := by decide +kernel
theorem dX0_isTooFar_4 : decode cX0_isTooFar 4 = .ok (.if_icmp .lt 10, 3) := by decide +kernel
theorem dX0_isTooFar_7 : decode cX0_isTooFar 7 = .ok (.iload_n 0, 1) := by decide +kernel
theorem dX0_isTooFar_8 : decode cX0_isTooFar 8 = .ok (.sipush 30000, 3) := by decide +kernel
theorem dX0_isTooFar_11 : decode cX0_isTooFar 11 = .ok (.if_icmp .le 7, 3) := by decide +kernel
theorem dX0_isTooFar_14 : decode cX0_isTooFar 14 = .ok (.iconst 1, 1) := by decide +kernel
theorem dX0_isTooFar_15 : decode cX0_isTooFar 15 = .ok (.goto 4, 3) := by decide +kernel
theorem dX0_isTooFar_18 : decode cX0_isTooFar 18 = .ok (.iconst 0, 1) := by decide +kernel
theorem dX0_isTooFar_19 : decode cX0_isTooFar 19 = .ok (.ireturn, 1) := by decide +kernel
theorem dX0_isRefused_0 : decode cX0_isRefused 0 = .ok (.dload_n 0, 1) := by decide +kernel
theorem dX0_isRefused_1 : decode cX0_isRefused 1 = .ok (.ldc2_w 121, 3) := by decide +kernel
theorem dX0_isRefused_4 : decode cX0_isRefused 4 = .ok (.dcmp .l, 1) := by decide +kernel
theorem dX0_isRefused_5 : decode cX0_isRefused 5 = .ok (.ifCond .lt 31, 3) := by decide +kernel
theorem dX0_isRefused_8 : decode cX0_isRefused 8 = .ok (.dload_n 0, 1) := by decide +kernel
theorem dX0_isRefused_9 : decode cX0_isRefused 9 = .ok (.ldc2_w 123, 3) := by decide +kernel
theorem dX0_isRefused_12 : decode cX0_isRefused 12 = .ok (.dcmp .g, 1) := by decide +kernel
theorem dX0_isRefused_13 : decode cX0_isRefused 13 = .ok (.ifCond .gt 23, 3) := by decide +kernel
theorem dX0_isRefused_16 : decode cX0_isRefused 16 = .ok (.dload_n 2, 1) := by decide +kernel
theorem dX0_isRefused_17 : decode cX0_isRefused 17 = .ok (.ldc2_w 121, 3) := by decide +kernel
theorem dX0_isRefused_20 : decode cX0_isRefused 20 = .ok (.dcmp .l, 1) := by decide +kernel
theorem dX0_isRefused_21 : decode cX0_isRefused 21 = .ok (.ifCond .lt 15, 3) := by decide +kernel
theorem dX0_isRefused_24 : decode cX0_isRefused 24 = .ok (.dload_n 2, 1) := by decide +kernel
theorem dX0_isRefused_25 : decode cX0_isRefused 25 = .ok (.ldc2_w 123, 3) := by decide +kernel
theorem dX0_isRefused_28 : decode cX0_isRefused 28 = .ok (.dcmp .g, 1) := by decide +kernel
theorem dX0_isRefused_29 : decode cX0_isRefused 29 = .ok (.ifCond .gt 7, 3) := by decide +kernel
theorem dX0_isRefused_32 : decode cX0_isRefused 32 = .ok (.iconst 1, 1) := by decide +kernel
theorem dX0_isRefused_33 : decode cX0_isRefused 33 = .ok (.goto 4, 3) := by decide +kernel
theorem dX0_isRefused_36 : decode cX0_isRefused 36 = .ok (.iconst 0, 1) := by decide +kernel
theorem dX0_isRefused_37 : decode cX0_isRefused 37 = .ok (.istore 4, 2) := by decide +kernel
theorem dX0_isRefused_39 : decode cX0_isRefused 39 = .ok (.iload 4, 2) := by decide +kernel
theorem dX0_isRefused_41 : decode cX0_isRefused 41 = .ok (.ifCond .ne 7, 3) := by decide +kernel
theorem dX0_isRefused_44 : decode cX0_isRefused 44 = .ok (.iconst 1, 1) := by decide +kernel
theorem dX0_isRefused_45 : decode cX0_isRefused 45 = .ok (.goto 4, 3) := by decide +kernel
theorem dX0_isRefused_48 : decode cX0_isRefused 48 = .ok (.iconst 0, 1) := by decide +kernel
theorem dX0_isRefused_49 : decode cX0_isRefused 49 = .ok (.ireturn, 1) := by decide +kernel
theorem dX0_isSite_0 : decode cX0_isSite 0 = .ok (.iload_n 1, 1) := by decide +kernel
theorem dX0_isSite_1 : decode cX0_isSite 1 = .ok (.ifCond .lt 15, 3) := by decide +kernel
theorem dX0_isSite_4 : decode cX0_isSite 4 = .ok (.iload_n 1, 1) := by decide +kernel
theorem dX0_isSite_5 : decode cX0_isSite 5 = .ok (.aload_n 0, 1) := by decide +kernel
theorem dX0_isSite_6 : decode cX0_isSite 6 = .ok (.getfield 16, 3) := by decide +kernel
theorem dX0_isSite_9 : decode cX0_isSite 9 = .ok (.if_icmp .ge 7, 3) := by decide +kernel
theorem dX0_isSite_12 : decode cX0_isSite 12 = .ok (.iconst 1, 1) := by decide +kernel
theorem dX0_isSite_13 : decode cX0_isSite 13 = .ok (.goto 4, 3) := by decide +kernel
theorem dX0_isSite_16 : decode cX0_isSite 16 = .ok (.iconst 0, 1) := by decide +kernel
theorem dX0_isSite_17 : decode cX0_isSite 17 = .ok (.ireturn, 1) := by decide +kernel
theorem dX0_isTriangle_0 : decode cX0_isTriangle 0 = .ok (.iload_n 1, 1) := by decide +kernel
theorem dX0_isTriangle_1 : decode cX0_isTriangle 1 = .ok (.ifCond .lt 15, 3) := by decide +kernel
theorem dX0_isTriangle_4 : decode cX0_isTriangle 4 = .ok (.iload_n 1, 1) := by decide +kernel
theorem dX0_isTriangle_5 : decode cX0_isTriangle 5 = .ok (.aload_n 0, 1) := by decide +kernel
theorem dX0_isTriangle_6 : decode cX0_isTriangle 6 = .ok (.getfield 23, 3) := by decide +kernel
theorem dX0_isTriangle_9 : decode cX0_isTriangle 9 = .ok (.if_icmp .ge 7, 3) := by decide +kernel
theorem dX0_isTriangle_12 : decode cX0_isTriangle 12 = .ok (.iconst 1, 1) := by decide +kernel
theorem dX0_isTriangle_13 : decode cX0_isTriangle 13 = .ok (.goto 4, 3) := by decide +kernel
theorem dX0_isTriangle_16 : decode cX0_isTriangle 16 = .ok (.iconst 0, 1) := by decide +kernel
theorem dX0_isTriangle_17 : decode cX0_isTriangle 17 = .ok (.ireturn, 1) := by decide +kernel
theorem dX0_siteAt_0 : decode cX0_siteAt 0 = .ok (.iconst 0, 1) := by decide +kernel
theorem dX0_siteAt_1 : decode cX0_siteAt 1 = .ok (.istore_n 3, 1) := by decide +kernel
theorem dX0_siteAt_2 : decode cX0_siteAt 2 = .ok (.iload_n 3, 1) := by decide +kernel
theorem dX0_siteAt_3 : decode cX0_siteAt 3 = .ok (.aload_n 0, 1) := by decide +kernel
theorem dX0_siteAt_4 : decode cX0_siteAt 4 = .ok (.getfield 16, 3) := by decide +kernel
theorem dX0_siteAt_7 : decode cX0_siteAt 7 = .ok (.if_icmp .ge 31, 3) := by decide +kernel
theorem dX0_siteAt_10 : decode cX0_siteAt 10 = .ok (.aload_n 0, 1) := by decide +kernel
theorem dX0_siteAt_11 : decode cX0_siteAt 11 = .ok (.getfield 9, 3) := by decide +kernel
theorem dX0_siteAt_14 : decode cX0_siteAt 14 = .ok (.iload_n 3, 1) := by decide +kernel
theorem dX0_siteAt_15 : decode cX0_siteAt 15 = .ok (.iaload, 1) := by decide +kernel
theorem dX0_siteAt_16 : decode cX0_siteAt 16 = .ok (.iload_n 1, 1) := by decide +kernel
theorem dX0_siteAt_17 : decode cX0_siteAt 17 = .ok (.if_icmp .ne 15, 3) := by decide +kernel
theorem dX0_siteAt_20 : decode cX0_siteAt 20 = .ok (.aload_n 0, 1) := by decide +kernel
theorem dX0_siteAt_21 : decode cX0_siteAt 21 = .ok (.getfield 13, 3) := by decide +kernel
theorem dX0_siteAt_24 : decode cX0_siteAt 24 = .ok (.iload_n 3, 1) := by decide +kernel
theorem dX0_siteAt_25 : decode cX0_siteAt 25 = .ok (.iaload, 1) := by decide +kernel
theorem dX0_siteAt_26 : decode cX0_siteAt 26 = .ok (.iload_n 2, 1) := by decide +kernel
theorem dX0_siteAt_27 : decode cX0_siteAt 27 = .ok (.if_icmp .ne 5, 3) := by decide +kernel
theorem dX0_siteAt_30 : decode cX0_siteAt 30 = .ok (.iload_n 3, 1) := by decide +kernel
theorem dX0_siteAt_31 : decode cX0_siteAt 31 = .ok (.ireturn, 1) := by decide +kernel
theorem dX0_siteAt_32 : decode cX0_siteAt 32 = .ok (.iinc 3 1, 3) := by decide +kernel
theorem dX0_siteAt_35 : decode cX0_siteAt 35 = .ok (.goto (-33), 3) := by decide +kernel
theorem dX0_siteAt_38 : decode cX0_siteAt 38 = .ok (.iconst (-1), 1) := by decide +kernel
theorem dX0_siteAt_39 : decode cX0_siteAt 39 = .ok (.ireturn, 1) := by decide +kernel
theorem dX0_xOf_0 : decode cX0_xOf 0 = .ok (.iload_n 1, 1) := by decide +kernel
theorem dX0_xOf_1 : decode cX0_xOf 1 = .ok (.ifCond .lt 21, 3) := by decide +kernel
theorem dX0_xOf_4 : decode cX0_xOf 4 = .ok (.iload_n 1, 1) := by decide +kernel
theorem dX0_xOf_5 : decode cX0_xOf 5 = .ok (.aload_n 0, 1) := by decide +kernel
theorem dX0_xOf_6 : decode cX0_xOf 6 = .ok (.getfield 16, 3) := by decide +kernel
theorem dX0_xOf_9 : decode cX0_xOf 9 = .ok (.if_icmp .ge 13, 3) := by decide +kernel
theorem dX0_xOf_12 : decode cX0_xOf 12 = .ok (.aload_n 0, 1) := by decide +kernel
theorem dX0_xOf_13 : decode cX0_xOf 13 = .ok (.getfield 9, 3) := by decide +kernel
theorem dX0_xOf_16 : decode cX0_xOf 16 = .ok (.iload_n 1, 1) := by decide +kernel
theorem dX0_xOf_17 : decode cX0_xOf 17 = .ok (.iaload, 1) := by decide +kernel
theorem dX0_xOf_18 : decode cX0_xOf 18 = .ok (.i2l, 1) := by decide +kernel
theorem dX0_xOf_19 : decode cX0_xOf 19 = .ok (.goto 4, 3) := by decide +kernel
theorem dX0_xOf_22 : decode cX0_xOf 22 = .ok (.lconst 0, 1) := by decide +kernel
theorem dX0_xOf_23 : decode cX0_xOf 23 = .ok (.lreturn, 1) := by decide +kernel
theorem dX0_yOf_0 : decode cX0_yOf 0 = .ok (.iload_n 1, 1) := by decide +kernel
theorem dX0_yOf_1 : decode cX0_yOf 1 = .ok (.ifCond .lt 21, 3) := by decide +kernel
theorem dX0_yOf_4 : decode cX0_yOf 4 = .ok (.iload_n 1, 1) := by decide +kernel
theorem dX0_yOf_5 : decode cX0_yOf 5 = .ok (.aload_n 0, 1) := by decide +kernel
theorem dX0_yOf_6 : decode cX0_yOf 6 = .ok (.getfield 16, 3) := by decide +kernel
theorem dX0_yOf_9 : decode cX0_yOf 9 = .ok (.if_icmp .ge 13, 3) := by decide +kernel
theorem dX0_yOf_12 : decode cX0_yOf 12 = .ok (.aload_n 0, 1) := by decide +kernel
theorem dX0_yOf_13 : decode cX0_yOf 13 = .ok (.getfield 13, 3) := by decide +kernel
theorem dX0_yOf_16 : decode cX0_yOf 16 = .ok (.iload_n 1, 1) := by decide +kernel
theorem dX0_yOf_17 : decode cX0_yOf 17 = .ok (.iaload, 1) := by decide +kernel
theorem dX0_yOf_18 : decode cX0_yOf 18 = .ok (.i2l, 1) := by decide +kernel
theorem dX0_yOf_19 : decode cX0_yOf 19 = .ok (.goto 4, 3) := by decide +kernel
theorem dX0_yOf_22 : decode cX0_yOf 22 = .ok (.lconst 0, 1) := by decide +kernel
theorem dX0_yOf_23 : decode cX0_yOf 23 = .ok (.lreturn, 1) := by decide +kernel
set_option maxRecDepth 20000 in
theorem ggX0_turn_X0_xOf : GoodIn wsX0_turn wsX0_xOf := goodIn_r _ [5, 6, 7, 13, 14, 15, 16, 17, 18, 19, 20, 21, 22, 23, 24] (by decide +kernel) (by decide +kernel)
set_option maxRecDepth 20000 in
theorem gX0_turn_X0_xOf : GoodIn wsX0_turn (wsV RX0 79 RX0 yX0_xOf wsX0_xOf) := goodIn_app (goodIn_of _ (by decide +kernel)) ggX0_turn_X0_xOf
set_option maxRecDepth 20000 in
theorem ggX0_turn_X0_yOf : GoodIn wsX0_turn wsX0_yOf := goodIn_r _ [11, 6, 12, 13, 14, 15, 16, 17, 18, 19, 20, 21, 22, 23, 24] (by decide +kernel) (by decide +kernel)
set_option maxRecDepth 20000 in
theorem gX0_turn_X0_yOf : GoodIn wsX0_turn (wsV RX0 83 RX0 yX0_yOf wsX0_yOf) := goodIn_app (goodIn_of _ (by decide +kernel)) ggX0_turn_X0_yOf
theorem dX0_turn_0 : decode cX0_turn 0 = .ok (.aload_n 0, 1) := by decide +kernel
theorem dX0_turn_1 : decode cX0_turn 1 = .ok (.iload_n 2, 1) := by decide +kernel
theorem dX0_turn_2 : decode cX0_turn 2 = .ok (.invokevirtual 79, 3) := by decide +kernel
theorem dX0_turn_5 : decode cX0_turn 5 = .ok (.aload_n 0, 1) := by decide +kernel
theorem dX0_turn_6 : decode cX0_turn 6 = .ok (.iload_n 1, 1) := by decide +kernel
theorem dX0_turn_7 : decode cX0_turn 7 = .ok (.invokevirtual 79, 3) := by decide +kernel
theorem dX0_turn_10 : decode cX0_turn 10 = .ok (.lsub, 1) := by decide +kernel
theorem dX0_turn_11 : decode cX0_turn 11 = .ok (.aload_n 0, 1) := by decide +kernel
theorem dX0_turn_12 : decode cX0_turn 12 = .ok (.iload_n 3, 1) := by decide +kernel
theorem dX0_turn_13 : decode cX0_turn 13 = .ok (.invokevirtual 83, 3) := by decide +kernel
theorem dX0_turn_16 : decode cX0_turn 16 = .ok (.aload_n 0, 1) := by decide +kernel
theorem dX0_turn_17 : decode cX0_turn 17 = .ok (.iload_n 1, 1) := by decide +kernel
theorem dX0_turn_18 : decode cX0_turn 18 = .ok (.invokevirtual 83, 3) := by decide +kernel
theorem dX0_turn_21 : decode cX0_turn 21 = .ok (.lsub, 1) := by decide +kernel
theorem dX0_turn_22 : decode cX0_turn 22 = .ok (.lmul, 1) := by decide +kernel
theorem dX0_turn_23 : decode cX0_turn 23 = .ok (.aload_n 0, 1) := by decide +kernel
theorem dX0_turn_24 : decode cX0_turn 24 = .ok (.iload_n 2, 1) := by decide +kernel
theorem dX0_turn_25 : decode cX0_turn 25 = .ok (.invokevirtual 83, 3) := by decide +kernel
theorem dX0_turn_28 : decode cX0_turn 28 = .ok (.aload_n 0, 1) := by decide +kernel
theorem dX0_turn_29 : decode cX0_turn 29 = .ok (.iload_n 1, 1) := by decide +kernel
theorem dX0_turn_30 : decode cX0_turn 30 = .ok (.invokevirtual 83, 3) := by decide +kernel
theorem dX0_turn_33 : decode cX0_turn 33 = .ok (.lsub, 1) := by decide +kernel
theorem dX0_turn_34 : decode cX0_turn 34 = .ok (.aload_n 0, 1) := by decide +kernel
theorem dX0_turn_35 : decode cX0_turn 35 = .ok (.iload_n 3, 1) := by decide +kernel
theorem dX0_turn_36 : decode cX0_turn 36 = .ok (.invokevirtual 79, 3) := by decide +kernel
theorem dX0_turn_39 : decode cX0_turn 39 = .ok (.aload_n 0, 1) := by decide +kernel
theorem dX0_turn_40 : decode cX0_turn 40 = .ok (.iload_n 1, 1) := by decide +kernel
theorem dX0_turn_41 : decode cX0_turn 41 = .ok (.invokevirtual 79, 3) := by decide +kernel
theorem dX0_turn_44 : decode cX0_turn 44 = .ok (.lsub, 1) := by decide +kernel
theorem dX0_turn_45 : decode cX0_turn 45 = .ok (.lmul, 1) := by decide +kernel
theorem dX0_turn_46 : decode cX0_turn 46 = .ok (.lsub, 1) := by decide +kernel
theorem dX0_turn_47 : decode cX0_turn 47 = .ok (.lreturn, 1) := by decide +kernel
set_option maxRecDepth 20000 in
theorem ggX0_gap_X0_xOf : GoodIn wsX0_gap wsX0_xOf := goodIn_r _ [5, 6, 7, 13, 14, 15, 16, 17, 18, 19, 20, 21, 22, 23, 24] (by decide +kernel) (by decide +kernel)
set_option maxRecDepth 20000 in
theorem gX0_gap_X0_xOf : GoodIn wsX0_gap (wsV RX0 79 RX0 yX0_xOf wsX0_xOf) := goodIn_app (goodIn_of _ (by decide +kernel)) ggX0_gap_X0_xOf
set_option maxRecDepth 20000 in
theorem ggX0_gap_X0_yOf : GoodIn wsX0_gap wsX0_yOf := goodIn_r _ [11, 6, 12, 13, 14, 15, 16, 17, 18, 19, 20, 21, 22, 23, 24] (by decide +kernel) (by decide +kernel)
set_option maxRecDepth 20000 in
theorem gX0_gap_X0_yOf : GoodIn wsX0_gap (wsV RX0 83 RX0 yX0_yOf wsX0_yOf) := goodIn_app (goodIn_of _ (by decide +kernel)) ggX0_gap_X0_yOf
theorem dX0_gap_0 : decode cX0_gap 0 = .ok (.aload_n 0, 1) := by decide +kernel
theorem dX0_gap_1 : decode cX0_gap 1 = .ok (.iload_n 2, 1) := by decide +kernel
theorem dX0_gap_2 : decode cX0_gap 2 = .ok (.invokevirtual 79, 3) := by decide +kernel
theorem dX0_gap_5 : decode cX0_gap 5 = .ok (.aload_n 0, 1) := by decide +kernel
theorem dX0_gap_6 : decode cX0_gap 6 = .ok (.iload_n 1, 1) := by decide +kernel
theorem dX0_gap_7 : decode cX0_gap 7 = .ok (.invokevirtual 79, 3) := by decide +kernel
theorem dX0_gap_10 : decode cX0_gap 10 = .ok (.lsub, 1) := by decide +kernel
theorem dX0_gap_11 : decode cX0_gap 11 = .ok (.lstore_n 3, 1) := by decide +kernel
theorem dX0_gap_12 : decode cX0_gap 12 = .ok (.aload_n 0, 1) := by decide +kernel
theorem dX0_gap_13 : decode cX0_gap 13 = .ok (.iload_n 2, 1) := by decide +kernel
theorem dX0_gap_14 : decode cX0_gap 14 = .ok (.invokevirtual 83, 3) := by decide +kernel
theorem dX0_gap_17 : decode cX0_gap 17 = .ok (.aload_n 0, 1) := by decide +kernel
theorem dX0_gap_18 : decode cX0_gap 18 = .ok (.iload_n 1, 1) := by decide +kernel
theorem dX0_gap_19 : decode cX0_gap 19 = .ok (.invokevirtual 83, 3) := by decide +kernel
theorem dX0_gap_22 : decode cX0_gap 22 = .ok (.lsub, 1) := by decide +kernel
theorem dX0_gap_23 : decode cX0_gap 23 = .ok (.lstore 5, 2) := by decide +kernel
theorem dX0_gap_25 : decode cX0_gap 25 = .ok (.lload_n 3, 1) := by decide +kernel
theorem dX0_gap_26 : decode cX0_gap 26 = .ok (.lload_n 3, 1) := by decide +kernel
theorem dX0_gap_27 : decode cX0_gap 27 = .ok (.lmul, 1) := by decide +kernel
theorem dX0_gap_28 : decode cX0_gap 28 = .ok (.lload 5, 2) := by decide +kernel
theorem dX0_gap_30 : decode cX0_gap 30 = .ok (.lload 5, 2) := by decide +kernel
theorem dX0_gap_32 : decode cX0_gap 32 = .ok (.lmul, 1) := by decide +kernel
theorem dX0_gap_33 : decode cX0_gap 33 = .ok (.ladd, 1) := by decide +kernel
theorem dX0_gap_34 : decode cX0_gap 34 = .ok (.lreturn, 1) := by decide +kernel
set_option maxRecDepth 20000 in
theorem ggX0_dot_X0_xOf : GoodIn wsX0_dot wsX0_xOf := goodIn_r _ [5, 6, 7, 13, 14, 15, 16, 17, 18, 19, 20, 21, 22, 23, 24] (by decide +kernel) (by decide +kernel)
set_option maxRecDepth 20000 in
theorem gX0_dot_X0_xOf : GoodIn wsX0_dot (wsV RX0 79 RX0 yX0_xOf wsX0_xOf) := goodIn_app (goodIn_of _ (by decide +kernel)) ggX0_dot_X0_xOf
set_option maxRecDepth 20000 in
theorem ggX0_dot_X0_yOf : GoodIn wsX0_dot wsX0_yOf := goodIn_r _ [11, 6, 12, 13, 14, 15, 16, 17, 18, 19, 20, 21, 22, 23, 24] (by decide +kernel) (by decide +kernel)
set_option maxRecDepth 20000 in
theorem gX0_dot_X0_yOf : GoodIn wsX0_dot (wsV RX0 83 RX0 yX0_yOf wsX0_yOf) := goodIn_app (goodIn_of _ (by decide +kernel)) ggX0_dot_X0_yOf
theorem dX0_dot_0 : decode cX0_dot 0 = .ok (.aload_n 0, 1) := by decide +kernel
theorem dX0_dot_1 : decode cX0_dot 1 = .ok (.iload_n 2, 1) := by decide +kernel
theorem dX0_dot_2 : decode cX0_dot 2 = .ok (.invokevirtual 79, 3) := by decide +kernel
theorem dX0_dot_5 : decode cX0_dot 5 = .ok (.aload_n 0, 1) := by decide +kernel
theorem dX0_dot_6 : decode cX0_dot 6 = .ok (.iload_n 1, 1) := by decide +kernel
theorem dX0_dot_7 : decode cX0_dot 7 = .ok (.invokevirtual 79, 3) := by decide +kernel
theorem dX0_dot_10 : decode cX0_dot 10 = .ok (.lsub, 1) := by decide +kernel
theorem dX0_dot_11 : decode cX0_dot 11 = .ok (.aload_n 0, 1) := by decide +kernel
theorem dX0_dot_12 : decode cX0_dot 12 = .ok (.iload_n 3, 1) := by decide +kernel
theorem dX0_dot_13 : decode cX0_dot 13 = .ok (.invokevirtual 79, 3) := by decide +kernel
theorem dX0_dot_16 : decode cX0_dot 16 = .ok (.aload_n 0, 1) := by decide +kernel
theorem dX0_dot_17 : decode cX0_dot 17 = .ok (.iload_n 1, 1) := by decide +kernel
theorem dX0_dot_18 : decode cX0_dot 18 = .ok (.invokevirtual 79, 3) := by decide +kernel
theorem dX0_dot_21 : decode cX0_dot 21 = .ok (.lsub, 1) := by decide +kernel
theorem dX0_dot_22 : decode cX0_dot 22 = .ok (.lmul, 1) := by decide +kernel
theorem dX0_dot_23 : decode cX0_dot 23 = .ok (.aload_n 0, 1) := by decide +kernel
theorem dX0_dot_24 : decode cX0_dot 24 = .ok (.iload_n 2, 1) := by decide +kernel
theorem dX0_dot_25 : decode cX0_dot 25 = .ok (.invokevirtual 83, 3) := by decide +kernel
theorem dX0_dot_28 : decode cX0_dot 28 = .ok (.aload_n 0, 1) := by decide +kernel
theorem dX0_dot_29 : decode cX0_dot 29 = .ok (.iload_n 1, 1) := by decide +kernel
theorem dX0_dot_30 : decode cX0_dot 30 = .ok (.invokevirtual 83, 3) := by decide +kernel
theorem dX0_dot_33 : decode cX0_dot 33 = .ok (.lsub, 1) := by decide +kernel
theorem dX0_dot_34 : decode cX0_dot 34 = .ok (.aload_n 0, 1) := by decide +kernel
theorem dX0_dot_35 : decode cX0_dot 35 = .ok (.iload_n 3, 1) := by decide +kernel
theorem dX0_dot_36 : decode cX0_dot 36 = .ok (.invokevirtual 83, 3) := by decide +kernel
theorem dX0_dot_39 : decode cX0_dot 39 = .ok (.aload_n 0, 1) := by decide +kernel
theorem dX0_dot_40 : decode cX0_dot 40 = .ok (.iload_n 1, 1) := by decide +kernel
theorem dX0_dot_41 : decode cX0_dot 41 = .ok (.invokevirtual 83, 3) := by decide +kernel
theorem dX0_dot_44 : decode cX0_dot 44 = .ok (.lsub, 1) := by decide +kernel
theorem dX0_dot_45 : decode cX0_dot 45 = .ok (.lmul, 1) := by decide +kernel
theorem dX0_dot_46 : decode cX0_dot 46 = .ok (.ladd, 1) := by decide +kernel
theorem dX0_dot_47 : decode cX0_dot 47 = .ok (.lreturn, 1) := by decide +kernel
set_option maxRecDepth 20000 in
theorem ggX0_gapToPoint_X0_xOf : GoodIn wsX0_gapToPoint wsX0_xOf := goodIn_r _ [5, 6, 7, 13, 14, 15, 16, 17, 18, 19, 20, 21, 22, 23, 24] (by decide +kernel) (by decide +kernel)
set_option maxRecDepth 20000 in
theorem gX0_gapToPoint_X0_xOf : GoodIn wsX0_gapToPoint (wsV RX0 79 RX0 yX0_xOf wsX0_xOf) := goodIn_app (goodIn_of _ (by decide +kernel)) ggX0_gapToPoint_X0_xOf
set_option maxRecDepth 20000 in
theorem ggX0_gapToPoint_X0_yOf : GoodIn wsX0_gapToPoint wsX0_yOf := goodIn_r _ [11, 6, 12, 13, 14, 15, 16, 17, 18, 19, 20, 21, 22, 23, 24] (by decide +kernel) (by decide +kernel)
set_option maxRecDepth 20000 in
theorem gX0_gapToPoint_X0_yOf : GoodIn wsX0_gapToPoint (wsV RX0 83 RX0 yX0_yOf wsX0_yOf) := goodIn_app (goodIn_of _ (by decide +kernel)) ggX0_gapToPoint_X0_yOf
theorem dX0_gapToPoint_0 : decode cX0_gapToPoint 0 = .ok (.dload_n 2, 1) := by decide +kernel
theorem dX0_gapToPoint_1 : decode cX0_gapToPoint 1 = .ok (.aload_n 0, 1) := by decide +kernel
theorem dX0_gapToPoint_2 : decode cX0_gapToPoint 2 = .ok (.iload_n 1, 1) := by decide +kernel
theorem dX0_gapToPoint_3 : decode cX0_gapToPoint 3 = .ok (.invokevirtual 79, 3) := by decide +kernel
theorem dX0_gapToPoint_6 : decode cX0_gapToPoint 6 = .ok (.l2d, 1) := by decide +kernel
theorem dX0_gapToPoint_7 : decode cX0_gapToPoint 7 = .ok (.dsub, 1) := by decide +kernel
theorem dX0_gapToPoint_8 : decode cX0_gapToPoint 8 = .ok (.dstore 6, 2) := by decide +kernel
theorem dX0_gapToPoint_10 : decode cX0_gapToPoint 10 = .ok (.dload 4, 2) := by decide +kernel
theorem dX0_gapToPoint_12 : decode cX0_gapToPoint 12 = .ok (.aload_n 0, 1) := by decide +kernel
theorem dX0_gapToPoint_13 : decode cX0_gapToPoint 13 = .ok (.iload_n 1, 1) := by decide +kernel
theorem dX0_gapToPoint_14 : decode cX0_gapToPoint 14 = .ok (.invokevirtual 83, 3) := by decide +kernel
theorem dX0_gapToPoint_17 : decode cX0_gapToPoint 17 = .ok (.l2d, 1) := by decide +kernel
theorem dX0_gapToPoint_18 : decode cX0_gapToPoint 18 = .ok (.dsub, 1) := by decide +kernel
theorem dX0_gapToPoint_19 : decode cX0_gapToPoint 19 = .ok (.dstore 8, 2) := by decide +kernel
theorem dX0_gapToPoint_21 : decode cX0_gapToPoint 21 = .ok (.dload 6, 2) := by decide +kernel
theorem dX0_gapToPoint_23 : decode cX0_gapToPoint 23 = .ok (.dload 6, 2) := by decide +kernel
theorem dX0_gapToPoint_25 : decode cX0_gapToPoint 25 = .ok (.dmul, 1) := by decide +kernel
theorem dX0_gapToPoint_26 : decode cX0_gapToPoint 26 = .ok (.dload 8, 2) := by decide +kernel
theorem dX0_gapToPoint_28 : decode cX0_gapToPoint 28 = .ok (.dload 8, 2) := by decide +kernel
theorem dX0_gapToPoint_30 : decode cX0_gapToPoint 30 = .ok (.dmul, 1) := by decide +kernel
theorem dX0_gapToPoint_31 : decode cX0_gapToPoint 31 = .ok (.dadd, 1) := by decide +kernel
theorem dX0_gapToPoint_32 : decode cX0_gapToPoint 32 = .ok (.dreturn, 1) := by decide +kernel
set_option maxRecDepth 20000 in
theorem ggX0_turnToPoint_X0_xOf : GoodIn wsX0_turnToPoint wsX0_xOf := goodIn_r _ [5, 6, 7, 13, 14, 15, 16, 17, 18, 19, 20, 21, 22, 23, 24] (by decide +kernel) (by decide +kernel)
set_option maxRecDepth 20000 in
theorem gX0_turnToPoint_X0_xOf : GoodIn wsX0_turnToPoint (wsV RX0 79 RX0 yX0_xOf wsX0_xOf) := goodIn_app (goodIn_of _ (by decide +kernel)) ggX0_turnToPoint_X0_xOf
set_option maxRecDepth 20000 in
theorem ggX0_turnToPoint_X0_yOf : GoodIn wsX0_turnToPoint wsX0_yOf := goodIn_r _ [11, 6, 12, 13, 14, 15, 16, 17, 18, 19, 20, 21, 22, 23, 24] (by decide +kernel) (by decide +kernel)
set_option maxRecDepth 20000 in
theorem gX0_turnToPoint_X0_yOf : GoodIn wsX0_turnToPoint (wsV RX0 83 RX0 yX0_yOf wsX0_yOf) := goodIn_app (goodIn_of _ (by decide +kernel)) ggX0_turnToPoint_X0_yOf
theorem dX0_turnToPoint_0 : decode cX0_turnToPoint 0 = .ok (.aload_n 0, 1) := by decide +kernel
theorem dX0_turnToPoint_1 : decode cX0_turnToPoint 1 = .ok (.iload_n 2, 1) := by decide +kernel
theorem dX0_turnToPoint_2 : decode cX0_turnToPoint 2 = .ok (.invokevirtual 79, 3) := by decide +kernel
theorem dX0_turnToPoint_5 : decode cX0_turnToPoint 5 = .ok (.aload_n 0, 1) := by decide +kernel
theorem dX0_turnToPoint_6 : decode cX0_turnToPoint 6 = .ok (.iload_n 1, 1) := by decide +kernel
theorem dX0_turnToPoint_7 : decode cX0_turnToPoint 7 = .ok (.invokevirtual 79, 3) := by decide +kernel
theorem dX0_turnToPoint_10 : decode cX0_turnToPoint 10 = .ok (.lsub, 1) := by decide +kernel
theorem dX0_turnToPoint_11 : decode cX0_turnToPoint 11 = .ok (.l2d, 1) := by decide +kernel
theorem dX0_turnToPoint_12 : decode cX0_turnToPoint 12 = .ok (.dload 5, 2) := by decide +kernel
theorem dX0_turnToPoint_14 : decode cX0_turnToPoint 14 = .ok (.aload_n 0, 1) := by decide +kernel
theorem dX0_turnToPoint_15 : decode cX0_turnToPoint 15 = .ok (.iload_n 1, 1) := by decide +kernel
theorem dX0_turnToPoint_16 : decode cX0_turnToPoint 16 = .ok (.invokevirtual 83, 3) := by decide +kernel
theorem dX0_turnToPoint_19 : decode cX0_turnToPoint 19 = .ok (.l2d, 1) := by decide +kernel
theorem dX0_turnToPoint_20 : decode cX0_turnToPoint 20 = .ok (.dsub, 1) := by decide +kernel
theorem dX0_turnToPoint_21 : decode cX0_turnToPoint 21 = .ok (.dmul, 1) := by decide +kernel
theorem dX0_turnToPoint_22 : decode cX0_turnToPoint 22 = .ok (.aload_n 0, 1) := by decide +kernel
theorem dX0_turnToPoint_23 : decode cX0_turnToPoint 23 = .ok (.iload_n 2, 1) := by decide +kernel
theorem dX0_turnToPoint_24 : decode cX0_turnToPoint 24 = .ok (.invokevirtual 83, 3) := by decide +kernel
theorem dX0_turnToPoint_27 : decode cX0_turnToPoint 27 = .ok (.aload_n 0, 1) := by decide +kernel
theorem dX0_turnToPoint_28 : decode cX0_turnToPoint 28 = .ok (.iload_n 1, 1) := by decide +kernel
theorem dX0_turnToPoint_29 : decode cX0_turnToPoint 29 = .ok (.invokevirtual 83, 3) := by decide +kernel
theorem dX0_turnToPoint_32 : decode cX0_turnToPoint 32 = .ok (.lsub, 1) := by decide +kernel
theorem dX0_turnToPoint_33 : decode cX0_turnToPoint 33 = .ok (.l2d, 1) := by decide +kernel
theorem dX0_turnToPoint_34 : decode cX0_turnToPoint 34 = .ok (.dload_n 3, 1) := by decide +kernel
theorem dX0_turnToPoint_35 : decode cX0_turnToPoint 35 = .ok (.aload_n 0, 1) := by decide +kernel
theorem dX0_turnToPoint_36 : decode cX0_turnToPoint 36 = .ok (.iload_n 1, 1) := by decide +kernel
theorem dX0_turnToPoint_37 : decode cX0_turnToPoint 37 = .ok (.invokevirtual 79, 3) := by decide +kernel
theorem dX0_turnToPoint_40 : decode cX0_turnToPoint 40 = .ok (.l2d, 1) := by decide +kernel
theorem dX0_turnToPoint_41 : decode cX0_turnToPoint 41 = .ok (.dsub, 1) := by decide +kernel
theorem dX0_turnToPoint_42 : decode cX0_turnToPoint 42 = .ok (.dmul, 1) := by decide +kernel
theorem dX0_turnToPoint_43 : decode cX0_turnToPoint 43 = .ok (.dsub, 1) := by decide +kernel
theorem dX0_turnToPoint_44 : decode cX0_turnToPoint 44 = .ok (.dreturn, 1) := by decide +kernel
theorem dX0_commonDivisor_0 : decode cX0_commonDivisor 0 = .ok (.lload_n 0, 1) := by decide +kernel
theorem dX0_commonDivisor_1 : decode cX0_commonDivisor 1 = .ok (.invokestatic 125, 3) := by decide +kernel
theorem dX0_commonDivisor_4 : decode cX0_commonDivisor 4 = .ok (.lstore 4, 2) := by decide +kernel
theorem dX0_commonDivisor_6 : decode cX0_commonDivisor 6 = .ok (.lload_n 2, 1) := by decide +kernel
theorem dX0_commonDivisor_7 : decode cX0_commonDivisor 7 = .ok (.invokestatic 125, 3) := by decide +kernel
theorem dX0_commonDivisor_10 : decode cX0_commonDivisor 10 = .ok (.lstore 6, 2) := by decide +kernel
theorem dX0_commonDivisor_12 : decode cX0_commonDivisor 12 = .ok (.iconst 0, 1) := by decide +kernel
theorem dX0_commonDivisor_13 : decode cX0_commonDivisor 13 = .ok (.istore 8, 2) := by decide +kernel
theorem dX0_commonDivisor_15 : decode cX0_commonDivisor 15 = .ok (.iload 8, 2) := by decide +kernel
theorem dX0_commonDivisor_17 : decode cX0_commonDivisor 17 = .ok (.bipush 100, 2) := by decide +kernel
theorem dX0_commonDivisor_19 : decode cX0_commonDivisor 19 = .ok (.if_icmp .ge 31, 3) := by decide +kernel
theorem dX0_commonDivisor_22 : decode cX0_commonDivisor 22 = .ok (.lload 6, 2) := by decide +kernel
theorem dX0_commonDivisor_24 : decode cX0_commonDivisor 24 = .ok (.lconst 0, 1) := by decide +kernel
theorem dX0_commonDivisor_25 : decode cX0_commonDivisor 25 = .ok (.lcmp, 1) := by decide +kernel
theorem dX0_commonDivisor_26 : decode cX0_commonDivisor 26 = .ok (.ifCond .eq 24, 3) := by decide +kernel
theorem dX0_commonDivisor_29 : decode cX0_commonDivisor 29 = .ok (.lload 4, 2) := by decide +kernel
theorem dX0_commonDivisor_31 : decode cX0_commonDivisor 31 = .ok (.lload 6, 2) := by decide +kernel
theorem dX0_commonDivisor_33 : decode cX0_commonDivisor 33 = .ok (.lrem, 1) := by decide +kernel
theorem dX0_commonDivisor_34 : decode cX0_commonDivisor 34 = .ok (.lstore 9, 2) := by decide +kernel
theorem dX0_commonDivisor_36 : decode cX0_commonDivisor 36 = .ok (.lload 6, 2) := by decide +kernel
theorem dX0_commonDivisor_38 : decode cX0_commonDivisor 38 = .ok (.lstore 4, 2) := by decide +kernel
theorem dX0_commonDivisor_40 : decode cX0_commonDivisor 40 = .ok (.lload 9, 2) := by decide +kernel
theorem dX0_commonDivisor_42 : decode cX0_commonDivisor 42 = .ok (.lstore 6, 2) := by decide +kernel
theorem dX0_commonDivisor_44 : decode cX0_commonDivisor 44 = .ok (.iinc 8 1, 3) := by decide +kernel
theorem dX0_commonDivisor_47 : decode cX0_commonDivisor 47 = .ok (.goto (-32), 3) := by decide +kernel
theorem dX0_commonDivisor_50 : decode cX0_commonDivisor 50 = .ok (.lload 4, 2) := by decide +kernel
theorem dX0_commonDivisor_52 : decode cX0_commonDivisor 52 = .ok (.lreturn, 1) := by decide +kernel
set_option maxRecDepth 20000 in
theorem ggX0_triangleCorner_X0_isTriangle : GoodIn wsX0_triangleCorner wsX0_isTriangle := goodIn_r _ [6, 7, 8, 9, 10, 11, 12, 13, 14, 15, 16, 17, 18, 19] (by decide +kernel) (by decide +kernel)
set_option maxRecDepth 20000 in
theorem gX0_triangleCorner_X0_isTriangle : GoodIn wsX0_triangleCorner (wsV RX0 59 RX0 yX0_isTriangle wsX0_isTriangle) := goodIn_app (goodIn_of _ (by decide +kernel)) ggX0_triangleCorner_X0_isTriangle
theorem dX0_triangleCorner_0 : decode cX0_triangleCorner 0 = .ok (.aload_n 0, 1) := by decide +kernel
theorem dX0_triangleCorner_1 : decode cX0_triangleCorner 1 = .ok (.iload_n 1, 1) := by decide +kernel
theorem dX0_triangleCorner_2 : decode cX0_triangleCorner 2 = .ok (.invokevirtual 59, 3) := by decide +kernel
theorem dX0_triangleCorner_5 : decode cX0_triangleCorner 5 = .ok (.ifCond .ne 5, 3) := by decide +kernel
theorem dX0_triangleCorner_8 : decode cX0_triangleCorner 8 = .ok (.iconst (-1), 1) := by decide +kernel
theorem dX0_triangleCorner_9 : decode cX0_triangleCorner 9 = .ok (.ireturn, 1) := by decide +kernel
theorem dX0_triangleCorner_10 : decode cX0_triangleCorner 10 = .ok (.aload_n 0, 1) := by decide +kernel
theorem dX0_triangleCorner_11 : decode cX0_triangleCorner 11 = .ok (.getfield 20, 3) := by decide +kernel
theorem dX0_triangleCorner_14 : decode cX0_triangleCorner 14 = .ok (.iload_n 1, 1) := by decide +kernel
theorem dX0_triangleCorner_15 : decode cX0_triangleCorner 15 = .ok (.iaload, 1) := by decide +kernel
theorem dX0_triangleCorner_16 : decode cX0_triangleCorner 16 = .ok (.iconst 4, 1) := by decide +kernel
theorem dX0_triangleCorner_17 : decode cX0_triangleCorner 17 = .ok (.iload_n 2, 1) := by decide +kernel
theorem dX0_triangleCorner_18 : decode cX0_triangleCorner 18 = .ok (.imul, 1) := by decide +kernel
theorem dX0_triangleCorner_19 : decode cX0_triangleCorner 19 = .ok (.ishr, 1) := by decide +kernel
theorem dX0_triangleCorner_20 : decode cX0_triangleCorner 20 = .ok (.bipush 15, 2) := by decide +kernel
theorem dX0_triangleCorner_22 : decode cX0_triangleCorner 22 = .ok (.iand, 1) := by decide +kernel
theorem dX0_triangleCorner_23 : decode cX0_triangleCorner 23 = .ok (.ireturn, 1) := by decide +kernel
set_option maxRecDepth 20000 in
theorem ggX0_hasCorner_X0_triangleCorner : GoodIn wsX0_hasCorner wsX0_triangleCorner := goodIn_r _ [5, 6, 7, 8, 9, 4, 10, 11, 12, 13, 14, 15, 16, 17, 18, 19, 20, 21, 22, 23] (by decide +kernel) (by decide +kernel)
set_option maxRecDepth 20000 in
theorem gX0_hasCorner_X0_triangleCorner : GoodIn wsX0_hasCorner (wsV RX0 62 RX0 yX0_triangleCorner wsX0_triangleCorner) := goodIn_app (goodIn_of _ (by decide +kernel)) ggX0_hasCorner_X0_triangleCorner
theorem dX0_hasCorner_0 : decode cX0_hasCorner 0 = .ok (.aload_n 0, 1) := by decide +kernel
theorem dX0_hasCorner_1 : decode cX0_hasCorner 1 = .ok (.iload_n 1, 1) := by decide +kernel
theorem dX0_hasCorner_2 : decode cX0_hasCorner 2 = .ok (.iconst 0, 1) := by decide +kernel
theorem dX0_hasCorner_3 : decode cX0_hasCorner 3 = .ok (.invokevirtual 62, 3) := by decide +kernel
theorem dX0_hasCorner_6 : decode cX0_hasCorner 6 = .ok (.iload_n 2, 1) := by decide +kernel
theorem dX0_hasCorner_7 : decode cX0_hasCorner 7 = .ok (.if_icmp .eq 23, 3) := by decide +kernel
theorem dX0_hasCorner_10 : decode cX0_hasCorner 10 = .ok (.aload_n 0, 1) := by decide +kernel
theorem dX0_hasCorner_11 : decode cX0_hasCorner 11 = .ok (.iload_n 1, 1) := by decide +kernel
theorem dX0_hasCorner_12 : decode cX0_hasCorner 12 = .ok (.iconst 1, 1) := by decide +kernel
theorem dX0_hasCorner_13 : decode cX0_hasCorner 13 = .ok (.invokevirtual 62, 3) := by decide +kernel
theorem dX0_hasCorner_16 : decode cX0_hasCorner 16 = .ok (.iload_n 2, 1) := by decide +kernel
theorem dX0_hasCorner_17 : decode cX0_hasCorner 17 = .ok (.if_icmp .eq 13, 3) := by decide +kernel
theorem dX0_hasCorner_20 : decode cX0_hasCorner 20 = .ok (.aload_n 0, 1) := by decide +kernel
theorem dX0_hasCorner_21 : decode cX0_hasCorner 21 = .ok (.iload_n 1, 1) := by decide +kernel
theorem dX0_hasCorner_22 : decode cX0_hasCorner 22 = .ok (.iconst 2, 1) := by decide +kernel
theorem dX0_hasCorner_23 : decode cX0_hasCorner 23 = .ok (.invokevirtual 62, 3) := by decide +kernel
theorem dX0_hasCorner_26 : decode cX0_hasCorner 26 = .ok (.iload_n 2, 1) := by decide +kernel
theorem dX0_hasCorner_27 : decode cX0_hasCorner 27 = .ok (.if_icmp .ne 7, 3) := by decide +kernel
theorem dX0_hasCorner_30 : decode cX0_hasCorner 30 = .ok (.iconst 1, 1) := by decide +kernel
theorem dX0_hasCorner_31 : decode cX0_hasCorner 31 = .ok (.goto 4, 3) := by decide +kernel
theorem dX0_hasCorner_34 : decode cX0_hasCorner 34 = .ok (.iconst 0, 1) := by decide +kernel
theorem dX0_hasCorner_35 : decode cX0_hasCorner 35 = .ok (.ireturn, 1) := by decide +kernel
set_option maxRecDepth 20000 in
theorem ggX0_holds_X0_triangleCorner : GoodIn wsX0_holds wsX0_triangleCorner := goodIn_r _ [5, 6, 7, 8, 9, 4, 10, 11, 27, 28, 29, 30, 31, 32, 33, 34, 35, 36, 37, 38] (by decide +kernel) (by decide +kernel)
set_option maxRecDepth 20000 in
theorem gX0_holds_X0_triangleCorner : GoodIn wsX0_holds (wsV RX0 62 RX0 yX0_triangleCorner wsX0_triangleCorner) := goodIn_app (goodIn_of _ (by decide +kernel)) ggX0_holds_X0_triangleCorner
set_option maxRecDepth 20000 in
theorem ggX0_holds_X0_turnToPoint : GoodIn wsX0_holds wsX0_turnToPoint := goodIn_r _ [15, 16, 17, 18, 4, 19, 20, 21, 22, 23, 24, 25, 26, 27, 28, 29, 30, 31, 32, 33, 34, 35, 36, 37, 38] (by decide +kernel) (by decide +kernel)
set_option maxRecDepth 20000 in
theorem gX0_holds_X0_turnToPoint : GoodIn wsX0_holds (wsV RX0 131 RX0 yX0_turnToPoint wsX0_turnToPoint) := goodIn_app (goodIn_of _ (by decide +kernel)) ggX0_holds_X0_turnToPoint
theorem dX0_holds_0 : decode cX0_holds 0 = .ok (.aload_n 0, 1) := by decide +kernel
theorem dX0_holds_1 : decode cX0_holds 1 = .ok (.iload_n 1, 1) := by decide +kernel
theorem dX0_holds_2 : decode cX0_holds 2 = .ok (.iconst 0, 1) := by decide +kernel
theorem dX0_holds_3 : decode cX0_holds 3 = .ok (.invokevirtual 62, 3) := by decide +kernel
theorem dX0_holds_6 : decode cX0_holds 6 = .ok (.istore 6, 2) := by decide +kernel
theorem dX0_holds_8 : decode cX0_holds 8 = .ok (.aload_n 0, 1) := by decide +kernel
theorem dX0_holds_9 : decode cX0_holds 9 = .ok (.iload_n 1, 1) := by decide +kernel
theorem dX0_holds_10 : decode cX0_holds 10 = .ok (.iconst 1, 1) := by decide +kernel
theorem dX0_holds_11 : decode cX0_holds 11 = .ok (.invokevirtual 62, 3) := by decide +kernel
theorem dX0_holds_14 : decode cX0_holds 14 = .ok (.istore 7, 2) := by decide +kernel
theorem dX0_holds_16 : decode cX0_holds 16 = .ok (.aload_n 0, 1) := by decide +kernel
theorem dX0_holds_17 : decode cX0_holds 17 = .ok (.iload_n 1, 1) := by decide +kernel
theorem dX0_holds_18 : decode cX0_holds 18 = .ok (.iconst 2, 1) := by decide +kernel
theorem dX0_holds_19 : decode cX0_holds 19 = .ok (.invokevirtual 62, 3) := by decide +kernel
theorem dX0_holds_22 : decode cX0_holds 22 = .ok (.istore 8, 2) := by decide +kernel
theorem dX0_holds_24 : decode cX0_holds 24 = .ok (.aload_n 0, 1) := by decide +kernel
theorem dX0_holds_25 : decode cX0_holds 25 = .ok (.iload 6, 2) := by decide +kernel
theorem dX0_holds_27 : decode cX0_holds 27 = .ok (.iload 7, 2) := by decide +kernel
theorem dX0_holds_29 : decode cX0_holds 29 = .ok (.dload_n 2, 1) := by decide +kernel
theorem dX0_holds_30 : decode cX0_holds 30 = .ok (.dload 4, 2) := by decide +kernel
theorem dX0_holds_32 : decode cX0_holds 32 = .ok (.invokevirtual 131, 3) := by decide +kernel
theorem dX0_holds_35 : decode cX0_holds 35 = .ok (.dstore 9, 2) := by decide +kernel
theorem dX0_holds_37 : decode cX0_holds 37 = .ok (.aload_n 0, 1) := by decide +kernel
theorem dX0_holds_38 : decode cX0_holds 38 = .ok (.iload 7, 2) := by decide +kernel
theorem dX0_holds_40 : decode cX0_holds 40 = .ok (.iload 8, 2) := by decide +kernel
theorem dX0_holds_42 : decode cX0_holds 42 = .ok (.dload_n 2, 1) := by decide +kernel
theorem dX0_holds_43 : decode cX0_holds 43 = .ok (.dload 4, 2) := by decide +kernel
theorem dX0_holds_45 : decode cX0_holds 45 = .ok (.invokevirtual 131, 3) := by decide +kernel
theorem dX0_holds_48 : decode cX0_holds 48 = .ok (.dstore 11, 2) := by decide +kernel
theorem dX0_holds_50 : decode cX0_holds 50 = .ok (.aload_n 0, 1) := by decide +kernel
theorem dX0_holds_51 : decode cX0_holds 51 = .ok (.iload 8, 2) := by decide +kernel
theorem dX0_holds_53 : decode cX0_holds 53 = .ok (.iload 6, 2) := by decide +kernel
theorem dX0_holds_55 : decode cX0_holds 55 = .ok (.dload_n 2, 1) := by decide +kernel
theorem dX0_holds_56 : decode cX0_holds 56 = .ok (.dload 4, 2) := by decide +kernel
theorem dX0_holds_58 : decode cX0_holds 58 = .ok (.invokevirtual 131, 3) := by decide +kernel
theorem dX0_holds_61 : decode cX0_holds 61 = .ok (.dstore 13, 2) := by decide +kernel
theorem dX0_holds_63 : decode cX0_holds 63 = .ok (.dload 9, 2) := by decide +kernel
theorem dX0_holds_65 : decode cX0_holds 65 = .ok (.dconst 0, 1) := by decide +kernel
theorem dX0_holds_66 : decode cX0_holds 66 = .ok (.dcmp .l, 1) := by decide +kernel
theorem dX0_holds_67 : decode cX0_holds 67 = .ok (.ifCond .gt 17, 3) := by decide +kernel
theorem dX0_holds_70 : decode cX0_holds 70 = .ok (.dload 11, 2) := by decide +kernel
theorem dX0_holds_72 : decode cX0_holds 72 = .ok (.dconst 0, 1) := by decide +kernel
theorem dX0_holds_73 : decode cX0_holds 73 = .ok (.dcmp .l, 1) := by decide +kernel
theorem dX0_holds_74 : decode cX0_holds 74 = .ok (.ifCond .gt 10, 3) := by decide +kernel
theorem dX0_holds_77 : decode cX0_holds 77 = .ok (.dload 13, 2) := by decide +kernel
theorem dX0_holds_79 : decode cX0_holds 79 = .ok (.dconst 0, 1) := by decide +kernel
theorem dX0_holds_80 : decode cX0_holds 80 = .ok (.dcmp .l, 1) := by decide +kernel
theorem dX0_holds_81 : decode cX0_holds 81 = .ok (.ifCond .le 7, 3) := by decide +kernel
theorem dX0_holds_84 : decode cX0_holds 84 = .ok (.iconst 1, 1) := by decide +kernel
theorem dX0_holds_85 : decode cX0_holds 85 = .ok (.goto 4, 3) := by decide +kernel
theorem dX0_holds_88 : decode cX0_holds 88 = .ok (.iconst 0, 1) := by decide +kernel
theorem dX0_holds_89 : decode cX0_holds 89 = .ok (.istore 15, 2) := by decide +kernel
theorem dX0_holds_91 : decode cX0_holds 91 = .ok (.dload 9, 2) := by decide +kernel
theorem dX0_holds_93 : decode cX0_holds 93 = .ok (.dconst 0, 1) := by decide +kernel
theorem dX0_holds_94 : decode cX0_holds 94 = .ok (.dcmp .g, 1) := by decide +kernel
theorem dX0_holds_95 : decode cX0_holds 95 = .ok (.ifCond .lt 17, 3) := by decide +kernel
theorem dX0_holds_98 : decode cX0_holds 98 = .ok (.dload 11, 2) := by decide +kernel
theorem dX0_holds_100 : decode cX0_holds 100 = .ok (.dconst 0, 1) := by decide +kernel
theorem dX0_holds_101 : decode cX0_holds 101 = .ok (.dcmp .g, 1) := by decide +kernel
theorem dX0_holds_102 : decode cX0_holds 102 = .ok (.ifCond .lt 10, 3) := by decide +kernel
theorem dX0_holds_105 : decode cX0_holds 105 = .ok (.dload 13, 2) := by decide +kernel
theorem dX0_holds_107 : decode cX0_holds 107 = .ok (.dconst 0, 1) := by decide +kernel
theorem dX0_holds_108 : decode cX0_holds 108 = .ok (.dcmp .g, 1) := by decide +kernel
theorem dX0_holds_109 : decode cX0_holds 109 = .ok (.ifCond .ge 7, 3) := by decide +kernel
theorem dX0_holds_112 : decode cX0_holds 112 = .ok (.iconst 1, 1) := by decide +kernel
theorem dX0_holds_113 : decode cX0_holds 113 = .ok (.goto 4, 3) := by decide +kernel
theorem dX0_holds_116 : decode cX0_holds 116 = .ok (.iconst 0, 1) := by decide +kernel
theorem dX0_holds_117 : decode cX0_holds 117 = .ok (.istore 16, 2) := by decide +kernel
theorem dX0_holds_119 : decode cX0_holds 119 = .ok (.iload 15, 2) := by decide +kernel
theorem dX0_holds_121 : decode cX0_holds 121 = .ok (.ifCond .eq 8, 3) := by decide +kernel
theorem dX0_holds_124 : decode cX0_holds 124 = .ok (.iload 16, 2) := by decide +kernel
theorem dX0_holds_126 : decode cX0_holds 126 = .ok (.ifCond .ne 7, 3) := by decide +kernel
theorem dX0_holds_129 : decode cX0_holds 129 = .ok (.iconst 1, 1) := by decide +kernel
theorem dX0_holds_130 : decode cX0_holds 130 = .ok (.goto 4, 3) := by decide +kernel
theorem dX0_holds_133 : decode cX0_holds 133 = .ok (.iconst 0, 1) := by decide +kernel
theorem dX0_holds_134 : decode cX0_holds 134 = .ok (.ireturn, 1) := by decide +kernel
set_option maxRecDepth 20000 in
theorem ggX0_rebuild_X0_findTriangles : GoodIn wsX0_rebuild wsX0_findTriangles := goodIn_r _ [5, 6, 7, 8, 9, 10, 4, 11, 12, 13, 14, 15, 16, 17, 18, 19, 20, 21, 22, 23, 24, 25, 26, 27, 28, 29, 30, 31, 32, 33, 34, 35, 36, 37, 38, 39, 111, 112, 113, 114, 115, 116, 117, 118, 119, 120, 121, 122] (by decide +kernel) (by decide +kernel)
set_option maxRecDepth 20000 in
theorem gX0_rebuild_X0_findTriangles : GoodIn wsX0_rebuild (wsV RX0 135 RX0 yX0_findTriangles wsX0_findTriangles) := goodIn_app (goodIn_of _ (by decide +kernel)) ggX0_rebuild_X0_findTriangles
set_option maxRecDepth 20000 in
theorem ggX0_rebuild_X0_findEdges : GoodIn wsX0_rebuild wsX0_findEdges := goodIn_r _ [43, 7, 44, 6, 45, 46, 47, 4, 48, 39, 49, 50, 51, 52, 53, 54, 55, 56, 57, 58, 59, 60, 61, 62, 63, 64, 65, 66, 67, 68, 12, 13, 14, 15, 16, 17, 18, 19, 20, 21, 22, 23, 24, 25, 69, 70, 71, 72, 111, 112, 113, 114, 115, 116, 117, 118, 119, 120, 121, 122] (by decide +kernel) (by decide +kernel)
set_option maxRecDepth 20000 in
theorem gX0_rebuild_X0_findEdges : GoodIn wsX0_rebuild (wsV RX0 138 RX0 yX0_findEdges wsX0_findEdges) := goodIn_app (goodIn_of _ (by decide +kernel)) ggX0_rebuild_X0_findEdges
set_option maxRecDepth 20000 in
theorem ggX0_rebuild_X0_leastCorner : GoodIn wsX0_rebuild wsX0_leastCorner := goodIn_r _ [76, 7, 77, 78, 79, 4, 80, 81, 82, 83, 84, 12, 13, 14, 15, 16, 17, 18, 19, 20, 21, 22, 23, 24, 25, 69, 70, 71, 72, 111, 112, 113, 114, 115, 116, 117, 118, 119, 120, 121, 122] (by decide +kernel) (by decide +kernel)
set_option maxRecDepth 20000 in
theorem gX0_rebuild_X0_leastCorner : GoodIn wsX0_rebuild (wsV RX0 141 RX0 yX0_leastCorner wsX0_leastCorner) := goodIn_app (goodIn_of _ (by decide +kernel)) ggX0_rebuild_X0_leastCorner
set_option maxRecDepth 20000 in
theorem ggX0_rebuild_X0_findRing : GoodIn wsX0_rebuild wsX0_findRing := goodIn_r _ [88, 89, 90, 77, 78, 79, 4, 80, 7, 81, 82, 83, 84, 12, 13, 14, 15, 16, 17, 18, 19, 20, 21, 22, 23, 24, 25, 69, 70, 71, 72, 111, 112, 113, 114, 115, 116, 117, 118, 119, 120, 121, 122] (by decide +kernel) (by decide +kernel)
set_option maxRecDepth 20000 in
theorem gX0_rebuild_X0_findRing : GoodIn wsX0_rebuild (wsV RX0 145 RX0 yX0_findRing wsX0_findRing) := goodIn_app (goodIn_of _ (by decide +kernel)) ggX0_rebuild_X0_findRing
set_option maxRecDepth 20000 in
theorem ggX0_rebuild_X0_growTree : GoodIn wsX0_rebuild wsX0_growTree := goodIn_r _ [94, 95, 96, 7, 97, 98, 99, 100, 4, 101, 102, 103, 104, 105, 44, 57, 58, 59, 60, 31, 32, 33, 34, 16, 17, 18, 19, 20, 21, 22, 23, 24, 25, 106, 107, 108, 109, 110, 111, 112, 113, 114, 115, 116, 117, 118, 119, 120, 121, 122] (by decide +kernel) (by decide +kernel)
set_option maxRecDepth 20000 in
theorem gX0_rebuild_X0_growTree : GoodIn wsX0_rebuild (wsV RX0 149 RX0 yX0_growTree wsX0_growTree) := goodIn_app (goodIn_of _ (by decide +kernel)) ggX0_rebuild_X0_growTree
theorem dX0_rebuild_0 : decode cX0_rebuild 0 = .ok (.aload_n 0, 1) := by decide +kernel
theorem dX0_rebuild_1 : decode cX0_rebuild 1 = .ok (.invokevirtual 135, 3) := by decide +kernel
theorem dX0_rebuild_4 : decode cX0_rebuild 4 = .ok (.aload_n 0, 1) := by decide +kernel
theorem dX0_rebuild_5 : decode cX0_rebuild 5 = .ok (.invokevirtual 138, 3) := by decide +kernel
theorem dX0_rebuild_8 : decode cX0_rebuild 8 = .ok (.aload_n 0, 1) := by decide +kernel
theorem dX0_rebuild_9 : decode cX0_rebuild 9 = .ok (.aload_n 0, 1) := by decide +kernel
theorem dX0_rebuild_10 : decode cX0_rebuild 10 = .ok (.invokevirtual 141, 3) := by decide +kernel
theorem dX0_rebuild_13 : decode cX0_rebuild 13 = .ok (.invokevirtual 145, 3) := by decide +kernel
theorem dX0_rebuild_16 : decode cX0_rebuild 16 = .ok (.aload_n 0, 1) := by decide +kernel
theorem dX0_rebuild_17 : decode cX0_rebuild 17 = .ok (.invokevirtual 149, 3) := by decide +kernel
theorem dX0_rebuild_20 : decode cX0_rebuild 20 = .ok (.return_, 1) := by decide +kernel
set_option maxRecDepth 20000 in
theorem ggX0_findTriangles_X0_isDueTriangle : GoodIn wsX0_findTriangles wsX0_isDueTriangle := goodIn_r _ [7, 2, 8, 9, 10, 6, 11, 12, 13, 14, 15, 16, 17, 18, 19, 20, 21, 22, 23, 24, 25, 26, 27, 28, 29, 30, 36, 37, 38, 39, 40, 41, 42, 43, 44, 45, 46, 47] (by decide +kernel) (by decide +kernel)
set_option maxRecDepth 20000 in
theorem gX0_findTriangles_X0_isDueTriangle : GoodIn wsX0_findTriangles (wsV RX0 152 RX0 yX0_isDueTriangle wsX0_isDueTriangle) := goodIn_app (goodIn_of _ (by decide +kernel)) ggX0_findTriangles_X0_isDueTriangle
set_option maxRecDepth 20000 in
theorem ggX0_findTriangles_X0_keepTriangle : GoodIn wsX0_findTriangles wsX0_keepTriangle := goodIn_r _ [34, 1, 35, 36, 37, 38, 39, 40, 41, 42, 43, 44, 45, 46, 47] (by decide +kernel) (by decide +kernel)
set_option maxRecDepth 20000 in
theorem gX0_findTriangles_X0_keepTriangle : GoodIn wsX0_findTriangles (wsV RX0 156 RX0 yX0_keepTriangle wsX0_keepTriangle) := goodIn_app (goodIn_of _ (by decide +kernel)) ggX0_findTriangles_X0_keepTriangle
theorem dX0_findTriangles_0 : decode cX0_findTriangles 0 = .ok (.aload_n 0, 1) := by decide +kernel
theorem dX0_findTriangles_1 : decode cX0_findTriangles 1 = .ok (.iconst 0, 1) := by decide +kernel
theorem dX0_findTriangles_2 : decode cX0_findTriangles 2 = .ok (.putfield 23, 3) := by decide +kernel
theorem dX0_findTriangles_5 : decode cX0_findTriangles 5 = .ok (.iconst 0, 1) := by decide +kernel
theorem dX0_findTriangles_6 : decode cX0_findTriangles 6 = .ok (.istore_n 1, 1) := by decide +kernel
theorem dX0_findTriangles_7 : decode cX0_findTriangles 7 = .ok (.iload_n 1, 1) := by decide +kernel
theorem dX0_findTriangles_8 : decode cX0_findTriangles 8 = .ok (.aload_n 0, 1) := by decide +kernel
theorem dX0_findTriangles_9 : decode cX0_findTriangles 9 = .ok (.getfield 16, 3) := by decide +kernel
theorem dX0_findTriangles_12 : decode cX0_findTriangles 12 = .ok (.if_icmp .ge 62, 3) := by decide +kernel
theorem dX0_findTriangles_15 : decode cX0_findTriangles 15 = .ok (.iload_n 1, 1) := by decide +kernel
theorem dX0_findTriangles_16 : decode cX0_findTriangles 16 = .ok (.iconst 1, 1) := by decide +kernel
theorem dX0_findTriangles_17 : decode cX0_findTriangles 17 = .ok (.iadd, 1) := by decide +kernel
theorem dX0_findTriangles_18 : decode cX0_findTriangles 18 = .ok (.istore_n 2, 1) := by decide +kernel
theorem dX0_findTriangles_19 : decode cX0_findTriangles 19 = .ok (.iload_n 2, 1) := by decide +kernel
theorem dX0_findTriangles_20 : decode cX0_findTriangles 20 = .ok (.aload_n 0, 1) := by decide +kernel
theorem dX0_findTriangles_21 : decode cX0_findTriangles 21 = .ok (.getfield 16, 3) := by decide +kernel
theorem dX0_findTriangles_24 : decode cX0_findTriangles 24 = .ok (.if_icmp .ge 44, 3) := by decide +kernel
theorem dX0_findTriangles_27 : decode cX0_findTriangles 27 = .ok (.iload_n 2, 1) := by decide +kernel
theorem dX0_findTriangles_28 : decode cX0_findTriangles 28 = .ok (.iconst 1, 1) := by decide +kernel
theorem dX0_findTriangles_29 : decode cX0_findTriangles 29 = .ok (.iadd, 1) := by decide +kernel
theorem dX0_findTriangles_30 : decode cX0_findTriangles 30 = .ok (.istore_n 3, 1) := by decide +kernel
theorem dX0_findTriangles_31 : decode cX0_findTriangles 31 = .ok (.iload_n 3, 1) := by decide +kernel
theorem dX0_findTriangles_32 : decode cX0_findTriangles 32 = .ok (.aload_n 0, 1) := by decide +kernel
theorem dX0_findTriangles_33 : decode cX0_findTriangles 33 = .ok (.getfield 16, 3) := by decide +kernel
theorem dX0_findTriangles_36 : decode cX0_findTriangles 36 = .ok (.if_icmp .ge 26, 3) := by decide +kernel
theorem dX0_findTriangles_39 : decode cX0_findTriangles 39 = .ok (.aload_n 0, 1) := by decide +kernel
theorem dX0_findTriangles_40 : decode cX0_findTriangles 40 = .ok (.iload_n 1, 1) := by decide +kernel
theorem dX0_findTriangles_41 : decode cX0_findTriangles 41 = .ok (.iload_n 2, 1) := by decide +kernel
theorem dX0_findTriangles_42 : decode cX0_findTriangles 42 = .ok (.iload_n 3, 1) := by decide +kernel
theorem dX0_findTriangles_43 : decode cX0_findTriangles 43 = .ok (.invokevirtual 152, 3) := by decide +kernel
theorem dX0_findTriangles_46 : decode cX0_findTriangles 46 = .ok (.ifCond .eq 10, 3) := by decide +kernel
theorem dX0_findTriangles_49 : decode cX0_findTriangles 49 = .ok (.aload_n 0, 1) := by decide +kernel
theorem dX0_findTriangles_50 : decode cX0_findTriangles 50 = .ok (.iload_n 1, 1) := by decide +kernel
theorem dX0_findTriangles_51 : decode cX0_findTriangles 51 = .ok (.iload_n 2, 1) := by decide +kernel
theorem dX0_findTriangles_52 : decode cX0_findTriangles 52 = .ok (.iload_n 3, 1) := by decide +kernel
theorem dX0_findTriangles_53 : decode cX0_findTriangles 53 = .ok (.invokevirtual 156, 3) := by decide +kernel
theorem dX0_findTriangles_56 : decode cX0_findTriangles 56 = .ok (.iinc 3 1, 3) := by decide +kernel
theorem dX0_findTriangles_59 : decode cX0_findTriangles 59 = .ok (.goto (-28), 3) := by decide +kernel
theorem dX0_findTriangles_62 : decode cX0_findTriangles 62 = .ok (.iinc 2 1, 3) := by decide +kernel
theorem dX0_findTriangles_65 : decode cX0_findTriangles 65 = .ok (.goto (-46), 3) := by decide +kernel
theorem dX0_findTriangles_68 : decode cX0_findTriangles 68 = .ok (.iinc 1 1, 3) := by decide +kernel
theorem dX0_findTriangles_71 : decode cX0_findTriangles 71 = .ok (.goto (-64), 3) := by decide +kernel
theorem dX0_findTriangles_74 : decode cX0_findTriangles 74 = .ok (.return_, 1) := by decide +kernel
theorem dX0_keepTriangle_0 : decode cX0_keepTriangle 0 = .ok (.aload_n 0, 1) := by decide +kernel
theorem dX0_keepTriangle_1 : decode cX0_keepTriangle 1 = .ok (.getfield 23, 3) := by decide +kernel
theorem dX0_keepTriangle_4 : decode cX0_keepTriangle 4 = .ok (.bipush 23, 2) := by decide +kernel
theorem dX0_keepTriangle_6 : decode cX0_keepTriangle 6 = .ok (.if_icmp .ge 32, 3) := by decide +kernel
theorem dX0_keepTriangle_9 : decode cX0_keepTriangle 9 = .ok (.aload_n 0, 1) := by decide +kernel
theorem dX0_keepTriangle_10 : decode cX0_keepTriangle 10 = .ok (.getfield 20, 3) := by decide +kernel
theorem dX0_keepTriangle_13 : decode cX0_keepTriangle 13 = .ok (.aload_n 0, 1) := by decide +kernel
theorem dX0_keepTriangle_14 : decode cX0_keepTriangle 14 = .ok (.getfield 23, 3) := by decide +kernel
theorem dX0_keepTriangle_17 : decode cX0_keepTriangle 17 = .ok (.iload_n 1, 1) := by decide +kernel
theorem dX0_keepTriangle_18 : decode cX0_keepTriangle 18 = .ok (.iload_n 2, 1) := by decide +kernel
theorem dX0_keepTriangle_19 : decode cX0_keepTriangle 19 = .ok (.iconst 4, 1) := by decide +kernel
theorem dX0_keepTriangle_20 : decode cX0_keepTriangle 20 = .ok (.ishl, 1) := by decide +kernel
theorem dX0_keepTriangle_21 : decode cX0_keepTriangle 21 = .ok (.ior, 1) := by decide +kernel
theorem dX0_keepTriangle_22 : decode cX0_keepTriangle 22 = .ok (.iload_n 3, 1) := by decide +kernel
theorem dX0_keepTriangle_23 : decode cX0_keepTriangle 23 = .ok (.bipush 8, 2) := by decide +kernel
theorem dX0_keepTriangle_25 : decode cX0_keepTriangle 25 = .ok (.ishl, 1) := by decide +kernel
theorem dX0_keepTriangle_26 : decode cX0_keepTriangle 26 = .ok (.ior, 1) := by decide +kernel
theorem dX0_keepTriangle_27 : decode cX0_keepTriangle 27 = .ok (.iastore, 1) := by decide +kernel
theorem dX0_keepTriangle_28 : decode cX0_keepTriangle 28 = .ok (.aload_n 0, 1) := by decide +kernel
theorem dX0_keepTriangle_29 : decode cX0_keepTriangle 29 = .ok (.dup, 1) := by decide +kernel
theorem dX0_keepTriangle_30 : decode cX0_keepTriangle 30 = .ok (.getfield 23, 3) := by decide +kernel
theorem dX0_keepTriangle_33 : decode cX0_keepTriangle 33 = .ok (.iconst 1, 1) := by decide +kernel
theorem dX0_keepTriangle_34 : decode cX0_keepTriangle 34 = .ok (.iadd, 1) := by decide +kernel
theorem dX0_keepTriangle_35 : decode cX0_keepTriangle 35 = .ok (.putfield 23, 3) := by decide +kernel
theorem dX0_keepTriangle_38 : decode cX0_keepTriangle 38 = .ok (.return_, 1) := by decide +kernel
set_option maxRecDepth 20000 in
theorem ggX0_isDueTriangle_X0_turn : GoodIn wsX0_isDueTriangle wsX0_turn := goodIn_r _ [6, 7, 8, 9, 5, 10, 1, 11, 12, 13, 14, 15, 16, 26, 27, 28, 29, 30, 31, 32, 33, 34, 35, 36, 37] (by decide +kernel) (by decide +kernel)
set_option maxRecDepth 20000 in
theorem gX0_isDueTriangle_X0_turn : GoodIn wsX0_isDueTriangle (wsV RX0 71 RX0 yX0_turn wsX0_turn) := goodIn_app (goodIn_of _ (by decide +kernel)) ggX0_isDueTriangle_X0_turn
set_option maxRecDepth 20000 in
theorem ggX0_isDueTriangle_X0_circleSide : GoodIn wsX0_isDueTriangle wsX0_circleSide := goodIn_r _ [20, 21, 22, 23, 24, 5, 25, 7, 8, 9, 10, 1, 11, 12, 13, 14, 15, 16, 2, 3, 4, 6, 26, 27, 28, 29, 30, 31, 32, 33, 34, 35, 36, 37] (by decide +kernel) (by decide +kernel)
set_option maxRecDepth 20000 in
theorem gX0_isDueTriangle_X0_circleSide : GoodIn wsX0_isDueTriangle (wsV RX0 160 RX0 yX0_circleSide wsX0_circleSide) := goodIn_app (goodIn_of _ (by decide +kernel)) ggX0_isDueTriangle_X0_circleSide
theorem dX0_isDueTriangle_0 : decode cX0_isDueTriangle 0 = .ok (.aload_n 0, 1) := by decide +kernel
theorem dX0_isDueTriangle_1 : decode cX0_isDueTriangle 1 = .ok (.iload_n 1, 1) := by decide +kernel
theorem dX0_isDueTriangle_2 : decode cX0_isDueTriangle 2 = .ok (.iload_n 2, 1) := by decide +kernel
theorem dX0_isDueTriangle_3 : decode cX0_isDueTriangle 3 = .ok (.iload_n 3, 1) := by decide +kernel
theorem dX0_isDueTriangle_4 : decode cX0_isDueTriangle 4 = .ok (.invokevirtual 71, 3) := by decide +kernel
theorem dX0_isDueTriangle_7 : decode cX0_isDueTriangle 7 = .ok (.lstore 4, 2) := by decide +kernel
theorem dX0_isDueTriangle_9 : decode cX0_isDueTriangle 9 = .ok (.lload 4, 2) := by decide +kernel
theorem dX0_isDueTriangle_11 : decode cX0_isDueTriangle 11 = .ok (.lconst 0, 1) := by decide +kernel
theorem dX0_isDueTriangle_12 : decode cX0_isDueTriangle 12 = .ok (.lcmp, 1) := by decide +kernel
theorem dX0_isDueTriangle_13 : decode cX0_isDueTriangle 13 = .ok (.ifCond .ne 5, 3) := by decide +kernel
theorem dX0_isDueTriangle_16 : decode cX0_isDueTriangle 16 = .ok (.iconst 0, 1) := by decide +kernel
theorem dX0_isDueTriangle_17 : decode cX0_isDueTriangle 17 = .ok (.ireturn, 1) := by decide +kernel
theorem dX0_isDueTriangle_18 : decode cX0_isDueTriangle 18 = .ok (.iconst 0, 1) := by decide +kernel
theorem dX0_isDueTriangle_19 : decode cX0_isDueTriangle 19 = .ok (.istore 6, 2) := by decide +kernel
theorem dX0_isDueTriangle_21 : decode cX0_isDueTriangle 21 = .ok (.iload 6, 2) := by decide +kernel
theorem dX0_isDueTriangle_23 : decode cX0_isDueTriangle 23 = .ok (.aload_n 0, 1) := by decide +kernel
theorem dX0_isDueTriangle_24 : decode cX0_isDueTriangle 24 = .ok (.getfield 16, 3) := by decide +kernel
theorem dX0_isDueTriangle_27 : decode cX0_isDueTriangle 27 = .ok (.if_icmp .ge 129, 3) := by decide +kernel
theorem dX0_isDueTriangle_30 : decode cX0_isDueTriangle 30 = .ok (.iload 6, 2) := by decide +kernel
theorem dX0_isDueTriangle_32 : decode cX0_isDueTriangle 32 = .ok (.iload_n 1, 1) := by decide +kernel
theorem dX0_isDueTriangle_33 : decode cX0_isDueTriangle 33 = .ok (.if_icmp .eq 117, 3) := by decide +kernel
theorem dX0_isDueTriangle_36 : decode cX0_isDueTriangle 36 = .ok (.iload 6, 2) := by decide +kernel
theorem dX0_isDueTriangle_38 : decode cX0_isDueTriangle 38 = .ok (.iload_n 2, 1) := by decide +kernel
theorem dX0_isDueTriangle_39 : decode cX0_isDueTriangle 39 = .ok (.if_icmp .eq 111, 3) := by decide +kernel
theorem dX0_isDueTriangle_42 : decode cX0_isDueTriangle 42 = .ok (.iload 6, 2) := by decide +kernel
theorem dX0_isDueTriangle_44 : decode cX0_isDueTriangle 44 = .ok (.iload_n 3, 1) := by decide +kernel
theorem dX0_isDueTriangle_45 : decode cX0_isDueTriangle 45 = .ok (.if_icmp .ne 6, 3) := by decide +kernel
theorem dX0_isDueTriangle_48 : decode cX0_isDueTriangle 48 = .ok (.goto 102, 3) := by decide +kernel
theorem dX0_isDueTriangle_51 : decode cX0_isDueTriangle 51 = .ok (.aload_n 0, 1) := by decide +kernel
theorem dX0_isDueTriangle_52 : decode cX0_isDueTriangle 52 = .ok (.iload_n 1, 1) := by decide +kernel
theorem dX0_isDueTriangle_53 : decode cX0_isDueTriangle 53 = .ok (.iload_n 2, 1) := by decide +kernel
theorem dX0_isDueTriangle_54 : decode cX0_isDueTriangle 54 = .ok (.iload_n 3, 1) := by decide +kernel
theorem dX0_isDueTriangle_55 : decode cX0_isDueTriangle 55 = .ok (.iload 6, 2) := by decide +kernel
theorem dX0_isDueTriangle_57 : decode cX0_isDueTriangle 57 = .ok (.invokevirtual 160, 3) := by decide +kernel
theorem dX0_isDueTriangle_60 : decode cX0_isDueTriangle 60 = .ok (.istore 7, 2) := by decide +kernel
theorem dX0_isDueTriangle_62 : decode cX0_isDueTriangle 62 = .ok (.iload 7, 2) := by decide +kernel
theorem dX0_isDueTriangle_64 : decode cX0_isDueTriangle 64 = .ok (.ifCond .ne 59, 3) := by decide +kernel
theorem dX0_isDueTriangle_67 : decode cX0_isDueTriangle 67 = .ok (.aload_n 0, 1) := by decide +kernel
theorem dX0_isDueTriangle_68 : decode cX0_isDueTriangle 68 = .ok (.iload_n 2, 1) := by decide +kernel
theorem dX0_isDueTriangle_69 : decode cX0_isDueTriangle 69 = .ok (.iload_n 3, 1) := by decide +kernel
theorem dX0_isDueTriangle_70 : decode cX0_isDueTriangle 70 = .ok (.iload 6, 2) := by decide +kernel
theorem dX0_isDueTriangle_72 : decode cX0_isDueTriangle 72 = .ok (.invokevirtual 71, 3) := by decide +kernel
theorem dX0_isDueTriangle_75 : decode cX0_isDueTriangle 75 = .ok (.lconst 0, 1) := by decide +kernel
theorem dX0_isDueTriangle_76 : decode cX0_isDueTriangle 76 = .ok (.lcmp, 1) := by decide +kernel
theorem dX0_isDueTriangle_77 : decode cX0_isDueTriangle 77 = .ok (.ifCond .le 7, 3) := by decide +kernel
theorem dX0_isDueTriangle_80 : decode cX0_isDueTriangle 80 = .ok (.iconst 1, 1) := by decide +kernel
theorem dX0_isDueTriangle_81 : decode cX0_isDueTriangle 81 = .ok (.goto 4, 3) := by decide +kernel
theorem dX0_isDueTriangle_84 : decode cX0_isDueTriangle 84 = .ok (.iconst 0, 1) := by decide +kernel
theorem dX0_isDueTriangle_85 : decode cX0_isDueTriangle 85 = .ok (.lload 4, 2) := by decide +kernel
theorem dX0_isDueTriangle_87 : decode cX0_isDueTriangle 87 = .ok (.lconst 0, 1) := by decide +kernel
theorem dX0_isDueTriangle_88 : decode cX0_isDueTriangle 88 = .ok (.lcmp, 1) := by decide +kernel
theorem dX0_isDueTriangle_89 : decode cX0_isDueTriangle 89 = .ok (.ifCond .le 7, 3) := by decide +kernel
theorem dX0_isDueTriangle_92 : decode cX0_isDueTriangle 92 = .ok (.iconst 1, 1) := by decide +kernel
theorem dX0_isDueTriangle_93 : decode cX0_isDueTriangle 93 = .ok (.goto 4, 3) := by decide +kernel
theorem dX0_isDueTriangle_96 : decode cX0_isDueTriangle 96 = .ok (.iconst 0, 1) := by decide +kernel
theorem dX0_isDueTriangle_97 : decode cX0_isDueTriangle 97 = .ok (.if_icmp .eq 7, 3) := by decide +kernel
theorem dX0_isDueTriangle_100 : decode cX0_isDueTriangle 100 = .ok (.iconst 1, 1) := by decide +kernel
theorem dX0_isDueTriangle_101 : decode cX0_isDueTriangle 101 = .ok (.goto 4, 3) := by decide +kernel
theorem dX0_isDueTriangle_104 : decode cX0_isDueTriangle 104 = .ok (.iconst 0, 1) := by decide +kernel
theorem dX0_isDueTriangle_105 : decode cX0_isDueTriangle 105 = .ok (.istore 8, 2) := by decide +kernel
theorem dX0_isDueTriangle_107 : decode cX0_isDueTriangle 107 = .ok (.iload 6, 2) := by decide +kernel
theorem dX0_isDueTriangle_109 : decode cX0_isDueTriangle 109 = .ok (.iload_n 1, 1) := by decide +kernel
theorem dX0_isDueTriangle_110 : decode cX0_isDueTriangle 110 = .ok (.if_icmp .lt 8, 3) := by decide +kernel
theorem dX0_isDueTriangle_113 : decode cX0_isDueTriangle 113 = .ok (.iload 8, 2) := by decide +kernel
theorem dX0_isDueTriangle_115 : decode cX0_isDueTriangle 115 = .ok (.ifCond .eq 5, 3) := by decide +kernel
theorem dX0_isDueTriangle_118 : decode cX0_isDueTriangle 118 = .ok (.iconst 0, 1) := by decide +kernel
theorem dX0_isDueTriangle_119 : decode cX0_isDueTriangle 119 = .ok (.ireturn, 1) := by decide +kernel
theorem dX0_isDueTriangle_120 : decode cX0_isDueTriangle 120 = .ok (.goto 30, 3) := by decide +kernel
theorem dX0_isDueTriangle_123 : decode cX0_isDueTriangle 123 = .ok (.iload 7, 2) := by decide +kernel
theorem dX0_isDueTriangle_125 : decode cX0_isDueTriangle 125 = .ok (.ifCond .le 7, 3) := by decide +kernel
theorem dX0_isDueTriangle_128 : decode cX0_isDueTriangle 128 = .ok (.iconst 1, 1) := by decide +kernel
theorem dX0_isDueTriangle_129 : decode cX0_isDueTriangle 129 = .ok (.goto 4, 3) := by decide +kernel
theorem dX0_isDueTriangle_132 : decode cX0_isDueTriangle 132 = .ok (.iconst 0, 1) := by decide +kernel
theorem dX0_isDueTriangle_133 : decode cX0_isDueTriangle 133 = .ok (.lload 4, 2) := by decide +kernel
theorem dX0_isDueTriangle_135 : decode cX0_isDueTriangle 135 = .ok (.lconst 0, 1) := by decide +kernel
theorem dX0_isDueTriangle_136 : decode cX0_isDueTriangle 136 = .ok (.lcmp, 1) := by decide +kernel
theorem dX0_isDueTriangle_137 : decode cX0_isDueTriangle 137 = .ok (.ifCond .le 7, 3) := by decide +kernel
theorem dX0_isDueTriangle_140 : decode cX0_isDueTriangle 140 = .ok (.iconst 1, 1) := by decide +kernel
theorem dX0_isDueTriangle_141 : decode cX0_isDueTriangle 141 = .ok (.goto 4, 3) := by decide +kernel
theorem dX0_isDueTriangle_144 : decode cX0_isDueTriangle 144 = .ok (.iconst 0, 1) := by decide +kernel
theorem dX0_isDueTriangle_145 : decode cX0_isDueTriangle 145 = .ok (.if_icmp .ne 5, 3) := by decide +kernel
theorem dX0_isDueTriangle_148 : decode cX0_isDueTriangle 148 = .ok (.iconst 0, 1) := by decide +kernel
theorem dX0_isDueTriangle_149 : decode cX0_isDueTriangle 149 = .ok (.ireturn, 1) := by decide +kernel
theorem dX0_isDueTriangle_150 : decode cX0_isDueTriangle 150 = .ok (.iinc 6 1, 3) := by decide +kernel
theorem dX0_isDueTriangle_153 : decode cX0_isDueTriangle 153 = .ok (.goto (-132), 3) := by decide +kernel
theorem dX0_isDueTriangle_156 : decode cX0_isDueTriangle 156 = .ok (.iconst 1, 1) := by decide +kernel
theorem dX0_isDueTriangle_157 : decode cX0_isDueTriangle 157 = .ok (.ireturn, 1) := by decide +kernel
set_option maxRecDepth 20000 in
theorem ggX0_circleSide_X0_gap : GoodIn wsX0_circleSide wsX0_gap := goodIn_r _ [6, 7, 8, 9, 5, 10, 11, 12, 13, 14, 15, 16, 17, 22, 23, 24, 25, 26, 27, 28, 29, 30, 31, 32, 33] (by decide +kernel) (by decide +kernel)
set_option maxRecDepth 20000 in
theorem gX0_circleSide_X0_gap : GoodIn wsX0_circleSide (wsV RX0 75 RX0 yX0_gap wsX0_gap) := goodIn_app (goodIn_of _ (by decide +kernel)) ggX0_circleSide_X0_gap
set_option maxRecDepth 20000 in
theorem ggX0_circleSide_X0_turn : GoodIn wsX0_circleSide wsX0_turn := goodIn_r _ [21, 7, 8, 9, 5, 10, 11, 12, 13, 14, 15, 16, 17, 22, 23, 24, 25, 26, 27, 28, 29, 30, 31, 32, 33] (by decide +kernel) (by decide +kernel)
set_option maxRecDepth 20000 in
theorem gX0_circleSide_X0_turn : GoodIn wsX0_circleSide (wsV RX0 71 RX0 yX0_turn wsX0_turn) := goodIn_app (goodIn_of _ (by decide +kernel)) ggX0_circleSide_X0_turn
theorem dX0_circleSide_0 : decode cX0_circleSide 0 = .ok (.aload_n 0, 1) := by decide +kernel
theorem dX0_circleSide_1 : decode cX0_circleSide 1 = .ok (.iload 4, 2) := by decide +kernel
theorem dX0_circleSide_3 : decode cX0_circleSide 3 = .ok (.iload_n 1, 1) := by decide +kernel
theorem dX0_circleSide_4 : decode cX0_circleSide 4 = .ok (.invokevirtual 75, 3) := by decide +kernel
theorem dX0_circleSide_7 : decode cX0_circleSide 7 = .ok (.lstore 5, 2) := by decide +kernel
theorem dX0_circleSide_9 : decode cX0_circleSide 9 = .ok (.aload_n 0, 1) := by decide +kernel
theorem dX0_circleSide_10 : decode cX0_circleSide 10 = .ok (.iload 4, 2) := by decide +kernel
theorem dX0_circleSide_12 : decode cX0_circleSide 12 = .ok (.iload_n 2, 1) := by decide +kernel
theorem dX0_circleSide_13 : decode cX0_circleSide 13 = .ok (.invokevirtual 75, 3) := by decide +kernel
theorem dX0_circleSide_16 : decode cX0_circleSide 16 = .ok (.lstore 7, 2) := by decide +kernel
theorem dX0_circleSide_18 : decode cX0_circleSide 18 = .ok (.aload_n 0, 1) := by decide +kernel
theorem dX0_circleSide_19 : decode cX0_circleSide 19 = .ok (.iload 4, 2) := by decide +kernel
theorem dX0_circleSide_21 : decode cX0_circleSide 21 = .ok (.iload_n 3, 1) := by decide +kernel
theorem dX0_circleSide_22 : decode cX0_circleSide 22 = .ok (.invokevirtual 75, 3) := by decide +kernel
theorem dX0_circleSide_25 : decode cX0_circleSide 25 = .ok (.lstore 9, 2) := by decide +kernel
theorem dX0_circleSide_27 : decode cX0_circleSide 27 = .ok (.aload_n 0, 1) := by decide +kernel
theorem dX0_circleSide_28 : decode cX0_circleSide 28 = .ok (.iload 4, 2) := by decide +kernel
theorem dX0_circleSide_30 : decode cX0_circleSide 30 = .ok (.iload_n 2, 1) := by decide +kernel
theorem dX0_circleSide_31 : decode cX0_circleSide 31 = .ok (.iload_n 3, 1) := by decide +kernel
theorem dX0_circleSide_32 : decode cX0_circleSide 32 = .ok (.invokevirtual 71, 3) := by decide +kernel
theorem dX0_circleSide_35 : decode cX0_circleSide 35 = .ok (.lstore 11, 2) := by decide +kernel
theorem dX0_circleSide_37 : decode cX0_circleSide 37 = .ok (.aload_n 0, 1) := by decide +kernel
theorem dX0_circleSide_38 : decode cX0_circleSide 38 = .ok (.iload 4, 2) := by decide +kernel
theorem dX0_circleSide_40 : decode cX0_circleSide 40 = .ok (.iload_n 3, 1) := by decide +kernel
theorem dX0_circleSide_41 : decode cX0_circleSide 41 = .ok (.iload_n 1, 1) := by decide +kernel
theorem dX0_circleSide_42 : decode cX0_circleSide 42 = .ok (.invokevirtual 71, 3) := by decide +kernel
theorem dX0_circleSide_45 : decode cX0_circleSide 45 = .ok (.lstore 13, 2) := by decide +kernel
theorem dX0_circleSide_47 : decode cX0_circleSide 47 = .ok (.aload_n 0, 1) := by decide +kernel
theorem dX0_circleSide_48 : decode cX0_circleSide 48 = .ok (.iload 4, 2) := by decide +kernel
theorem dX0_circleSide_50 : decode cX0_circleSide 50 = .ok (.iload_n 1, 1) := by decide +kernel
theorem dX0_circleSide_51 : decode cX0_circleSide 51 = .ok (.iload_n 2, 1) := by decide +kernel
theorem dX0_circleSide_52 : decode cX0_circleSide 52 = .ok (.invokevirtual 71, 3) := by decide +kernel
theorem dX0_circleSide_55 : decode cX0_circleSide 55 = .ok (.lstore 15, 2) := by decide +kernel
theorem dX0_circleSide_57 : decode cX0_circleSide 57 = .ok (.lload 5, 2) := by decide +kernel
theorem dX0_circleSide_59 : decode cX0_circleSide 59 = .ok (.bipush 20, 2) := by decide +kernel
theorem dX0_circleSide_61 : decode cX0_circleSide 61 = .ok (.lshr, 1) := by decide +kernel
theorem dX0_circleSide_62 : decode cX0_circleSide 62 = .ok (.lload 11, 2) := by decide +kernel
theorem dX0_circleSide_64 : decode cX0_circleSide 64 = .ok (.lmul, 1) := by decide +kernel
theorem dX0_circleSide_65 : decode cX0_circleSide 65 = .ok (.lload 7, 2) := by decide +kernel
theorem dX0_circleSide_67 : decode cX0_circleSide 67 = .ok (.bipush 20, 2) := by decide +kernel
theorem dX0_circleSide_69 : decode cX0_circleSide 69 = .ok (.lshr, 1) := by decide +kernel
theorem dX0_circleSide_70 : decode cX0_circleSide 70 = .ok (.lload 13, 2) := by decide +kernel
theorem dX0_circleSide_72 : decode cX0_circleSide 72 = .ok (.lmul, 1) := by decide +kernel
theorem dX0_circleSide_73 : decode cX0_circleSide 73 = .ok (.ladd, 1) := by decide +kernel
theorem dX0_circleSide_74 : decode cX0_circleSide 74 = .ok (.lload 9, 2) := by decide +kernel
theorem dX0_circleSide_76 : decode cX0_circleSide 76 = .ok (.bipush 20, 2) := by decide +kernel
theorem dX0_circleSide_78 : decode cX0_circleSide 78 = .ok (.lshr, 1) := by decide +kernel
theorem dX0_circleSide_79 : decode cX0_circleSide 79 = .ok (.lload 15, 2) := by decide +kernel
theorem dX0_circleSide_81 : decode cX0_circleSide 81 = .ok (.lmul, 1) := by decide +kernel
theorem dX0_circleSide_82 : decode cX0_circleSide 82 = .ok (.ladd, 1) := by decide +kernel
theorem dX0_circleSide_83 : decode cX0_circleSide 83 = .ok (.lstore 17, 2) := by decide +kernel
theorem dX0_circleSide_85 : decode cX0_circleSide 85 = .ok (.lload 5, 2) := by decide +kernel
theorem dX0_circleSide_87 : decode cX0_circleSide 87 = .ok (.ldc2_w 164, 3) := by decide +kernel
theorem dX0_circleSide_90 : decode cX0_circleSide 90 = .ok (.land, 1) := by decide +kernel
theorem dX0_circleSide_91 : decode cX0_circleSide 91 = .ok (.lload 11, 2) := by decide +kernel
theorem dX0_circleSide_93 : decode cX0_circleSide 93 = .ok (.lmul, 1) := by decide +kernel
theorem dX0_circleSide_94 : decode cX0_circleSide 94 = .ok (.lload 7, 2) := by decide +kernel
theorem dX0_circleSide_96 : decode cX0_circleSide 96 = .ok (.ldc2_w 164, 3) := by decide +kernel
theorem dX0_circleSide_99 : decode cX0_circleSide 99 = .ok (.land, 1) := by decide +kernel
theorem dX0_circleSide_100 : decode cX0_circleSide 100 = .ok (.lload 13, 2) := by decide +kernel
theorem dX0_circleSide_102 : decode cX0_circleSide 102 = .ok (.lmul, 1) := by decide +kernel
theorem dX0_circleSide_103 : decode cX0_circleSide 103 = .ok (.ladd, 1) := by decide +kernel
theorem dX0_circleSide_104 : decode cX0_circleSide 104 = .ok (.lload 9, 2) := by decide +kernel
theorem dX0_circleSide_106 : decode cX0_circleSide 106 = .ok (.ldc2_w 164, 3) := by decide +kernel
theorem dX0_circleSide_109 : decode cX0_circleSide 109 = .ok (.land, 1) := by decide +kernel
theorem dX0_circleSide_110 : decode cX0_circleSide 110 = .ok (.lload 15, 2) := by decide +kernel
theorem dX0_circleSide_112 : decode cX0_circleSide 112 = .ok (.lmul, 1) := by decide +kernel
theorem dX0_circleSide_113 : decode cX0_circleSide 113 = .ok (.ladd, 1) := by decide +kernel
theorem dX0_circleSide_114 : decode cX0_circleSide 114 = .ok (.lstore 19, 2) := by decide +kernel
theorem dX0_circleSide_116 : decode cX0_circleSide 116 = .ok (.lload 17, 2) := by decide +kernel
theorem dX0_circleSide_118 : decode cX0_circleSide 118 = .ok (.lload 19, 2) := by decide +kernel
theorem dX0_circleSide_120 : decode cX0_circleSide 120 = .ok (.bipush 20, 2) := by decide +kernel
theorem dX0_circleSide_122 : decode cX0_circleSide 122 = .ok (.lshr, 1) := by decide +kernel
theorem dX0_circleSide_123 : decode cX0_circleSide 123 = .ok (.ladd, 1) := by decide +kernel
theorem dX0_circleSide_124 : decode cX0_circleSide 124 = .ok (.lstore 17, 2) := by decide +kernel
theorem dX0_circleSide_126 : decode cX0_circleSide 126 = .ok (.lload 17, 2) := by decide +kernel
theorem dX0_circleSide_128 : decode cX0_circleSide 128 = .ok (.lconst 0, 1) := by decide +kernel
theorem dX0_circleSide_129 : decode cX0_circleSide 129 = .ok (.lcmp, 1) := by decide +kernel
theorem dX0_circleSide_130 : decode cX0_circleSide 130 = .ok (.ifCond .eq 16, 3) := by decide +kernel
theorem dX0_circleSide_133 : decode cX0_circleSide 133 = .ok (.lload 17, 2) := by decide +kernel
theorem dX0_circleSide_135 : decode cX0_circleSide 135 = .ok (.lconst 0, 1) := by decide +kernel
theorem dX0_circleSide_136 : decode cX0_circleSide 136 = .ok (.lcmp, 1) := by decide +kernel
theorem dX0_circleSide_137 : decode cX0_circleSide 137 = .ok (.ifCond .le 7, 3) := by decide +kernel
theorem dX0_circleSide_140 : decode cX0_circleSide 140 = .ok (.iconst 1, 1) := by decide +kernel
theorem dX0_circleSide_141 : decode cX0_circleSide 141 = .ok (.goto 4, 3) := by decide +kernel
theorem dX0_circleSide_144 : decode cX0_circleSide 144 = .ok (.iconst (-1), 1) := by decide +kernel
theorem dX0_circleSide_145 : decode cX0_circleSide 145 = .ok (.ireturn, 1) := by decide +kernel
theorem dX0_circleSide_146 : decode cX0_circleSide 146 = .ok (.lload 19, 2) := by decide +kernel
theorem dX0_circleSide_148 : decode cX0_circleSide 148 = .ok (.ldc2_w 164, 3) := by decide +kernel
theorem dX0_circleSide_151 : decode cX0_circleSide 151 = .ok (.land, 1) := by decide +kernel
theorem dX0_circleSide_152 : decode cX0_circleSide 152 = .ok (.lconst 0, 1) := by decide +kernel
theorem dX0_circleSide_153 : decode cX0_circleSide 153 = .ok (.lcmp, 1) := by decide +kernel
theorem dX0_circleSide_154 : decode cX0_circleSide 154 = .ok (.ifCond .eq 7, 3) := by decide +kernel
theorem dX0_circleSide_157 : decode cX0_circleSide 157 = .ok (.iconst 1, 1) := by decide +kernel
theorem dX0_circleSide_158 : decode cX0_circleSide 158 = .ok (.goto 4, 3) := by decide +kernel
theorem dX0_circleSide_161 : decode cX0_circleSide 161 = .ok (.iconst 0, 1) := by decide +kernel
theorem dX0_circleSide_162 : decode cX0_circleSide 162 = .ok (.ireturn, 1) := by decide +kernel
set_option maxRecDepth 20000 in
theorem ggX0_hasEdge_X0_isSite : GoodIn wsX0_hasEdge wsX0_isSite := goodIn_r _ [6, 7, 8, 9, 10, 11, 12, 13, 14, 15, 16, 17, 18, 19] (by decide +kernel) (by decide +kernel)
set_option maxRecDepth 20000 in
theorem gX0_hasEdge_X0_isSite : GoodIn wsX0_hasEdge (wsV RX0 93 RX0 yX0_isSite wsX0_isSite) := goodIn_app (goodIn_of _ (by decide +kernel)) ggX0_hasEdge_X0_isSite
theorem dX0_hasEdge_0 : decode cX0_hasEdge 0 = .ok (.aload_n 0, 1) := by decide +kernel
theorem dX0_hasEdge_1 : decode cX0_hasEdge 1 = .ok (.iload_n 1, 1) := by decide +kernel
theorem dX0_hasEdge_2 : decode cX0_hasEdge 2 = .ok (.invokevirtual 93, 3) := by decide +kernel
theorem dX0_hasEdge_5 : decode cX0_hasEdge 5 = .ok (.ifCond .eq 29, 3) := by decide +kernel
theorem dX0_hasEdge_8 : decode cX0_hasEdge 8 = .ok (.aload_n 0, 1) := by decide +kernel
theorem dX0_hasEdge_9 : decode cX0_hasEdge 9 = .ok (.iload_n 2, 1) := by decide +kernel
theorem dX0_hasEdge_10 : decode cX0_hasEdge 10 = .ok (.invokevirtual 93, 3) := by decide +kernel
theorem dX0_hasEdge_13 : decode cX0_hasEdge 13 = .ok (.ifCond .eq 21, 3) := by decide +kernel
theorem dX0_hasEdge_16 : decode cX0_hasEdge 16 = .ok (.aload_n 0, 1) := by decide +kernel
theorem dX0_hasEdge_17 : decode cX0_hasEdge 17 = .ok (.getfield 26, 3) := by decide +kernel
theorem dX0_hasEdge_20 : decode cX0_hasEdge 20 = .ok (.iload_n 1, 1) := by decide +kernel
theorem dX0_hasEdge_21 : decode cX0_hasEdge 21 = .ok (.iaload, 1) := by decide +kernel
theorem dX0_hasEdge_22 : decode cX0_hasEdge 22 = .ok (.iload_n 2, 1) := by decide +kernel
theorem dX0_hasEdge_23 : decode cX0_hasEdge 23 = .ok (.ishr, 1) := by decide +kernel
theorem dX0_hasEdge_24 : decode cX0_hasEdge 24 = .ok (.iconst 1, 1) := by decide +kernel
theorem dX0_hasEdge_25 : decode cX0_hasEdge 25 = .ok (.iand, 1) := by decide +kernel
theorem dX0_hasEdge_26 : decode cX0_hasEdge 26 = .ok (.iconst 1, 1) := by decide +kernel
theorem dX0_hasEdge_27 : decode cX0_hasEdge 27 = .ok (.if_icmp .ne 7, 3) := by decide +kernel
theorem dX0_hasEdge_30 : decode cX0_hasEdge 30 = .ok (.iconst 1, 1) := by decide +kernel
theorem dX0_hasEdge_31 : decode cX0_hasEdge 31 = .ok (.goto 4, 3) := by decide +kernel
theorem dX0_hasEdge_34 : decode cX0_hasEdge 34 = .ok (.iconst 0, 1) := by decide +kernel
theorem dX0_hasEdge_35 : decode cX0_hasEdge 35 = .ok (.ireturn, 1) := by decide +kernel
set_option maxRecDepth 20000 in
theorem ggX0_findEdges_X0_triangleCorner : GoodIn wsX0_findEdges wsX0_triangleCorner := goodIn_r _ [8, 9, 10, 11, 12, 7, 13, 3, 48, 49, 50, 51, 52, 53, 54, 55, 56, 57, 58, 59] (by decide +kernel) (by decide +kernel)
set_option maxRecDepth 20000 in
theorem gX0_findEdges_X0_triangleCorner : GoodIn wsX0_findEdges (wsV RX0 62 RX0 yX0_triangleCorner wsX0_triangleCorner) := goodIn_app (goodIn_of _ (by decide +kernel)) ggX0_findEdges_X0_triangleCorner
set_option maxRecDepth 20000 in
theorem ggX0_findEdges_X0_join : GoodIn wsX0_findEdges wsX0_join := goodIn_r _ [17, 2, 18, 19, 20, 7, 21, 1, 48, 49, 50, 51, 52, 53, 54, 55, 56, 57, 58, 59] (by decide +kernel) (by decide +kernel)
set_option maxRecDepth 20000 in
theorem gX0_findEdges_X0_join : GoodIn wsX0_findEdges (wsV RX0 166 RX0 yX0_join wsX0_join) := goodIn_app (goodIn_of _ (by decide +kernel)) ggX0_findEdges_X0_join
set_option maxRecDepth 20000 in
theorem ggX0_findEdges_X0_joinAlongLine : GoodIn wsX0_findEdges wsX0_joinAlongLine := goodIn_r _ [25, 1, 26, 27, 28, 7, 29, 30, 31, 32, 33, 34, 35, 36, 37, 38, 39, 40, 41, 42, 43, 44, 45, 46, 47, 14, 15, 16, 17, 2, 18, 19, 20, 21, 48, 49, 50, 51, 52, 53, 54, 55, 56, 57, 58, 59] (by decide +kernel) (by decide +kernel)
set_option maxRecDepth 20000 in
theorem gX0_findEdges_X0_joinAlongLine : GoodIn wsX0_findEdges (wsV RX0 170 RX0 yX0_joinAlongLine wsX0_joinAlongLine) := goodIn_app (goodIn_of _ (by decide +kernel)) ggX0_findEdges_X0_joinAlongLine
theorem dX0_findEdges_0 : decode cX0_findEdges 0 = .ok (.iconst 0, 1) := by decide +kernel
theorem dX0_findEdges_1 : decode cX0_findEdges 1 = .ok (.istore_n 1, 1) := by decide +kernel
theorem dX0_findEdges_2 : decode cX0_findEdges 2 = .ok (.iload_n 1, 1) := by decide +kernel
theorem dX0_findEdges_3 : decode cX0_findEdges 3 = .ok (.aload_n 0, 1) := by decide +kernel
theorem dX0_findEdges_4 : decode cX0_findEdges 4 = .ok (.getfield 16, 3) := by decide +kernel
theorem dX0_findEdges_7 : decode cX0_findEdges 7 = .ok (.if_icmp .ge 16, 3) := by decide +kernel
theorem dX0_findEdges_10 : decode cX0_findEdges 10 = .ok (.aload_n 0, 1) := by decide +kernel
theorem dX0_findEdges_11 : decode cX0_findEdges 11 = .ok (.getfield 26, 3) := by decide +kernel
theorem dX0_findEdges_14 : decode cX0_findEdges 14 = .ok (.iload_n 1, 1) := by decide +kernel
theorem dX0_findEdges_15 : decode cX0_findEdges 15 = .ok (.iconst 0, 1) := by decide +kernel
theorem dX0_findEdges_16 : decode cX0_findEdges 16 = .ok (.iastore, 1) := by decide +kernel
theorem dX0_findEdges_17 : decode cX0_findEdges 17 = .ok (.iinc 1 1, 3) := by decide +kernel
theorem dX0_findEdges_20 : decode cX0_findEdges 20 = .ok (.goto (-18), 3) := by decide +kernel
theorem dX0_findEdges_23 : decode cX0_findEdges 23 = .ok (.iconst 0, 1) := by decide +kernel
theorem dX0_findEdges_24 : decode cX0_findEdges 24 = .ok (.istore_n 1, 1) := by decide +kernel
theorem dX0_findEdges_25 : decode cX0_findEdges 25 = .ok (.iload_n 1, 1) := by decide +kernel
theorem dX0_findEdges_26 : decode cX0_findEdges 26 = .ok (.aload_n 0, 1) := by decide +kernel
theorem dX0_findEdges_27 : decode cX0_findEdges 27 = .ok (.getfield 23, 3) := by decide +kernel
theorem dX0_findEdges_30 : decode cX0_findEdges 30 = .ok (.if_icmp .ge 51, 3) := by decide +kernel
theorem dX0_findEdges_33 : decode cX0_findEdges 33 = .ok (.aload_n 0, 1) := by decide +kernel
theorem dX0_findEdges_34 : decode cX0_findEdges 34 = .ok (.iload_n 1, 1) := by decide +kernel
theorem dX0_findEdges_35 : decode cX0_findEdges 35 = .ok (.iconst 0, 1) := by decide +kernel
theorem dX0_findEdges_36 : decode cX0_findEdges 36 = .ok (.invokevirtual 62, 3) := by decide +kernel
theorem dX0_findEdges_39 : decode cX0_findEdges 39 = .ok (.istore_n 2, 1) := by decide +kernel
theorem dX0_findEdges_40 : decode cX0_findEdges 40 = .ok (.aload_n 0, 1) := by decide +kernel
theorem dX0_findEdges_41 : decode cX0_findEdges 41 = .ok (.iload_n 1, 1) := by decide +kernel
theorem dX0_findEdges_42 : decode cX0_findEdges 42 = .ok (.iconst 1, 1) := by decide +kernel
theorem dX0_findEdges_43 : decode cX0_findEdges 43 = .ok (.invokevirtual 62, 3) := by decide +kernel
theorem dX0_findEdges_46 : decode cX0_findEdges 46 = .ok (.istore_n 3, 1) := by decide +kernel
theorem dX0_findEdges_47 : decode cX0_findEdges 47 = .ok (.aload_n 0, 1) := by decide +kernel
theorem dX0_findEdges_48 : decode cX0_findEdges 48 = .ok (.iload_n 1, 1) := by decide +kernel
theorem dX0_findEdges_49 : decode cX0_findEdges 49 = .ok (.iconst 2, 1) := by decide +kernel
theorem dX0_findEdges_50 : decode cX0_findEdges 50 = .ok (.invokevirtual 62, 3) := by decide +kernel
theorem dX0_findEdges_53 : decode cX0_findEdges 53 = .ok (.istore 4, 2) := by decide +kernel
theorem dX0_findEdges_55 : decode cX0_findEdges 55 = .ok (.aload_n 0, 1) := by decide +kernel
theorem dX0_findEdges_56 : decode cX0_findEdges 56 = .ok (.iload_n 2, 1) := by decide +kernel
theorem dX0_findEdges_57 : decode cX0_findEdges 57 = .ok (.iload_n 3, 1) := by decide +kernel
theorem dX0_findEdges_58 : decode cX0_findEdges 58 = .ok (.invokevirtual 166, 3) := by decide +kernel
theorem dX0_findEdges_61 : decode cX0_findEdges 61 = .ok (.aload_n 0, 1) := by decide +kernel
theorem dX0_findEdges_62 : decode cX0_findEdges 62 = .ok (.iload_n 3, 1) := by decide +kernel
theorem dX0_findEdges_63 : decode cX0_findEdges 63 = .ok (.iload 4, 2) := by decide +kernel
theorem dX0_findEdges_65 : decode cX0_findEdges 65 = .ok (.invokevirtual 166, 3) := by decide +kernel
theorem dX0_findEdges_68 : decode cX0_findEdges 68 = .ok (.aload_n 0, 1) := by decide +kernel
theorem dX0_findEdges_69 : decode cX0_findEdges 69 = .ok (.iload_n 2, 1) := by decide +kernel
theorem dX0_findEdges_70 : decode cX0_findEdges 70 = .ok (.iload 4, 2) := by decide +kernel
theorem dX0_findEdges_72 : decode cX0_findEdges 72 = .ok (.invokevirtual 166, 3) := by decide +kernel
theorem dX0_findEdges_75 : decode cX0_findEdges 75 = .ok (.iinc 1 1, 3) := by decide +kernel
theorem dX0_findEdges_78 : decode cX0_findEdges 78 = .ok (.goto (-53), 3) := by decide +kernel
theorem dX0_findEdges_81 : decode cX0_findEdges 81 = .ok (.aload_n 0, 1) := by decide +kernel
theorem dX0_findEdges_82 : decode cX0_findEdges 82 = .ok (.getfield 23, 3) := by decide +kernel
theorem dX0_findEdges_85 : decode cX0_findEdges 85 = .ok (.ifCond .ne 7, 3) := by decide +kernel
theorem dX0_findEdges_88 : decode cX0_findEdges 88 = .ok (.aload_n 0, 1) := by decide +kernel
theorem dX0_findEdges_89 : decode cX0_findEdges 89 = .ok (.invokevirtual 170, 3) := by decide +kernel
theorem dX0_findEdges_92 : decode cX0_findEdges 92 = .ok (.return_, 1) := by decide +kernel
set_option maxRecDepth 20000 in
theorem ggX0_join_X0_isSite : GoodIn wsX0_join wsX0_isSite := goodIn_r _ [6, 7, 8, 9, 10, 11, 12, 13, 14, 15, 16, 17, 18, 19] (by decide +kernel) (by decide +kernel)
set_option maxRecDepth 20000 in
theorem gX0_join_X0_isSite : GoodIn wsX0_join (wsV RX0 93 RX0 yX0_isSite wsX0_isSite) := goodIn_app (goodIn_of _ (by decide +kernel)) ggX0_join_X0_isSite
theorem dX0_join_0 : decode cX0_join 0 = .ok (.aload_n 0, 1) := by decide +kernel
theorem dX0_join_1 : decode cX0_join 1 = .ok (.iload_n 1, 1) := by decide +kernel
theorem dX0_join_2 : decode cX0_join 2 = .ok (.invokevirtual 93, 3) := by decide +kernel
theorem dX0_join_5 : decode cX0_join 5 = .ok (.ifCond .eq 35, 3) := by decide +kernel
theorem dX0_join_8 : decode cX0_join 8 = .ok (.aload_n 0, 1) := by decide +kernel
theorem dX0_join_9 : decode cX0_join 9 = .ok (.iload_n 2, 1) := by decide +kernel
theorem dX0_join_10 : decode cX0_join 10 = .ok (.invokevirtual 93, 3) := by decide +kernel
theorem dX0_join_13 : decode cX0_join 13 = .ok (.ifCond .eq 27, 3) := by decide +kernel
theorem dX0_join_16 : decode cX0_join 16 = .ok (.aload_n 0, 1) := by decide +kernel
theorem dX0_join_17 : decode cX0_join 17 = .ok (.getfield 26, 3) := by decide +kernel
theorem dX0_join_20 : decode cX0_join 20 = .ok (.iload_n 1, 1) := by decide +kernel
theorem dX0_join_21 : decode cX0_join 21 = .ok (.dup2, 1) := by decide +kernel
theorem dX0_join_22 : decode cX0_join 22 = .ok (.iaload, 1) := by decide +kernel
theorem dX0_join_23 : decode cX0_join 23 = .ok (.iconst 1, 1) := by decide +kernel
theorem dX0_join_24 : decode cX0_join 24 = .ok (.iload_n 2, 1) := by decide +kernel
theorem dX0_join_25 : decode cX0_join 25 = .ok (.ishl, 1) := by decide +kernel
theorem dX0_join_26 : decode cX0_join 26 = .ok (.ior, 1) := by decide +kernel
theorem dX0_join_27 : decode cX0_join 27 = .ok (.iastore, 1) := by decide +kernel
theorem dX0_join_28 : decode cX0_join 28 = .ok (.aload_n 0, 1) := by decide +kernel
theorem dX0_join_29 : decode cX0_join 29 = .ok (.getfield 26, 3) := by decide +kernel
theorem dX0_join_32 : decode cX0_join 32 = .ok (.iload_n 2, 1) := by decide +kernel
theorem dX0_join_33 : decode cX0_join 33 = .ok (.dup2, 1) := by decide +kernel
theorem dX0_join_34 : decode cX0_join 34 = .ok (.iaload, 1) := by decide +kernel
theorem dX0_join_35 : decode cX0_join 35 = .ok (.iconst 1, 1) := by decide +kernel
theorem dX0_join_36 : decode cX0_join 36 = .ok (.iload_n 1, 1) := by decide +kernel
theorem dX0_join_37 : decode cX0_join 37 = .ok (.ishl, 1) := by decide +kernel
theorem dX0_join_38 : decode cX0_join 38 = .ok (.ior, 1) := by decide +kernel
theorem dX0_join_39 : decode cX0_join 39 = .ok (.iastore, 1) := by decide +kernel
theorem dX0_join_40 : decode cX0_join 40 = .ok (.return_, 1) := by decide +kernel
set_option maxRecDepth 20000 in
theorem ggX0_joinAlongLine_X0_isWayFree : GoodIn wsX0_joinAlongLine wsX0_isWayFree := goodIn_r _ [6, 1, 7, 8, 9, 5, 10, 11, 12, 13, 14, 15, 16, 17, 18, 19, 20, 21, 22, 23, 24, 34, 35, 36, 37, 38, 39, 40, 41, 42, 43, 44, 45] (by decide +kernel) (by decide +kernel)
set_option maxRecDepth 20000 in
theorem gX0_joinAlongLine_X0_isWayFree : GoodIn wsX0_joinAlongLine (wsV RX0 173 RX0 yX0_isWayFree wsX0_isWayFree) := goodIn_app (goodIn_of _ (by decide +kernel)) ggX0_joinAlongLine_X0_isWayFree
set_option maxRecDepth 20000 in
theorem ggX0_joinAlongLine_X0_join : GoodIn wsX0_joinAlongLine wsX0_join := goodIn_r _ [28, 29, 30, 31, 32, 5, 33, 1, 34, 35, 36, 37, 38, 39, 40, 41, 42, 43, 44, 45] (by decide +kernel) (by decide +kernel)
set_option maxRecDepth 20000 in
theorem gX0_joinAlongLine_X0_join : GoodIn wsX0_joinAlongLine (wsV RX0 166 RX0 yX0_join wsX0_join) := goodIn_app (goodIn_of _ (by decide +kernel)) ggX0_joinAlongLine_X0_join
theorem dX0_joinAlongLine_0 : decode cX0_joinAlongLine 0 = .ok (.iconst 0, 1) := by decide +kernel
theorem dX0_joinAlongLine_1 : decode cX0_joinAlongLine 1 = .ok (.istore_n 1, 1) := by decide +kernel
theorem dX0_joinAlongLine_2 : decode cX0_joinAlongLine 2 = .ok (.iload_n 1, 1) := by decide +kernel
theorem dX0_joinAlongLine_3 : decode cX0_joinAlongLine 3 = .ok (.aload_n 0, 1) := by decide +kernel
theorem dX0_joinAlongLine_4 : decode cX0_joinAlongLine 4 = .ok (.getfield 16, 3) := by decide +kernel
theorem dX0_joinAlongLine_7 : decode cX0_joinAlongLine 7 = .ok (.if_icmp .ge 42, 3) := by decide +kernel
theorem dX0_joinAlongLine_10 : decode cX0_joinAlongLine 10 = .ok (.iload_n 1, 1) := by decide +kernel
theorem dX0_joinAlongLine_11 : decode cX0_joinAlongLine 11 = .ok (.iconst 1, 1) := by decide +kernel
theorem dX0_joinAlongLine_12 : decode cX0_joinAlongLine 12 = .ok (.iadd, 1) := by decide +kernel
theorem dX0_joinAlongLine_13 : decode cX0_joinAlongLine 13 = .ok (.istore_n 2, 1) := by decide +kernel
theorem dX0_joinAlongLine_14 : decode cX0_joinAlongLine 14 = .ok (.iload_n 2, 1) := by decide +kernel
theorem dX0_joinAlongLine_15 : decode cX0_joinAlongLine 15 = .ok (.aload_n 0, 1) := by decide +kernel
theorem dX0_joinAlongLine_16 : decode cX0_joinAlongLine 16 = .ok (.getfield 16, 3) := by decide +kernel
theorem dX0_joinAlongLine_19 : decode cX0_joinAlongLine 19 = .ok (.if_icmp .ge 24, 3) := by decide +kernel
theorem dX0_joinAlongLine_22 : decode cX0_joinAlongLine 22 = .ok (.aload_n 0, 1) := by decide +kernel
theorem dX0_joinAlongLine_23 : decode cX0_joinAlongLine 23 = .ok (.iload_n 1, 1) := by decide +kernel
theorem dX0_joinAlongLine_24 : decode cX0_joinAlongLine 24 = .ok (.iload_n 2, 1) := by decide +kernel
theorem dX0_joinAlongLine_25 : decode cX0_joinAlongLine 25 = .ok (.invokevirtual 173, 3) := by decide +kernel
theorem dX0_joinAlongLine_28 : decode cX0_joinAlongLine 28 = .ok (.ifCond .eq 9, 3) := by decide +kernel
theorem dX0_joinAlongLine_31 : decode cX0_joinAlongLine 31 = .ok (.aload_n 0, 1) := by decide +kernel
theorem dX0_joinAlongLine_32 : decode cX0_joinAlongLine 32 = .ok (.iload_n 1, 1) := by decide +kernel
theorem dX0_joinAlongLine_33 : decode cX0_joinAlongLine 33 = .ok (.iload_n 2, 1) := by decide +kernel
theorem dX0_joinAlongLine_34 : decode cX0_joinAlongLine 34 = .ok (.invokevirtual 166, 3) := by decide +kernel
theorem dX0_joinAlongLine_37 : decode cX0_joinAlongLine 37 = .ok (.iinc 2 1, 3) := by decide +kernel
theorem dX0_joinAlongLine_40 : decode cX0_joinAlongLine 40 = .ok (.goto (-26), 3) := by decide +kernel
theorem dX0_joinAlongLine_43 : decode cX0_joinAlongLine 43 = .ok (.iinc 1 1, 3) := by decide +kernel
theorem dX0_joinAlongLine_46 : decode cX0_joinAlongLine 46 = .ok (.goto (-44), 3) := by decide +kernel
theorem dX0_joinAlongLine_49 : decode cX0_joinAlongLine 49 = .ok (.return_, 1) := by decide +kernel
set_option maxRecDepth 20000 in
theorem ggX0_isWayFree_X0_turn : GoodIn wsX0_isWayFree wsX0_turn := goodIn_r _ [6, 7, 8, 9, 5, 10, 1, 11, 12, 13, 14, 15, 16, 21, 22, 23, 24, 25, 26, 27, 28, 29, 30, 31, 32] (by decide +kernel) (by decide +kernel)
set_option maxRecDepth 20000 in
theorem gX0_isWayFree_X0_turn : GoodIn wsX0_isWayFree (wsV RX0 71 RX0 yX0_turn wsX0_turn) := goodIn_app (goodIn_of _ (by decide +kernel)) ggX0_isWayFree_X0_turn
set_option maxRecDepth 20000 in
theorem ggX0_isWayFree_X0_dot : GoodIn wsX0_isWayFree wsX0_dot := goodIn_r _ [20, 7, 8, 9, 5, 10, 1, 11, 12, 13, 14, 15, 16, 21, 22, 23, 24, 25, 26, 27, 28, 29, 30, 31, 32] (by decide +kernel) (by decide +kernel)
set_option maxRecDepth 20000 in
theorem gX0_isWayFree_X0_dot : GoodIn wsX0_isWayFree (wsV RX0 176 RX0 yX0_dot wsX0_dot) := goodIn_app (goodIn_of _ (by decide +kernel)) ggX0_isWayFree_X0_dot
theorem dX0_isWayFree_0 : decode cX0_isWayFree 0 = .ok (.iconst 0, 1) := by decide +kernel
theorem dX0_isWayFree_1 : decode cX0_isWayFree 1 = .ok (.istore_n 3, 1) := by decide +kernel
theorem dX0_isWayFree_2 : decode cX0_isWayFree 2 = .ok (.iload_n 3, 1) := by decide +kernel
theorem dX0_isWayFree_3 : decode cX0_isWayFree 3 = .ok (.aload_n 0, 1) := by decide +kernel
theorem dX0_isWayFree_4 : decode cX0_isWayFree 4 = .ok (.getfield 16, 3) := by decide +kernel
theorem dX0_isWayFree_7 : decode cX0_isWayFree 7 = .ok (.if_icmp .ge 35, 3) := by decide +kernel
theorem dX0_isWayFree_10 : decode cX0_isWayFree 10 = .ok (.aload_n 0, 1) := by decide +kernel
theorem dX0_isWayFree_11 : decode cX0_isWayFree 11 = .ok (.iload_n 1, 1) := by decide +kernel
theorem dX0_isWayFree_12 : decode cX0_isWayFree 12 = .ok (.iload_n 2, 1) := by decide +kernel
theorem dX0_isWayFree_13 : decode cX0_isWayFree 13 = .ok (.iload_n 3, 1) := by decide +kernel
theorem dX0_isWayFree_14 : decode cX0_isWayFree 14 = .ok (.invokevirtual 71, 3) := by decide +kernel
theorem dX0_isWayFree_17 : decode cX0_isWayFree 17 = .ok (.lconst 0, 1) := by decide +kernel
theorem dX0_isWayFree_18 : decode cX0_isWayFree 18 = .ok (.lcmp, 1) := by decide +kernel
theorem dX0_isWayFree_19 : decode cX0_isWayFree 19 = .ok (.ifCond .ne 17, 3) := by decide +kernel
theorem dX0_isWayFree_22 : decode cX0_isWayFree 22 = .ok (.aload_n 0, 1) := by decide +kernel
theorem dX0_isWayFree_23 : decode cX0_isWayFree 23 = .ok (.iload_n 3, 1) := by decide +kernel
theorem dX0_isWayFree_24 : decode cX0_isWayFree 24 = .ok (.iload_n 1, 1) := by decide +kernel
theorem dX0_isWayFree_25 : decode cX0_isWayFree 25 = .ok (.iload_n 2, 1) := by decide +kernel
theorem dX0_isWayFree_26 : decode cX0_isWayFree 26 = .ok (.invokevirtual 176, 3) := by decide +kernel
theorem dX0_isWayFree_29 : decode cX0_isWayFree 29 = .ok (.lconst 0, 1) := by decide +kernel
theorem dX0_isWayFree_30 : decode cX0_isWayFree 30 = .ok (.lcmp, 1) := by decide +kernel
theorem dX0_isWayFree_31 : decode cX0_isWayFree 31 = .ok (.ifCond .ge 5, 3) := by decide +kernel
theorem dX0_isWayFree_34 : decode cX0_isWayFree 34 = .ok (.iconst 0, 1) := by decide +kernel
theorem dX0_isWayFree_35 : decode cX0_isWayFree 35 = .ok (.ireturn, 1) := by decide +kernel
theorem dX0_isWayFree_36 : decode cX0_isWayFree 36 = .ok (.iinc 3 1, 3) := by decide +kernel
theorem dX0_isWayFree_39 : decode cX0_isWayFree 39 = .ok (.goto (-37), 3) := by decide +kernel
theorem dX0_isWayFree_42 : decode cX0_isWayFree 42 = .ok (.iconst 1, 1) := by decide +kernel
theorem dX0_isWayFree_43 : decode cX0_isWayFree 43 = .ok (.ireturn, 1) := by decide +kernel
set_option maxRecDepth 20000 in
theorem ggX0_findRing_X0_nextCorner : GoodIn wsX0_findRing wsX0_nextCorner := goodIn_r _ [7, 8, 9, 10, 11, 6, 12, 13, 14, 15, 16, 17, 18, 19, 20, 21, 22, 23, 24, 25, 26, 27, 28, 29, 30, 31, 32, 33, 34, 35, 36, 37, 38, 39, 40, 41, 42] (by decide +kernel) (by decide +kernel)
set_option maxRecDepth 20000 in
theorem gX0_findRing_X0_nextCorner : GoodIn wsX0_findRing (wsV RX0 179 RX0 yX0_nextCorner wsX0_nextCorner) := goodIn_app (goodIn_of _ (by decide +kernel)) ggX0_findRing_X0_nextCorner
theorem dX0_findRing_0 : decode cX0_findRing 0 = .ok (.aload_n 0, 1) := by decide +kernel
theorem dX0_findRing_1 : decode cX0_findRing 1 = .ok (.iconst 0, 1) := by decide +kernel
theorem dX0_findRing_2 : decode cX0_findRing 2 = .ok (.putfield 32, 3) := by decide +kernel
theorem dX0_findRing_5 : decode cX0_findRing 5 = .ok (.iload_n 1, 1) := by decide +kernel
theorem dX0_findRing_6 : decode cX0_findRing 6 = .ok (.istore_n 2, 1) := by decide +kernel
theorem dX0_findRing_7 : decode cX0_findRing 7 = .ok (.iconst 0, 1) := by decide +kernel
theorem dX0_findRing_8 : decode cX0_findRing 8 = .ok (.istore_n 3, 1) := by decide +kernel
theorem dX0_findRing_9 : decode cX0_findRing 9 = .ok (.iload_n 3, 1) := by decide +kernel
theorem dX0_findRing_10 : decode cX0_findRing 10 = .ok (.bipush 14, 2) := by decide +kernel
theorem dX0_findRing_12 : decode cX0_findRing 12 = .ok (.if_icmp .ge 53, 3) := by decide +kernel
theorem dX0_findRing_15 : decode cX0_findRing 15 = .ok (.iload_n 2, 1) := by decide +kernel
theorem dX0_findRing_16 : decode cX0_findRing 16 = .ok (.ifCond .lt 49, 3) := by decide +kernel
theorem dX0_findRing_19 : decode cX0_findRing 19 = .ok (.aload_n 0, 1) := by decide +kernel
theorem dX0_findRing_20 : decode cX0_findRing 20 = .ok (.getfield 29, 3) := by decide +kernel
theorem dX0_findRing_23 : decode cX0_findRing 23 = .ok (.aload_n 0, 1) := by decide +kernel
theorem dX0_findRing_24 : decode cX0_findRing 24 = .ok (.getfield 32, 3) := by decide +kernel
theorem dX0_findRing_27 : decode cX0_findRing 27 = .ok (.iload_n 2, 1) := by decide +kernel
theorem dX0_findRing_28 : decode cX0_findRing 28 = .ok (.iastore, 1) := by decide +kernel
theorem dX0_findRing_29 : decode cX0_findRing 29 = .ok (.aload_n 0, 1) := by decide +kernel
theorem dX0_findRing_30 : decode cX0_findRing 30 = .ok (.dup, 1) := by decide +kernel
theorem dX0_findRing_31 : decode cX0_findRing 31 = .ok (.getfield 32, 3) := by decide +kernel
theorem dX0_findRing_34 : decode cX0_findRing 34 = .ok (.iconst 1, 1) := by decide +kernel
theorem dX0_findRing_35 : decode cX0_findRing 35 = .ok (.iadd, 1) := by decide +kernel
theorem dX0_findRing_36 : decode cX0_findRing 36 = .ok (.putfield 32, 3) := by decide +kernel
theorem dX0_findRing_39 : decode cX0_findRing 39 = .ok (.aload_n 0, 1) := by decide +kernel
theorem dX0_findRing_40 : decode cX0_findRing 40 = .ok (.iload_n 2, 1) := by decide +kernel
theorem dX0_findRing_41 : decode cX0_findRing 41 = .ok (.invokevirtual 179, 3) := by decide +kernel
theorem dX0_findRing_44 : decode cX0_findRing 44 = .ok (.istore 4, 2) := by decide +kernel
theorem dX0_findRing_46 : decode cX0_findRing 46 = .ok (.iload 4, 2) := by decide +kernel
theorem dX0_findRing_48 : decode cX0_findRing 48 = .ok (.iload_n 1, 1) := by decide +kernel
theorem dX0_findRing_49 : decode cX0_findRing 49 = .ok (.if_icmp .ne 7, 3) := by decide +kernel
theorem dX0_findRing_52 : decode cX0_findRing 52 = .ok (.iconst (-1), 1) := by decide +kernel
theorem dX0_findRing_53 : decode cX0_findRing 53 = .ok (.goto 5, 3) := by decide +kernel
theorem dX0_findRing_56 : decode cX0_findRing 56 = .ok (.iload 4, 2) := by decide +kernel
theorem dX0_findRing_58 : decode cX0_findRing 58 = .ok (.istore_n 2, 1) := by decide +kernel
theorem dX0_findRing_59 : decode cX0_findRing 59 = .ok (.iinc 3 1, 3) := by decide +kernel
theorem dX0_findRing_62 : decode cX0_findRing 62 = .ok (.goto (-53), 3) := by decide +kernel
theorem dX0_findRing_65 : decode cX0_findRing 65 = .ok (.return_, 1) := by decide +kernel
set_option maxRecDepth 20000 in
theorem ggX0_leastCorner_X0_nextCorner : GoodIn wsX0_leastCorner wsX0_nextCorner := goodIn_r _ [6, 1, 7, 8, 9, 5, 10, 11, 12, 13, 14, 15, 16, 17, 18, 19, 20, 21, 22, 23, 24, 25, 26, 27, 28, 29, 30, 31, 32, 33, 34, 35, 36, 37, 38, 39, 40] (by decide +kernel) (by decide +kernel)
set_option maxRecDepth 20000 in
theorem gX0_leastCorner_X0_nextCorner : GoodIn wsX0_leastCorner (wsV RX0 179 RX0 yX0_nextCorner wsX0_nextCorner) := goodIn_app (goodIn_of _ (by decide +kernel)) ggX0_leastCorner_X0_nextCorner
theorem dX0_leastCorner_0 : decode cX0_leastCorner 0 = .ok (.aload_n 0, 1) := by decide +kernel
theorem dX0_leastCorner_1 : decode cX0_leastCorner 1 = .ok (.getfield 16, 3) := by decide +kernel
theorem dX0_leastCorner_4 : decode cX0_leastCorner 4 = .ok (.iconst 1, 1) := by decide +kernel
theorem dX0_leastCorner_5 : decode cX0_leastCorner 5 = .ok (.if_icmp .ne 5, 3) := by decide +kernel
theorem dX0_leastCorner_8 : decode cX0_leastCorner 8 = .ok (.iconst 0, 1) := by decide +kernel
theorem dX0_leastCorner_9 : decode cX0_leastCorner 9 = .ok (.ireturn, 1) := by decide +kernel
theorem dX0_leastCorner_10 : decode cX0_leastCorner 10 = .ok (.iconst 0, 1) := by decide +kernel
theorem dX0_leastCorner_11 : decode cX0_leastCorner 11 = .ok (.istore_n 1, 1) := by decide +kernel
theorem dX0_leastCorner_12 : decode cX0_leastCorner 12 = .ok (.iload_n 1, 1) := by decide +kernel
theorem dX0_leastCorner_13 : decode cX0_leastCorner 13 = .ok (.aload_n 0, 1) := by decide +kernel
theorem dX0_leastCorner_14 : decode cX0_leastCorner 14 = .ok (.getfield 16, 3) := by decide +kernel
theorem dX0_leastCorner_17 : decode cX0_leastCorner 17 = .ok (.if_icmp .ge 19, 3) := by decide +kernel
theorem dX0_leastCorner_20 : decode cX0_leastCorner 20 = .ok (.aload_n 0, 1) := by decide +kernel
theorem dX0_leastCorner_21 : decode cX0_leastCorner 21 = .ok (.iload_n 1, 1) := by decide +kernel
theorem dX0_leastCorner_22 : decode cX0_leastCorner 22 = .ok (.invokevirtual 179, 3) := by decide +kernel
theorem dX0_leastCorner_25 : decode cX0_leastCorner 25 = .ok (.ifCond .lt 5, 3) := by decide +kernel
theorem dX0_leastCorner_28 : decode cX0_leastCorner 28 = .ok (.iload_n 1, 1) := by decide +kernel
theorem dX0_leastCorner_29 : decode cX0_leastCorner 29 = .ok (.ireturn, 1) := by decide +kernel
theorem dX0_leastCorner_30 : decode cX0_leastCorner 30 = .ok (.iinc 1 1, 3) := by decide +kernel
theorem dX0_leastCorner_33 : decode cX0_leastCorner 33 = .ok (.goto (-21), 3) := by decide +kernel
theorem dX0_leastCorner_36 : decode cX0_leastCorner 36 = .ok (.iconst (-1), 1) := by decide +kernel
theorem dX0_leastCorner_37 : decode cX0_leastCorner 37 = .ok (.ireturn, 1) := by decide +kernel
set_option maxRecDepth 20000 in
theorem ggX0_nextCorner_X0_isRingSide : GoodIn wsX0_nextCorner wsX0_isRingSide := goodIn_r _ [6, 1, 7, 8, 9, 5, 10, 11, 12, 13, 14, 15, 16, 17, 18, 19, 20, 21, 22, 23, 24, 25, 26, 27, 28, 29, 30, 31, 32, 33, 34, 35, 36] (by decide +kernel) (by decide +kernel)
set_option maxRecDepth 20000 in
theorem gX0_nextCorner_X0_isRingSide : GoodIn wsX0_nextCorner (wsV RX0 182 RX0 yX0_isRingSide wsX0_isRingSide) := goodIn_app (goodIn_of _ (by decide +kernel)) ggX0_nextCorner_X0_isRingSide
theorem dX0_nextCorner_0 : decode cX0_nextCorner 0 = .ok (.iconst 0, 1) := by decide +kernel
theorem dX0_nextCorner_1 : decode cX0_nextCorner 1 = .ok (.istore_n 2, 1) := by decide +kernel
theorem dX0_nextCorner_2 : decode cX0_nextCorner 2 = .ok (.iload_n 2, 1) := by decide +kernel
theorem dX0_nextCorner_3 : decode cX0_nextCorner 3 = .ok (.aload_n 0, 1) := by decide +kernel
theorem dX0_nextCorner_4 : decode cX0_nextCorner 4 = .ok (.getfield 16, 3) := by decide +kernel
theorem dX0_nextCorner_7 : decode cX0_nextCorner 7 = .ok (.if_icmp .ge 25, 3) := by decide +kernel
theorem dX0_nextCorner_10 : decode cX0_nextCorner 10 = .ok (.iload_n 2, 1) := by decide +kernel
theorem dX0_nextCorner_11 : decode cX0_nextCorner 11 = .ok (.iload_n 1, 1) := by decide +kernel
theorem dX0_nextCorner_12 : decode cX0_nextCorner 12 = .ok (.if_icmp .eq 14, 3) := by decide +kernel
theorem dX0_nextCorner_15 : decode cX0_nextCorner 15 = .ok (.aload_n 0, 1) := by decide +kernel
theorem dX0_nextCorner_16 : decode cX0_nextCorner 16 = .ok (.iload_n 1, 1) := by decide +kernel
theorem dX0_nextCorner_17 : decode cX0_nextCorner 17 = .ok (.iload_n 2, 1) := by decide +kernel
theorem dX0_nextCorner_18 : decode cX0_nextCorner 18 = .ok (.invokevirtual 182, 3) := by decide +kernel
theorem dX0_nextCorner_21 : decode cX0_nextCorner 21 = .ok (.ifCond .eq 5, 3) := by decide +kernel
theorem dX0_nextCorner_24 : decode cX0_nextCorner 24 = .ok (.iload_n 2, 1) := by decide +kernel
theorem dX0_nextCorner_25 : decode cX0_nextCorner 25 = .ok (.ireturn, 1) := by decide +kernel
theorem dX0_nextCorner_26 : decode cX0_nextCorner 26 = .ok (.iinc 2 1, 3) := by decide +kernel
theorem dX0_nextCorner_29 : decode cX0_nextCorner 29 = .ok (.goto (-27), 3) := by decide +kernel
theorem dX0_nextCorner_32 : decode cX0_nextCorner 32 = .ok (.iconst (-1), 1) := by decide +kernel
theorem dX0_nextCorner_33 : decode cX0_nextCorner 33 = .ok (.ireturn, 1) := by decide +kernel
set_option maxRecDepth 20000 in
theorem ggX0_isRingSide_X0_turn : GoodIn wsX0_isRingSide wsX0_turn := goodIn_r _ [6, 7, 8, 9, 5, 10, 1, 11, 12, 13, 14, 15, 16, 21, 22, 23, 24, 25, 26, 27, 28, 29, 30, 31, 32] (by decide +kernel) (by decide +kernel)
set_option maxRecDepth 20000 in
theorem gX0_isRingSide_X0_turn : GoodIn wsX0_isRingSide (wsV RX0 71 RX0 yX0_turn wsX0_turn) := goodIn_app (goodIn_of _ (by decide +kernel)) ggX0_isRingSide_X0_turn
set_option maxRecDepth 20000 in
theorem ggX0_isRingSide_X0_dot : GoodIn wsX0_isRingSide wsX0_dot := goodIn_r _ [20, 7, 8, 9, 5, 10, 1, 11, 12, 13, 14, 15, 16, 21, 22, 23, 24, 25, 26, 27, 28, 29, 30, 31, 32] (by decide +kernel) (by decide +kernel)
set_option maxRecDepth 20000 in
theorem gX0_isRingSide_X0_dot : GoodIn wsX0_isRingSide (wsV RX0 176 RX0 yX0_dot wsX0_dot) := goodIn_app (goodIn_of _ (by decide +kernel)) ggX0_isRingSide_X0_dot
theorem dX0_isRingSide_0 : decode cX0_isRingSide 0 = .ok (.iconst 0, 1) := by decide +kernel
theorem dX0_isRingSide_1 : decode cX0_isRingSide 1 = .ok (.istore_n 3, 1) := by decide +kernel
theorem dX0_isRingSide_2 : decode cX0_isRingSide 2 = .ok (.iload_n 3, 1) := by decide +kernel
theorem dX0_isRingSide_3 : decode cX0_isRingSide 3 = .ok (.aload_n 0, 1) := by decide +kernel
theorem dX0_isRingSide_4 : decode cX0_isRingSide 4 = .ok (.getfield 16, 3) := by decide +kernel
theorem dX0_isRingSide_7 : decode cX0_isRingSide 7 = .ok (.if_icmp .ge 46, 3) := by decide +kernel
theorem dX0_isRingSide_10 : decode cX0_isRingSide 10 = .ok (.aload_n 0, 1) := by decide +kernel
theorem dX0_isRingSide_11 : decode cX0_isRingSide 11 = .ok (.iload_n 1, 1) := by decide +kernel
theorem dX0_isRingSide_12 : decode cX0_isRingSide 12 = .ok (.iload_n 2, 1) := by decide +kernel
theorem dX0_isRingSide_13 : decode cX0_isRingSide 13 = .ok (.iload_n 3, 1) := by decide +kernel
theorem dX0_isRingSide_14 : decode cX0_isRingSide 14 = .ok (.invokevirtual 71, 3) := by decide +kernel
theorem dX0_isRingSide_17 : decode cX0_isRingSide 17 = .ok (.lstore 4, 2) := by decide +kernel
theorem dX0_isRingSide_19 : decode cX0_isRingSide 19 = .ok (.lload 4, 2) := by decide +kernel
theorem dX0_isRingSide_21 : decode cX0_isRingSide 21 = .ok (.lconst 0, 1) := by decide +kernel
theorem dX0_isRingSide_22 : decode cX0_isRingSide 22 = .ok (.lcmp, 1) := by decide +kernel
theorem dX0_isRingSide_23 : decode cX0_isRingSide 23 = .ok (.ifCond .lt 22, 3) := by decide +kernel
theorem dX0_isRingSide_26 : decode cX0_isRingSide 26 = .ok (.lload 4, 2) := by decide +kernel
theorem dX0_isRingSide_28 : decode cX0_isRingSide 28 = .ok (.lconst 0, 1) := by decide +kernel
theorem dX0_isRingSide_29 : decode cX0_isRingSide 29 = .ok (.lcmp, 1) := by decide +kernel
theorem dX0_isRingSide_30 : decode cX0_isRingSide 30 = .ok (.ifCond .ne 17, 3) := by decide +kernel
theorem dX0_isRingSide_33 : decode cX0_isRingSide 33 = .ok (.aload_n 0, 1) := by decide +kernel
theorem dX0_isRingSide_34 : decode cX0_isRingSide 34 = .ok (.iload_n 3, 1) := by decide +kernel
theorem dX0_isRingSide_35 : decode cX0_isRingSide 35 = .ok (.iload_n 1, 1) := by decide +kernel
theorem dX0_isRingSide_36 : decode cX0_isRingSide 36 = .ok (.iload_n 2, 1) := by decide +kernel
theorem dX0_isRingSide_37 : decode cX0_isRingSide 37 = .ok (.invokevirtual 176, 3) := by decide +kernel
theorem dX0_isRingSide_40 : decode cX0_isRingSide 40 = .ok (.lconst 0, 1) := by decide +kernel
theorem dX0_isRingSide_41 : decode cX0_isRingSide 41 = .ok (.lcmp, 1) := by decide +kernel
theorem dX0_isRingSide_42 : decode cX0_isRingSide 42 = .ok (.ifCond .le 5, 3) := by decide +kernel
theorem dX0_isRingSide_45 : decode cX0_isRingSide 45 = .ok (.iconst 0, 1) := by decide +kernel
theorem dX0_isRingSide_46 : decode cX0_isRingSide 46 = .ok (.ireturn, 1) := by decide +kernel
theorem dX0_isRingSide_47 : decode cX0_isRingSide 47 = .ok (.iinc 3 1, 3) := by decide +kernel
theorem dX0_isRingSide_50 : decode cX0_isRingSide 50 = .ok (.goto (-48), 3) := by decide +kernel
theorem dX0_isRingSide_53 : decode cX0_isRingSide 53 = .ok (.iconst 1, 1) := by decide +kernel
theorem dX0_isRingSide_54 : decode cX0_isRingSide 54 = .ok (.ireturn, 1) := by decide +kernel
set_option maxRecDepth 20000 in
theorem ggX0_noneTurnsRight_X0_turn : GoodIn wsX0_noneTurnsRight wsX0_turn := goodIn_r _ [6, 7, 8, 9, 5, 10, 1, 11, 12, 13, 14, 15, 16, 17, 18, 19, 20, 21, 22, 23, 24, 25, 26, 27, 28] (by decide +kernel) (by decide +kernel)
set_option maxRecDepth 20000 in
theorem gX0_noneTurnsRight_X0_turn : GoodIn wsX0_noneTurnsRight (wsV RX0 71 RX0 yX0_turn wsX0_turn) := goodIn_app (goodIn_of _ (by decide +kernel)) ggX0_noneTurnsRight_X0_turn
theorem dX0_noneTurnsRight_0 : decode cX0_noneTurnsRight 0 = .ok (.iconst 0, 1) := by decide +kernel
theorem dX0_noneTurnsRight_1 : decode cX0_noneTurnsRight 1 = .ok (.istore_n 3, 1) := by decide +kernel
theorem dX0_noneTurnsRight_2 : decode cX0_noneTurnsRight 2 = .ok (.iload_n 3, 1) := by decide +kernel
theorem dX0_noneTurnsRight_3 : decode cX0_noneTurnsRight 3 = .ok (.aload_n 0, 1) := by decide +kernel
theorem dX0_noneTurnsRight_4 : decode cX0_noneTurnsRight 4 = .ok (.getfield 16, 3) := by decide +kernel
theorem dX0_noneTurnsRight_7 : decode cX0_noneTurnsRight 7 = .ok (.if_icmp .ge 23, 3) := by decide +kernel
theorem dX0_noneTurnsRight_10 : decode cX0_noneTurnsRight 10 = .ok (.aload_n 0, 1) := by decide +kernel
theorem dX0_noneTurnsRight_11 : decode cX0_noneTurnsRight 11 = .ok (.iload_n 1, 1) := by decide +kernel
theorem dX0_noneTurnsRight_12 : decode cX0_noneTurnsRight 12 = .ok (.iload_n 2, 1) := by decide +kernel
theorem dX0_noneTurnsRight_13 : decode cX0_noneTurnsRight 13 = .ok (.iload_n 3, 1) := by decide +kernel
theorem dX0_noneTurnsRight_14 : decode cX0_noneTurnsRight 14 = .ok (.invokevirtual 71, 3) := by decide +kernel
theorem dX0_noneTurnsRight_17 : decode cX0_noneTurnsRight 17 = .ok (.lconst 0, 1) := by decide +kernel
theorem dX0_noneTurnsRight_18 : decode cX0_noneTurnsRight 18 = .ok (.lcmp, 1) := by decide +kernel
theorem dX0_noneTurnsRight_19 : decode cX0_noneTurnsRight 19 = .ok (.ifCond .ge 5, 3) := by decide +kernel
theorem dX0_noneTurnsRight_22 : decode cX0_noneTurnsRight 22 = .ok (.iconst 0, 1) := by decide +kernel
theorem dX0_noneTurnsRight_23 : decode cX0_noneTurnsRight 23 = .ok (.ireturn, 1) := by decide +kernel
theorem dX0_noneTurnsRight_24 : decode cX0_noneTurnsRight 24 = .ok (.iinc 3 1, 3) := by decide +kernel
theorem dX0_noneTurnsRight_27 : decode cX0_noneTurnsRight 27 = .ok (.goto (-25), 3) := by decide +kernel
theorem dX0_noneTurnsRight_30 : decode cX0_noneTurnsRight 30 = .ok (.iconst 1, 1) := by decide +kernel
theorem dX0_noneTurnsRight_31 : decode cX0_noneTurnsRight 31 = .ok (.ireturn, 1) := by decide +kernel
set_option maxRecDepth 20000 in
theorem ggX0_growTree_X0_takeNextEdge : GoodIn wsX0_growTree wsX0_takeNextEdge := goodIn_r _ [9, 3, 4, 10, 11, 12, 8, 13, 14, 15, 16, 17, 18, 19, 20, 21, 22, 23, 24, 25, 26, 27, 28, 29, 30, 31, 32, 33, 34, 35, 36, 1, 37, 2, 38, 39, 40, 41, 42, 43, 44, 45, 46, 47, 48, 49] (by decide +kernel) (by decide +kernel)
set_option maxRecDepth 20000 in
theorem gX0_growTree_X0_takeNextEdge : GoodIn wsX0_growTree (wsV RX0 185 RX0 yX0_takeNextEdge wsX0_takeNextEdge) := goodIn_app (goodIn_of _ (by decide +kernel)) ggX0_growTree_X0_takeNextEdge
theorem dX0_growTree_0 : decode cX0_growTree 0 = .ok (.aload_n 0, 1) := by decide +kernel
theorem dX0_growTree_1 : decode cX0_growTree 1 = .ok (.iconst 0, 1) := by decide +kernel
theorem dX0_growTree_2 : decode cX0_growTree 2 = .ok (.putfield 38, 3) := by decide +kernel
theorem dX0_growTree_5 : decode cX0_growTree 5 = .ok (.aload_n 0, 1) := by decide +kernel
theorem dX0_growTree_6 : decode cX0_growTree 6 = .ok (.lconst 0, 1) := by decide +kernel
theorem dX0_growTree_7 : decode cX0_growTree 7 = .ok (.putfield 41, 3) := by decide +kernel
theorem dX0_growTree_10 : decode cX0_growTree 10 = .ok (.iconst 0, 1) := by decide +kernel
theorem dX0_growTree_11 : decode cX0_growTree 11 = .ok (.istore_n 1, 1) := by decide +kernel
theorem dX0_growTree_12 : decode cX0_growTree 12 = .ok (.iload_n 1, 1) := by decide +kernel
theorem dX0_growTree_13 : decode cX0_growTree 13 = .ok (.aload_n 0, 1) := by decide +kernel
theorem dX0_growTree_14 : decode cX0_growTree 14 = .ok (.getfield 16, 3) := by decide +kernel
theorem dX0_growTree_17 : decode cX0_growTree 17 = .ok (.if_icmp .ge 16, 3) := by decide +kernel
theorem dX0_growTree_20 : decode cX0_growTree 20 = .ok (.aload_n 0, 1) := by decide +kernel
theorem dX0_growTree_21 : decode cX0_growTree 21 = .ok (.getfield 45, 3) := by decide +kernel
theorem dX0_growTree_24 : decode cX0_growTree 24 = .ok (.iload_n 1, 1) := by decide +kernel
theorem dX0_growTree_25 : decode cX0_growTree 25 = .ok (.iload_n 1, 1) := by decide +kernel
theorem dX0_growTree_26 : decode cX0_growTree 26 = .ok (.iastore, 1) := by decide +kernel
theorem dX0_growTree_27 : decode cX0_growTree 27 = .ok (.iinc 1 1, 3) := by decide +kernel
theorem dX0_growTree_30 : decode cX0_growTree 30 = .ok (.goto (-18), 3) := by decide +kernel
theorem dX0_growTree_33 : decode cX0_growTree 33 = .ok (.iconst 1, 1) := by decide +kernel
theorem dX0_growTree_34 : decode cX0_growTree 34 = .ok (.istore_n 1, 1) := by decide +kernel
theorem dX0_growTree_35 : decode cX0_growTree 35 = .ok (.iload_n 1, 1) := by decide +kernel
theorem dX0_growTree_36 : decode cX0_growTree 36 = .ok (.aload_n 0, 1) := by decide +kernel
theorem dX0_growTree_37 : decode cX0_growTree 37 = .ok (.getfield 16, 3) := by decide +kernel
theorem dX0_growTree_40 : decode cX0_growTree 40 = .ok (.if_icmp .ge 13, 3) := by decide +kernel
theorem dX0_growTree_43 : decode cX0_growTree 43 = .ok (.aload_n 0, 1) := by decide +kernel
theorem dX0_growTree_44 : decode cX0_growTree 44 = .ok (.invokevirtual 185, 3) := by decide +kernel
theorem dX0_growTree_47 : decode cX0_growTree 47 = .ok (.iinc 1 1, 3) := by decide +kernel
theorem dX0_growTree_50 : decode cX0_growTree 50 = .ok (.goto (-15), 3) := by decide +kernel
theorem dX0_growTree_53 : decode cX0_growTree 53 = .ok (.return_, 1) := by decide +kernel
set_option maxRecDepth 20000 in
theorem ggX0_takeNextEdge_X0_hasEdge : GoodIn wsX0_takeNextEdge wsX0_hasEdge := goodIn_r _ [7, 8, 9, 10, 11, 6, 12, 1, 34, 35, 36, 37, 38, 39, 40, 41, 42, 43, 44, 45] (by decide +kernel) (by decide +kernel)
set_option maxRecDepth 20000 in
theorem gX0_takeNextEdge_X0_hasEdge : GoodIn wsX0_takeNextEdge (wsV RX0 90 RX0 yX0_hasEdge wsX0_hasEdge) := goodIn_app (goodIn_of _ (by decide +kernel)) ggX0_takeNextEdge_X0_hasEdge
set_option maxRecDepth 20000 in
theorem ggX0_takeNextEdge_X0_gap : GoodIn wsX0_takeNextEdge wsX0_gap := goodIn_r _ [16, 17, 18, 19, 6, 20, 1, 21, 22, 23, 24, 25, 26, 34, 35, 36, 37, 38, 39, 40, 41, 42, 43, 44, 45] (by decide +kernel) (by decide +kernel)
set_option maxRecDepth 20000 in
theorem gX0_takeNextEdge_X0_gap : GoodIn wsX0_takeNextEdge (wsV RX0 75 RX0 yX0_gap wsX0_gap) := goodIn_app (goodIn_of _ (by decide +kernel)) ggX0_takeNextEdge_X0_gap
set_option maxRecDepth 20000 in
theorem ggX0_takeNextEdge_X0_takeEdge : GoodIn wsX0_takeNextEdge wsX0_takeEdge := goodIn_r _ [30, 31, 32, 33, 2, 1, 9, 10, 11, 6, 12, 13, 14, 15, 16, 17, 18, 19, 20, 21, 22, 23, 24, 25, 26, 34, 35, 36, 37, 38, 39, 40, 41, 42, 43, 44, 45] (by decide +kernel) (by decide +kernel)
set_option maxRecDepth 20000 in
theorem gX0_takeNextEdge_X0_takeEdge : GoodIn wsX0_takeNextEdge (wsV RX0 188 RX0 yX0_takeEdge wsX0_takeEdge) := goodIn_app (goodIn_of _ (by decide +kernel)) ggX0_takeNextEdge_X0_takeEdge
theorem dX0_takeNextEdge_0 : decode cX0_takeNextEdge 0 = .ok (.iconst (-1), 1) := by decide +kernel
theorem dX0_takeNextEdge_1 : decode cX0_takeNextEdge 1 = .ok (.istore_n 1, 1) := by decide +kernel
theorem dX0_takeNextEdge_2 : decode cX0_takeNextEdge 2 = .ok (.iconst (-1), 1) := by decide +kernel
theorem dX0_takeNextEdge_3 : decode cX0_takeNextEdge 3 = .ok (.istore_n 2, 1) := by decide +kernel
theorem dX0_takeNextEdge_4 : decode cX0_takeNextEdge 4 = .ok (.lconst 0, 1) := by decide +kernel
theorem dX0_takeNextEdge_5 : decode cX0_takeNextEdge 5 = .ok (.lstore_n 3, 1) := by decide +kernel
theorem dX0_takeNextEdge_6 : decode cX0_takeNextEdge 6 = .ok (.iconst 0, 1) := by decide +kernel
theorem dX0_takeNextEdge_7 : decode cX0_takeNextEdge 7 = .ok (.istore 5, 2) := by decide +kernel
theorem dX0_takeNextEdge_9 : decode cX0_takeNextEdge 9 = .ok (.iload 5, 2) := by decide +kernel
theorem dX0_takeNextEdge_11 : decode cX0_takeNextEdge 11 = .ok (.aload_n 0, 1) := by decide +kernel
theorem dX0_takeNextEdge_12 : decode cX0_takeNextEdge 12 = .ok (.getfield 16, 3) := by decide +kernel
theorem dX0_takeNextEdge_15 : decode cX0_takeNextEdge 15 = .ok (.if_icmp .ge 90, 3) := by decide +kernel
theorem dX0_takeNextEdge_18 : decode cX0_takeNextEdge 18 = .ok (.iload 5, 2) := by decide +kernel
theorem dX0_takeNextEdge_20 : decode cX0_takeNextEdge 20 = .ok (.iconst 1, 1) := by decide +kernel
theorem dX0_takeNextEdge_21 : decode cX0_takeNextEdge 21 = .ok (.iadd, 1) := by decide +kernel
theorem dX0_takeNextEdge_22 : decode cX0_takeNextEdge 22 = .ok (.istore 6, 2) := by decide +kernel
theorem dX0_takeNextEdge_24 : decode cX0_takeNextEdge 24 = .ok (.iload 6, 2) := by decide +kernel
theorem dX0_takeNextEdge_26 : decode cX0_takeNextEdge 26 = .ok (.aload_n 0, 1) := by decide +kernel
theorem dX0_takeNextEdge_27 : decode cX0_takeNextEdge 27 = .ok (.getfield 16, 3) := by decide +kernel
theorem dX0_takeNextEdge_30 : decode cX0_takeNextEdge 30 = .ok (.if_icmp .ge 69, 3) := by decide +kernel
theorem dX0_takeNextEdge_33 : decode cX0_takeNextEdge 33 = .ok (.aload_n 0, 1) := by decide +kernel
theorem dX0_takeNextEdge_34 : decode cX0_takeNextEdge 34 = .ok (.iload 5, 2) := by decide +kernel
theorem dX0_takeNextEdge_36 : decode cX0_takeNextEdge 36 = .ok (.iload 6, 2) := by decide +kernel
theorem dX0_takeNextEdge_38 : decode cX0_takeNextEdge 38 = .ok (.invokevirtual 90, 3) := by decide +kernel
theorem dX0_takeNextEdge_41 : decode cX0_takeNextEdge 41 = .ok (.ifCond .eq 52, 3) := by decide +kernel
theorem dX0_takeNextEdge_44 : decode cX0_takeNextEdge 44 = .ok (.aload_n 0, 1) := by decide +kernel
theorem dX0_takeNextEdge_45 : decode cX0_takeNextEdge 45 = .ok (.getfield 45, 3) := by decide +kernel
theorem dX0_takeNextEdge_48 : decode cX0_takeNextEdge 48 = .ok (.iload 5, 2) := by decide +kernel
theorem dX0_takeNextEdge_50 : decode cX0_takeNextEdge 50 = .ok (.iaload, 1) := by decide +kernel
theorem dX0_takeNextEdge_51 : decode cX0_takeNextEdge 51 = .ok (.aload_n 0, 1) := by decide +kernel
theorem dX0_takeNextEdge_52 : decode cX0_takeNextEdge 52 = .ok (.getfield 45, 3) := by decide +kernel
theorem dX0_takeNextEdge_55 : decode cX0_takeNextEdge 55 = .ok (.iload 6, 2) := by decide +kernel
theorem dX0_takeNextEdge_57 : decode cX0_takeNextEdge 57 = .ok (.iaload, 1) := by decide +kernel
theorem dX0_takeNextEdge_58 : decode cX0_takeNextEdge 58 = .ok (.if_icmp .eq 35, 3) := by decide +kernel
theorem dX0_takeNextEdge_61 : decode cX0_takeNextEdge 61 = .ok (.iload_n 1, 1) := by decide +kernel
theorem dX0_takeNextEdge_62 : decode cX0_takeNextEdge 62 = .ok (.ifCond .lt 16, 3) := by decide +kernel
theorem dX0_takeNextEdge_65 : decode cX0_takeNextEdge 65 = .ok (.aload_n 0, 1) := by decide +kernel
theorem dX0_takeNextEdge_66 : decode cX0_takeNextEdge 66 = .ok (.iload 5, 2) := by decide +kernel
theorem dX0_takeNextEdge_68 : decode cX0_takeNextEdge 68 = .ok (.iload 6, 2) := by decide +kernel
theorem dX0_takeNextEdge_70 : decode cX0_takeNextEdge 70 = .ok (.invokevirtual 75, 3) := by decide +kernel
theorem dX0_takeNextEdge_73 : decode cX0_takeNextEdge 73 = .ok (.lload_n 3, 1) := by decide +kernel
theorem dX0_takeNextEdge_74 : decode cX0_takeNextEdge 74 = .ok (.lcmp, 1) := by decide +kernel
theorem dX0_takeNextEdge_75 : decode cX0_takeNextEdge 75 = .ok (.ifCond .ge 18, 3) := by decide +kernel
theorem dX0_takeNextEdge_78 : decode cX0_takeNextEdge 78 = .ok (.iload 5, 2) := by decide +kernel
theorem dX0_takeNextEdge_80 : decode cX0_takeNextEdge 80 = .ok (.istore_n 1, 1) := by decide +kernel
theorem dX0_takeNextEdge_81 : decode cX0_takeNextEdge 81 = .ok (.iload 6, 2) := by decide +kernel
theorem dX0_takeNextEdge_83 : decode cX0_takeNextEdge 83 = .ok (.istore_n 2, 1) := by decide +kernel
theorem dX0_takeNextEdge_84 : decode cX0_takeNextEdge 84 = .ok (.aload_n 0, 1) := by decide +kernel
theorem dX0_takeNextEdge_85 : decode cX0_takeNextEdge 85 = .ok (.iload 5, 2) := by decide +kernel
theorem dX0_takeNextEdge_87 : decode cX0_takeNextEdge 87 = .ok (.iload 6, 2) := by decide +kernel
theorem dX0_takeNextEdge_89 : decode cX0_takeNextEdge 89 = .ok (.invokevirtual 75, 3) := by decide +kernel
theorem dX0_takeNextEdge_92 : decode cX0_takeNextEdge 92 = .ok (.lstore_n 3, 1) := by decide +kernel
theorem dX0_takeNextEdge_93 : decode cX0_takeNextEdge 93 = .ok (.iinc 6 1, 3) := by decide +kernel
theorem dX0_takeNextEdge_96 : decode cX0_takeNextEdge 96 = .ok (.goto (-72), 3) := by decide +kernel
theorem dX0_takeNextEdge_99 : decode cX0_takeNextEdge 99 = .ok (.iinc 5 1, 3) := by decide +kernel
theorem dX0_takeNextEdge_102 : decode cX0_takeNextEdge 102 = .ok (.goto (-93), 3) := by decide +kernel
theorem dX0_takeNextEdge_105 : decode cX0_takeNextEdge 105 = .ok (.iload_n 1, 1) := by decide +kernel
theorem dX0_takeNextEdge_106 : decode cX0_takeNextEdge 106 = .ok (.ifCond .lt 9, 3) := by decide +kernel
theorem dX0_takeNextEdge_109 : decode cX0_takeNextEdge 109 = .ok (.aload_n 0, 1) := by decide +kernel
theorem dX0_takeNextEdge_110 : decode cX0_takeNextEdge 110 = .ok (.iload_n 1, 1) := by decide +kernel
theorem dX0_takeNextEdge_111 : decode cX0_takeNextEdge 111 = .ok (.iload_n 2, 1) := by decide +kernel
theorem dX0_takeNextEdge_112 : decode cX0_takeNextEdge 112 = .ok (.invokevirtual 188, 3) := by decide +kernel
theorem dX0_takeNextEdge_115 : decode cX0_takeNextEdge 115 = .ok (.return_, 1) := by decide +kernel
set_option maxRecDepth 20000 in
theorem ggX0_takeEdge_X0_isSite : GoodIn wsX0_takeEdge wsX0_isSite := goodIn_r _ [10, 5, 25, 26, 27, 28, 29, 30, 31, 32, 33, 34, 35, 36] (by decide +kernel) (by decide +kernel)
set_option maxRecDepth 20000 in
theorem gX0_takeEdge_X0_isSite : GoodIn wsX0_takeEdge (wsV RX0 93 RX0 yX0_isSite wsX0_isSite) := goodIn_app (goodIn_of _ (by decide +kernel)) ggX0_takeEdge_X0_isSite
set_option maxRecDepth 20000 in
theorem ggX0_takeEdge_X0_gap : GoodIn wsX0_takeEdge wsX0_gap := goodIn_r _ [14, 15, 16, 17, 9, 18, 5, 19, 20, 21, 22, 23, 24, 25, 26, 27, 28, 29, 30, 31, 32, 33, 34, 35, 36] (by decide +kernel) (by decide +kernel)
set_option maxRecDepth 20000 in
theorem gX0_takeEdge_X0_gap : GoodIn wsX0_takeEdge (wsV RX0 75 RX0 yX0_gap wsX0_gap) := goodIn_app (goodIn_of _ (by decide +kernel)) ggX0_takeEdge_X0_gap
theorem dX0_takeEdge_0 : decode cX0_takeEdge 0 = .ok (.aload_n 0, 1) := by decide +kernel
theorem dX0_takeEdge_1 : decode cX0_takeEdge 1 = .ok (.iload_n 1, 1) := by decide +kernel
theorem dX0_takeEdge_2 : decode cX0_takeEdge 2 = .ok (.invokevirtual 93, 3) := by decide +kernel
theorem dX0_takeEdge_5 : decode cX0_takeEdge 5 = .ok (.ifCond .eq 20, 3) := by decide +kernel
theorem dX0_takeEdge_8 : decode cX0_takeEdge 8 = .ok (.aload_n 0, 1) := by decide +kernel
theorem dX0_takeEdge_9 : decode cX0_takeEdge 9 = .ok (.iload_n 2, 1) := by decide +kernel
theorem dX0_takeEdge_10 : decode cX0_takeEdge 10 = .ok (.invokevirtual 93, 3) := by decide +kernel
theorem dX0_takeEdge_13 : decode cX0_takeEdge 13 = .ok (.ifCond .eq 12, 3) := by decide +kernel
theorem dX0_takeEdge_16 : decode cX0_takeEdge 16 = .ok (.aload_n 0, 1) := by decide +kernel
theorem dX0_takeEdge_17 : decode cX0_takeEdge 17 = .ok (.getfield 38, 3) := by decide +kernel
theorem dX0_takeEdge_20 : decode cX0_takeEdge 20 = .ok (.bipush 13, 2) := by decide +kernel
theorem dX0_takeEdge_22 : decode cX0_takeEdge 22 = .ok (.if_icmp .lt 4, 3) := by decide +kernel
theorem dX0_takeEdge_25 : decode cX0_takeEdge 25 = .ok (.return_, 1) := by decide +kernel
theorem dX0_takeEdge_26 : decode cX0_takeEdge 26 = .ok (.aload_n 0, 1) := by decide +kernel
theorem dX0_takeEdge_27 : decode cX0_takeEdge 27 = .ok (.getfield 35, 3) := by decide +kernel
theorem dX0_takeEdge_30 : decode cX0_takeEdge 30 = .ok (.aload_n 0, 1) := by decide +kernel
theorem dX0_takeEdge_31 : decode cX0_takeEdge 31 = .ok (.getfield 38, 3) := by decide +kernel
theorem dX0_takeEdge_34 : decode cX0_takeEdge 34 = .ok (.iload_n 1, 1) := by decide +kernel
theorem dX0_takeEdge_35 : decode cX0_takeEdge 35 = .ok (.iload_n 2, 1) := by decide +kernel
theorem dX0_takeEdge_36 : decode cX0_takeEdge 36 = .ok (.iconst 4, 1) := by decide +kernel
theorem dX0_takeEdge_37 : decode cX0_takeEdge 37 = .ok (.ishl, 1) := by decide +kernel
theorem dX0_takeEdge_38 : decode cX0_takeEdge 38 = .ok (.ior, 1) := by decide +kernel
theorem dX0_takeEdge_39 : decode cX0_takeEdge 39 = .ok (.iastore, 1) := by decide +kernel
theorem dX0_takeEdge_40 : decode cX0_takeEdge 40 = .ok (.aload_n 0, 1) := by decide +kernel
theorem dX0_takeEdge_41 : decode cX0_takeEdge 41 = .ok (.dup, 1) := by decide +kernel
theorem dX0_takeEdge_42 : decode cX0_takeEdge 42 = .ok (.getfield 38, 3) := by decide +kernel
theorem dX0_takeEdge_45 : decode cX0_takeEdge 45 = .ok (.iconst 1, 1) := by decide +kernel
theorem dX0_takeEdge_46 : decode cX0_takeEdge 46 = .ok (.iadd, 1) := by decide +kernel
theorem dX0_takeEdge_47 : decode cX0_takeEdge 47 = .ok (.putfield 38, 3) := by decide +kernel
theorem dX0_takeEdge_50 : decode cX0_takeEdge 50 = .ok (.aload_n 0, 1) := by decide +kernel
theorem dX0_takeEdge_51 : decode cX0_takeEdge 51 = .ok (.dup, 1) := by decide +kernel
theorem dX0_takeEdge_52 : decode cX0_takeEdge 52 = .ok (.getfield 41, 3) := by decide +kernel
theorem dX0_takeEdge_55 : decode cX0_takeEdge 55 = .ok (.aload_n 0, 1) := by decide +kernel
theorem dX0_takeEdge_56 : decode cX0_takeEdge 56 = .ok (.iload_n 1, 1) := by decide +kernel
theorem dX0_takeEdge_57 : decode cX0_takeEdge 57 = .ok (.iload_n 2, 1) := by decide +kernel
theorem dX0_takeEdge_58 : decode cX0_takeEdge 58 = .ok (.invokevirtual 75, 3) := by decide +kernel
theorem dX0_takeEdge_61 : decode cX0_takeEdge 61 = .ok (.ladd, 1) := by decide +kernel
theorem dX0_takeEdge_62 : decode cX0_takeEdge 62 = .ok (.putfield 41, 3) := by decide +kernel
theorem dX0_takeEdge_65 : decode cX0_takeEdge 65 = .ok (.aload_n 0, 1) := by decide +kernel
theorem dX0_takeEdge_66 : decode cX0_takeEdge 66 = .ok (.getfield 45, 3) := by decide +kernel
theorem dX0_takeEdge_69 : decode cX0_takeEdge 69 = .ok (.iload_n 1, 1) := by decide +kernel
theorem dX0_takeEdge_70 : decode cX0_takeEdge 70 = .ok (.iaload, 1) := by decide +kernel
theorem dX0_takeEdge_71 : decode cX0_takeEdge 71 = .ok (.istore_n 3, 1) := by decide +kernel
theorem dX0_takeEdge_72 : decode cX0_takeEdge 72 = .ok (.aload_n 0, 1) := by decide +kernel
theorem dX0_takeEdge_73 : decode cX0_takeEdge 73 = .ok (.getfield 45, 3) := by decide +kernel
theorem dX0_takeEdge_76 : decode cX0_takeEdge 76 = .ok (.iload_n 2, 1) := by decide +kernel
theorem dX0_takeEdge_77 : decode cX0_takeEdge 77 = .ok (.iaload, 1) := by decide +kernel
theorem dX0_takeEdge_78 : decode cX0_takeEdge 78 = .ok (.istore 4, 2) := by decide +kernel
theorem dX0_takeEdge_80 : decode cX0_takeEdge 80 = .ok (.iconst 0, 1) := by decide +kernel
theorem dX0_takeEdge_81 : decode cX0_takeEdge 81 = .ok (.istore 5, 2) := by decide +kernel
theorem dX0_takeEdge_83 : decode cX0_takeEdge 83 = .ok (.iload 5, 2) := by decide +kernel
theorem dX0_takeEdge_85 : decode cX0_takeEdge 85 = .ok (.aload_n 0, 1) := by decide +kernel
theorem dX0_takeEdge_86 : decode cX0_takeEdge 86 = .ok (.getfield 16, 3) := by decide +kernel
theorem dX0_takeEdge_89 : decode cX0_takeEdge 89 = .ok (.if_icmp .ge 29, 3) := by decide +kernel
theorem dX0_takeEdge_92 : decode cX0_takeEdge 92 = .ok (.aload_n 0, 1) := by decide +kernel
theorem dX0_takeEdge_93 : decode cX0_takeEdge 93 = .ok (.getfield 45, 3) := by decide +kernel
theorem dX0_takeEdge_96 : decode cX0_takeEdge 96 = .ok (.iload 5, 2) := by decide +kernel
theorem dX0_takeEdge_98 : decode cX0_takeEdge 98 = .ok (.iaload, 1) := by decide +kernel
theorem dX0_takeEdge_99 : decode cX0_takeEdge 99 = .ok (.iload 4, 2) := by decide +kernel
theorem dX0_takeEdge_101 : decode cX0_takeEdge 101 = .ok (.if_icmp .ne 11, 3) := by decide +kernel
theorem dX0_takeEdge_104 : decode cX0_takeEdge 104 = .ok (.aload_n 0, 1) := by decide +kernel
theorem dX0_takeEdge_105 : decode cX0_takeEdge 105 = .ok (.getfield 45, 3) := by decide +kernel
theorem dX0_takeEdge_108 : decode cX0_takeEdge 108 = .ok (.iload 5, 2) := by decide +kernel
theorem dX0_takeEdge_110 : decode cX0_takeEdge 110 = .ok (.iload_n 3, 1) := by decide +kernel
theorem dX0_takeEdge_111 : decode cX0_takeEdge 111 = .ok (.iastore, 1) := by decide +kernel
theorem dX0_takeEdge_112 : decode cX0_takeEdge 112 = .ok (.iinc 5 1, 3) := by decide +kernel
theorem dX0_takeEdge_115 : decode cX0_takeEdge 115 = .ok (.goto (-32), 3) := by decide +kernel
theorem dX0_takeEdge_118 : decode cX0_takeEdge 118 = .ok (.return_, 1) := by decide +kernel
theorem dX1_init_0 : decode cX1_init 0 = .ok (.aload_n 0, 1) := by decide +kernel
theorem dX1_init_1 : decode cX1_init 1 = .ok (.invokespecial 1, 3) := by decide +kernel
theorem dX1_init_4 : decode cX1_init 4 = .ok (.aload_n 0, 1) := by decide +kernel
theorem dX1_init_5 : decode cX1_init 5 = .ok (.bipush 14, 2) := by decide +kernel
theorem dX1_init_7 : decode cX1_init 7 = .ok (.newarray .long, 2) := by decide +kernel
theorem dX1_init_9 : decode cX1_init 9 = .ok (.putfield 7, 3) := by decide +kernel
theorem dX1_init_12 : decode cX1_init 12 = .ok (.aload_n 0, 1) := by decide +kernel
theorem dX1_init_13 : decode cX1_init 13 = .ok (.bipush 14, 2) := by decide +kernel
theorem dX1_init_15 : decode cX1_init 15 = .ok (.newarray .long, 2) := by decide +kernel
theorem dX1_init_17 : decode cX1_init 17 = .ok (.putfield 13, 3) := by decide +kernel
theorem dX1_init_20 : decode cX1_init 20 = .ok (.aload_n 0, 1) := by decide +kernel
theorem dX1_init_21 : decode cX1_init 21 = .ok (.bipush 40, 2) := by decide +kernel
theorem dX1_init_23 : decode cX1_init 23 = .ok (.newarray .int, 2) := by decide +kernel
theorem dX1_init_25 : decode cX1_init 25 = .ok (.putfield 16, 3) := by decide +kernel
theorem dX1_init_28 : decode cX1_init 28 = .ok (.aload_n 0, 1) := by decide +kernel
theorem dX1_init_29 : decode cX1_init 29 = .ok (.bipush 40, 2) := by decide +kernel
theorem dX1_init_31 : decode cX1_init 31 = .ok (.newarray .int, 2) := by decide +kernel
theorem dX1_init_33 : decode cX1_init 33 = .ok (.putfield 20, 3) := by decide +kernel
theorem dX1_init_36 : decode cX1_init 36 = .ok (.aload_n 0, 1) := by decide +kernel
theorem dX1_init_37 : decode cX1_init 37 = .ok (.bipush 40, 2) := by decide +kernel
theorem dX1_init_39 : decode cX1_init 39 = .ok (.newarray .int, 2) := by decide +kernel
theorem dX1_init_41 : decode cX1_init 41 = .ok (.putfield 23, 3) := by decide +kernel
theorem dX1_init_44 : decode cX1_init 44 = .ok (.aload_n 0, 1) := by decide +kernel
theorem dX1_init_45 : decode cX1_init 45 = .ok (.bipush 14, 2) := by decide +kernel
theorem dX1_init_47 : decode cX1_init 47 = .ok (.newarray .int, 2) := by decide +kernel
theorem dX1_init_49 : decode cX1_init 49 = .ok (.putfield 26, 3) := by decide +kernel
theorem dX1_init_52 : decode cX1_init 52 = .ok (.aload_n 0, 1) := by decide +kernel
theorem dX1_init_53 : decode cX1_init 53 = .ok (.bipush 14, 2) := by decide +kernel
theorem dX1_init_55 : decode cX1_init 55 = .ok (.newarray .int, 2) := by decide +kernel
theorem dX1_init_57 : decode cX1_init 57 = .ok (.putfield 29, 3) := by decide +kernel
theorem dX1_init_60 : decode cX1_init 60 = .ok (.aload_n 0, 1) := by decide +kernel
theorem dX1_init_61 : decode cX1_init 61 = .ok (.bipush 14, 2) := by decide +kernel
theorem dX1_init_63 : decode cX1_init 63 = .ok (.newarray .int, 2) := by decide +kernel
theorem dX1_init_65 : decode cX1_init 65 = .ok (.putfield 32, 3) := by decide +kernel
theorem dX1_init_68 : decode cX1_init 68 = .ok (.aload_n 0, 1) := by decide +kernel
theorem dX1_init_69 : decode cX1_init 69 = .ok (.bipush 14, 2) := by decide +kernel
theorem dX1_init_71 : decode cX1_init 71 = .ok (.newarray .int, 2) := by decide +kernel
theorem dX1_init_73 : decode cX1_init 73 = .ok (.putfield 35, 3) := by decide +kernel
theorem dX1_init_76 : decode cX1_init 76 = .ok (.return_, 1) := by decide +kernel
theorem dX1_sign_0 : decode cX1_sign 0 = .ok (.lload_n 1, 1) := by decide +kernel
theorem dX1_sign_1 : decode cX1_sign 1 = .ok (.lconst 0, 1) := by decide +kernel
theorem dX1_sign_2 : decode cX1_sign 2 = .ok (.lcmp, 1) := by decide +kernel
theorem dX1_sign_3 : decode cX1_sign 3 = .ok (.ifCond .le 7, 3) := by decide +kernel
theorem dX1_sign_6 : decode cX1_sign 6 = .ok (.iconst 1, 1) := by decide +kernel
theorem dX1_sign_7 : decode cX1_sign 7 = .ok (.goto 14, 3) := by decide +kernel
theorem dX1_sign_10 : decode cX1_sign 10 = .ok (.lload_n 1, 1) := by decide +kernel
theorem dX1_sign_11 : decode cX1_sign 11 = .ok (.lconst 0, 1) := by decide +kernel
theorem dX1_sign_12 : decode cX1_sign 12 = .ok (.lcmp, 1) := by decide +kernel
theorem dX1_sign_13 : decode cX1_sign 13 = .ok (.ifCond .ge 7, 3) := by decide +kernel
theorem dX1_sign_16 : decode cX1_sign 16 = .ok (.iconst (-1), 1) := by decide +kernel
theorem dX1_sign_17 : decode cX1_sign 17 = .ok (.goto 4, 3) := by decide +kernel
theorem dX1_sign_20 : decode cX1_sign 20 = .ok (.iconst 0, 1) := by decide +kernel
theorem dX1_sign_21 : decode cX1_sign 21 = .ok (.ireturn, 1) := by decide +kernel
set_option maxRecDepth 20000 in
theorem ggX1_turn_X1_sign : GoodIn wsX1_turn wsX1_sign := goodIn_r _ [7] (by decide +kernel) (by decide +kernel)
set_option maxRecDepth 20000 in
theorem gX1_turn_X1_sign : GoodIn wsX1_turn (wsV RX1 38 RX1 yX1_sign wsX1_sign) := goodIn_app (goodIn_of _ (by decide +kernel)) ggX1_turn_X1_sign
theorem dX1_turn_0 : decode cX1_turn 0 = .ok (.aload_n 0, 1) := by decide +kernel
theorem dX1_turn_1 : decode cX1_turn 1 = .ok (.aload_n 0, 1) := by decide +kernel
theorem dX1_turn_2 : decode cX1_turn 2 = .ok (.getfield 7, 3) := by decide +kernel
theorem dX1_turn_5 : decode cX1_turn 5 = .ok (.iload_n 2, 1) := by decide +kernel
theorem dX1_turn_6 : decode cX1_turn 6 = .ok (.laload, 1) := by decide +kernel
theorem dX1_turn_7 : decode cX1_turn 7 = .ok (.aload_n 0, 1) := by decide +kernel
theorem dX1_turn_8 : decode cX1_turn 8 = .ok (.getfield 7, 3) := by decide +kernel
theorem dX1_turn_11 : decode cX1_turn 11 = .ok (.iload_n 1, 1) := by decide +kernel
theorem dX1_turn_12 : decode cX1_turn 12 = .ok (.laload, 1) := by decide +kernel
theorem dX1_turn_13 : decode cX1_turn 13 = .ok (.lsub, 1) := by decide +kernel
theorem dX1_turn_14 : decode cX1_turn 14 = .ok (.aload_n 0, 1) := by decide +kernel
theorem dX1_turn_15 : decode cX1_turn 15 = .ok (.getfield 13, 3) := by decide +kernel
theorem dX1_turn_18 : decode cX1_turn 18 = .ok (.iload_n 3, 1) := by decide +kernel
theorem dX1_turn_19 : decode cX1_turn 19 = .ok (.laload, 1) := by decide +kernel
theorem dX1_turn_20 : decode cX1_turn 20 = .ok (.aload_n 0, 1) := by decide +kernel
theorem dX1_turn_21 : decode cX1_turn 21 = .ok (.getfield 13, 3) := by decide +kernel
theorem dX1_turn_24 : decode cX1_turn 24 = .ok (.iload_n 1, 1) := by decide +kernel
theorem dX1_turn_25 : decode cX1_turn 25 = .ok (.laload, 1) := by decide +kernel
theorem dX1_turn_26 : decode cX1_turn 26 = .ok (.lsub, 1) := by decide +kernel
theorem dX1_turn_27 : decode cX1_turn 27 = .ok (.lmul, 1) := by decide +kernel
theorem dX1_turn_28 : decode cX1_turn 28 = .ok (.aload_n 0, 1) := by decide +kernel
theorem dX1_turn_29 : decode cX1_turn 29 = .ok (.getfield 13, 3) := by decide +kernel
theorem dX1_turn_32 : decode cX1_turn 32 = .ok (.iload_n 2, 1) := by decide +kernel
theorem dX1_turn_33 : decode cX1_turn 33 = .ok (.laload, 1) := by decide +kernel
theorem dX1_turn_34 : decode cX1_turn 34 = .ok (.aload_n 0, 1) := by decide +kernel
theorem dX1_turn_35 : decode cX1_turn 35 = .ok (.getfield 13, 3) := by decide +kernel
theorem dX1_turn_38 : decode cX1_turn 38 = .ok (.iload_n 1, 1) := by decide +kernel
theorem dX1_turn_39 : decode cX1_turn 39 = .ok (.laload, 1) := by decide +kernel
theorem dX1_turn_40 : decode cX1_turn 40 = .ok (.lsub, 1) := by decide +kernel
theorem dX1_turn_41 : decode cX1_turn 41 = .ok (.aload_n 0, 1) := by decide +kernel
theorem dX1_turn_42 : decode cX1_turn 42 = .ok (.getfield 7, 3) := by decide +kernel
theorem dX1_turn_45 : decode cX1_turn 45 = .ok (.iload_n 3, 1) := by decide +kernel
theorem dX1_turn_46 : decode cX1_turn 46 = .ok (.laload, 1) := by decide +kernel
theorem dX1_turn_47 : decode cX1_turn 47 = .ok (.aload_n 0, 1) := by decide +kernel
theorem dX1_turn_48 : decode cX1_turn 48 = .ok (.getfield 7, 3) := by decide +kernel
theorem dX1_turn_51 : decode cX1_turn 51 = .ok (.iload_n 1, 1) := by decide +kernel
theorem dX1_turn_52 : decode cX1_turn 52 = .ok (.laload, 1) := by decide +kernel
theorem dX1_turn_53 : decode cX1_turn 53 = .ok (.lsub, 1) := by decide +kernel
theorem dX1_turn_54 : decode cX1_turn 54 = .ok (.lmul, 1) := by decide +kernel
theorem dX1_turn_55 : decode cX1_turn 55 = .ok (.lsub, 1) := by decide +kernel
theorem dX1_turn_56 : decode cX1_turn 56 = .ok (.invokevirtual 38, 3) := by decide +kernel
theorem dX1_turn_59 : decode cX1_turn 59 = .ok (.ireturn, 1) := by decide +kernel
theorem dX1_apart_0 : decode cX1_apart 0 = .ok (.aload_n 0, 1) := by decide +kernel
theorem dX1_apart_1 : decode cX1_apart 1 = .ok (.getfield 7, 3) := by decide +kernel
theorem dX1_apart_4 : decode cX1_apart 4 = .ok (.iload_n 1, 1) := by decide +kernel
theorem dX1_apart_5 : decode cX1_apart 5 = .ok (.laload, 1) := by decide +kernel
theorem dX1_apart_6 : decode cX1_apart 6 = .ok (.aload_n 0, 1) := by decide +kernel
theorem dX1_apart_7 : decode cX1_apart 7 = .ok (.getfield 7, 3) := by decide +kernel
theorem dX1_apart_10 : decode cX1_apart 10 = .ok (.iload_n 2, 1) := by decide +kernel
theorem dX1_apart_11 : decode cX1_apart 11 = .ok (.laload, 1) := by decide +kernel
theorem dX1_apart_12 : decode cX1_apart 12 = .ok (.lsub, 1) := by decide +kernel
theorem dX1_apart_13 : decode cX1_apart 13 = .ok (.aload_n 0, 1) := by decide +kernel
theorem dX1_apart_14 : decode cX1_apart 14 = .ok (.getfield 7, 3) := by decide +kernel
theorem dX1_apart_17 : decode cX1_apart 17 = .ok (.iload_n 1, 1) := by decide +kernel
theorem dX1_apart_18 : decode cX1_apart 18 = .ok (.laload, 1) := by decide +kernel
theorem dX1_apart_19 : decode cX1_apart 19 = .ok (.aload_n 0, 1) := by decide +kernel
theorem dX1_apart_20 : decode cX1_apart 20 = .ok (.getfield 7, 3) := by decide +kernel
theorem dX1_apart_23 : decode cX1_apart 23 = .ok (.iload_n 2, 1) := by decide +kernel
theorem dX1_apart_24 : decode cX1_apart 24 = .ok (.laload, 1) := by decide +kernel
theorem dX1_apart_25 : decode cX1_apart 25 = .ok (.lsub, 1) := by decide +kernel
theorem dX1_apart_26 : decode cX1_apart 26 = .ok (.lmul, 1) := by decide +kernel
theorem dX1_apart_27 : decode cX1_apart 27 = .ok (.aload_n 0, 1) := by decide +kernel
theorem dX1_apart_28 : decode cX1_apart 28 = .ok (.getfield 13, 3) := by decide +kernel
theorem dX1_apart_31 : decode cX1_apart 31 = .ok (.iload_n 1, 1) := by decide +kernel
theorem dX1_apart_32 : decode cX1_apart 32 = .ok (.laload, 1) := by decide +kernel
theorem dX1_apart_33 : decode cX1_apart 33 = .ok (.aload_n 0, 1) := by decide +kernel
theorem dX1_apart_34 : decode cX1_apart 34 = .ok (.getfield 13, 3) := by decide +kernel
theorem dX1_apart_37 : decode cX1_apart 37 = .ok (.iload_n 2, 1) := by decide +kernel
theorem dX1_apart_38 : decode cX1_apart 38 = .ok (.laload, 1) := by decide +kernel
theorem dX1_apart_39 : decode cX1_apart 39 = .ok (.lsub, 1) := by decide +kernel
theorem dX1_apart_40 : decode cX1_apart 40 = .ok (.aload_n 0, 1) := by decide +kernel
theorem dX1_apart_41 : decode cX1_apart 41 = .ok (.getfield 13, 3) := by decide +kernel
theorem dX1_apart_44 : decode cX1_apart 44 = .ok (.iload_n 1, 1) := by decide +kernel
theorem dX1_apart_45 : decode cX1_apart 45 = .ok (.laload, 1) := by decide +kernel
theorem dX1_apart_46 : decode cX1_apart 46 = .ok (.aload_n 0, 1) := by decide +kernel
theorem dX1_apart_47 : decode cX1_apart 47 = .ok (.getfield 13, 3) := by decide +kernel
theorem dX1_apart_50 : decode cX1_apart 50 = .ok (.iload_n 2, 1) := by decide +kernel
theorem dX1_apart_51 : decode cX1_apart 51 = .ok (.laload, 1) := by decide +kernel
theorem dX1_apart_52 : decode cX1_apart 52 = .ok (.lsub, 1) := by decide +kernel
theorem dX1_apart_53 : decode cX1_apart 53 = .ok (.lmul, 1) := by decide +kernel
theorem dX1_apart_54 : decode cX1_apart 54 = .ok (.ladd, 1) := by decide +kernel
theorem dX1_apart_55 : decode cX1_apart 55 = .ok (.lreturn, 1) := by decide +kernel
theorem dX1_span_0 : decode cX1_span 0 = .ok (.aload_n 0, 1) := by decide +kernel
theorem dX1_span_1 : decode cX1_span 1 = .ok (.getfield 7, 3) := by decide +kernel
theorem dX1_span_4 : decode cX1_span 4 = .ok (.iload_n 1, 1) := by decide +kernel
theorem dX1_span_5 : decode cX1_span 5 = .ok (.laload, 1) := by decide +kernel
theorem dX1_span_6 : decode cX1_span 6 = .ok (.aload_n 0, 1) := by decide +kernel
theorem dX1_span_7 : decode cX1_span 7 = .ok (.getfield 7, 3) := by decide +kernel
theorem dX1_span_10 : decode cX1_span 10 = .ok (.iload_n 3, 1) := by decide +kernel
theorem dX1_span_11 : decode cX1_span 11 = .ok (.laload, 1) := by decide +kernel
theorem dX1_span_12 : decode cX1_span 12 = .ok (.lsub, 1) := by decide +kernel
theorem dX1_span_13 : decode cX1_span 13 = .ok (.aload_n 0, 1) := by decide +kernel
theorem dX1_span_14 : decode cX1_span 14 = .ok (.getfield 13, 3) := by decide +kernel
theorem dX1_span_17 : decode cX1_span 17 = .ok (.iload_n 2, 1) := by decide +kernel
theorem dX1_span_18 : decode cX1_span 18 = .ok (.laload, 1) := by decide +kernel
theorem dX1_span_19 : decode cX1_span 19 = .ok (.aload_n 0, 1) := by decide +kernel
theorem dX1_span_20 : decode cX1_span 20 = .ok (.getfield 13, 3) := by decide +kernel
theorem dX1_span_23 : decode cX1_span 23 = .ok (.iload_n 3, 1) := by decide +kernel
theorem dX1_span_24 : decode cX1_span 24 = .ok (.laload, 1) := by decide +kernel
theorem dX1_span_25 : decode cX1_span 25 = .ok (.lsub, 1) := by decide +kernel
theorem dX1_span_26 : decode cX1_span 26 = .ok (.lmul, 1) := by decide +kernel
theorem dX1_span_27 : decode cX1_span 27 = .ok (.aload_n 0, 1) := by decide +kernel
theorem dX1_span_28 : decode cX1_span 28 = .ok (.getfield 13, 3) := by decide +kernel
theorem dX1_span_31 : decode cX1_span 31 = .ok (.iload_n 1, 1) := by decide +kernel
theorem dX1_span_32 : decode cX1_span 32 = .ok (.laload, 1) := by decide +kernel
theorem dX1_span_33 : decode cX1_span 33 = .ok (.aload_n 0, 1) := by decide +kernel
theorem dX1_span_34 : decode cX1_span 34 = .ok (.getfield 13, 3) := by decide +kernel
theorem dX1_span_37 : decode cX1_span 37 = .ok (.iload_n 3, 1) := by decide +kernel
theorem dX1_span_38 : decode cX1_span 38 = .ok (.laload, 1) := by decide +kernel
theorem dX1_span_39 : decode cX1_span 39 = .ok (.lsub, 1) := by decide +kernel
theorem dX1_span_40 : decode cX1_span 40 = .ok (.aload_n 0, 1) := by decide +kernel
theorem dX1_span_41 : decode cX1_span 41 = .ok (.getfield 7, 3) := by decide +kernel
theorem dX1_span_44 : decode cX1_span 44 = .ok (.iload_n 2, 1) := by decide +kernel
theorem dX1_span_45 : decode cX1_span 45 = .ok (.laload, 1) := by decide +kernel
theorem dX1_span_46 : decode cX1_span 46 = .ok (.aload_n 0, 1) := by decide +kernel
theorem dX1_span_47 : decode cX1_span 47 = .ok (.getfield 7, 3) := by decide +kernel
theorem dX1_span_50 : decode cX1_span 50 = .ok (.iload_n 3, 1) := by decide +kernel
theorem dX1_span_51 : decode cX1_span 51 = .ok (.laload, 1) := by decide +kernel
theorem dX1_span_52 : decode cX1_span 52 = .ok (.lsub, 1) := by decide +kernel
theorem dX1_span_53 : decode cX1_span 53 = .ok (.lmul, 1) := by decide +kernel
theorem dX1_span_54 : decode cX1_span 54 = .ok (.lsub, 1) := by decide +kernel
theorem dX1_span_55 : decode cX1_span 55 = .ok (.lreturn, 1) := by decide +kernel
set_option maxRecDepth 20000 in
theorem ggX1_inside_X1_apart : GoodIn wsX1_inside wsX1_apart := goodIn_r _ [6, 7, 8, 21, 22, 23, 24, 25, 26, 27, 28, 29, 30, 31, 32, 33, 34] (by decide +kernel) (by decide +kernel)
set_option maxRecDepth 20000 in
theorem gX1_inside_X1_apart : GoodIn wsX1_inside (wsV RX1 42 RX1 yX1_apart wsX1_apart) := goodIn_app (goodIn_of _ (by decide +kernel)) ggX1_inside_X1_apart
set_option maxRecDepth 20000 in
theorem ggX1_inside_X1_span : GoodIn wsX1_inside wsX1_span := goodIn_r _ [12, 7, 8, 21, 22, 23, 24, 25, 26, 27, 28, 29, 30, 31, 32, 33, 34] (by decide +kernel) (by decide +kernel)
set_option maxRecDepth 20000 in
theorem gX1_inside_X1_span : GoodIn wsX1_inside (wsV RX1 46 RX1 yX1_span wsX1_span) := goodIn_app (goodIn_of _ (by decide +kernel)) ggX1_inside_X1_span
set_option maxRecDepth 20000 in
theorem ggX1_inside_X1_sign : GoodIn wsX1_inside wsX1_sign := goodIn_r _ [16] (by decide +kernel) (by decide +kernel)
set_option maxRecDepth 20000 in
theorem gX1_inside_X1_sign : GoodIn wsX1_inside (wsV RX1 38 RX1 yX1_sign wsX1_sign) := goodIn_app (goodIn_of _ (by decide +kernel)) ggX1_inside_X1_sign
set_option maxRecDepth 20000 in
theorem ggX1_inside_X1_turn : GoodIn wsX1_inside wsX1_turn := goodIn_r _ [20, 7, 8, 13, 14, 15, 5, 16, 21, 22, 23, 24, 25, 26, 27, 28, 29, 30, 31, 32, 33, 34] (by decide +kernel) (by decide +kernel)
set_option maxRecDepth 20000 in
theorem gX1_inside_X1_turn : GoodIn wsX1_inside (wsV RX1 52 RX1 yX1_turn wsX1_turn) := goodIn_app (goodIn_of _ (by decide +kernel)) ggX1_inside_X1_turn
theorem dX1_inside_0 : decode cX1_inside 0 = .ok (.aload_n 0, 1) := by decide +kernel
theorem dX1_inside_1 : decode cX1_inside 1 = .ok (.iload_n 1, 1) := by decide +kernel
theorem dX1_inside_2 : decode cX1_inside 2 = .ok (.iload 4, 2) := by decide +kernel
theorem dX1_inside_4 : decode cX1_inside 4 = .ok (.invokevirtual 42, 3) := by decide +kernel
theorem dX1_inside_7 : decode cX1_inside 7 = .ok (.lstore 5, 2) := by decide +kernel
theorem dX1_inside_9 : decode cX1_inside 9 = .ok (.aload_n 0, 1) := by decide +kernel
theorem dX1_inside_10 : decode cX1_inside 10 = .ok (.iload_n 2, 1) := by decide +kernel
theorem dX1_inside_11 : decode cX1_inside 11 = .ok (.iload 4, 2) := by decide +kernel
theorem dX1_inside_13 : decode cX1_inside 13 = .ok (.invokevirtual 42, 3) := by decide +kernel
theorem dX1_inside_16 : decode cX1_inside 16 = .ok (.lstore 7, 2) := by decide +kernel
theorem dX1_inside_18 : decode cX1_inside 18 = .ok (.aload_n 0, 1) := by decide +kernel
theorem dX1_inside_19 : decode cX1_inside 19 = .ok (.iload_n 3, 1) := by decide +kernel
theorem dX1_inside_20 : decode cX1_inside 20 = .ok (.iload 4, 2) := by decide +kernel
theorem dX1_inside_22 : decode cX1_inside 22 = .ok (.invokevirtual 42, 3) := by decide +kernel
theorem dX1_inside_25 : decode cX1_inside 25 = .ok (.lstore 9, 2) := by decide +kernel
theorem dX1_inside_27 : decode cX1_inside 27 = .ok (.aload_n 0, 1) := by decide +kernel
theorem dX1_inside_28 : decode cX1_inside 28 = .ok (.iload_n 2, 1) := by decide +kernel
theorem dX1_inside_29 : decode cX1_inside 29 = .ok (.iload_n 3, 1) := by decide +kernel
theorem dX1_inside_30 : decode cX1_inside 30 = .ok (.iload 4, 2) := by decide +kernel
theorem dX1_inside_32 : decode cX1_inside 32 = .ok (.invokevirtual 46, 3) := by decide +kernel
theorem dX1_inside_35 : decode cX1_inside 35 = .ok (.lstore 11, 2) := by decide +kernel
theorem dX1_inside_37 : decode cX1_inside 37 = .ok (.aload_n 0, 1) := by decide +kernel
theorem dX1_inside_38 : decode cX1_inside 38 = .ok (.iload_n 3, 1) := by decide +kernel
theorem dX1_inside_39 : decode cX1_inside 39 = .ok (.iload_n 1, 1) := by decide +kernel
theorem dX1_inside_40 : decode cX1_inside 40 = .ok (.iload 4, 2) := by decide +kernel
theorem dX1_inside_42 : decode cX1_inside 42 = .ok (.invokevirtual 46, 3) := by decide +kernel
theorem dX1_inside_45 : decode cX1_inside 45 = .ok (.lstore 13, 2) := by decide +kernel
theorem dX1_inside_47 : decode cX1_inside 47 = .ok (.aload_n 0, 1) := by decide +kernel
theorem dX1_inside_48 : decode cX1_inside 48 = .ok (.iload_n 1, 1) := by decide +kernel
theorem dX1_inside_49 : decode cX1_inside 49 = .ok (.iload_n 2, 1) := by decide +kernel
theorem dX1_inside_50 : decode cX1_inside 50 = .ok (.iload 4, 2) := by decide +kernel
theorem dX1_inside_52 : decode cX1_inside 52 = .ok (.invokevirtual 46, 3) := by decide +kernel
theorem dX1_inside_55 : decode cX1_inside 55 = .ok (.lstore 15, 2) := by decide +kernel
theorem dX1_inside_57 : decode cX1_inside 57 = .ok (.lload 5, 2) := by decide +kernel
theorem dX1_inside_59 : decode cX1_inside 59 = .ok (.bipush 16, 2) := by decide +kernel
theorem dX1_inside_61 : decode cX1_inside 61 = .ok (.lshr, 1) := by decide +kernel
theorem dX1_inside_62 : decode cX1_inside 62 = .ok (.lload 11, 2) := by decide +kernel
theorem dX1_inside_64 : decode cX1_inside 64 = .ok (.lmul, 1) := by decide +kernel
theorem dX1_inside_65 : decode cX1_inside 65 = .ok (.lload 7, 2) := by decide +kernel
theorem dX1_inside_67 : decode cX1_inside 67 = .ok (.bipush 16, 2) := by decide +kernel
theorem dX1_inside_69 : decode cX1_inside 69 = .ok (.lshr, 1) := by decide +kernel
theorem dX1_inside_70 : decode cX1_inside 70 = .ok (.lload 13, 2) := by decide +kernel
theorem dX1_inside_72 : decode cX1_inside 72 = .ok (.lmul, 1) := by decide +kernel
theorem dX1_inside_73 : decode cX1_inside 73 = .ok (.ladd, 1) := by decide +kernel
theorem dX1_inside_74 : decode cX1_inside 74 = .ok (.lload 9, 2) := by decide +kernel
theorem dX1_inside_76 : decode cX1_inside 76 = .ok (.bipush 16, 2) := by decide +kernel
theorem dX1_inside_78 : decode cX1_inside 78 = .ok (.lshr, 1) := by decide +kernel
theorem dX1_inside_79 : decode cX1_inside 79 = .ok (.lload 15, 2) := by decide +kernel
theorem dX1_inside_81 : decode cX1_inside 81 = .ok (.lmul, 1) := by decide +kernel
theorem dX1_inside_82 : decode cX1_inside 82 = .ok (.ladd, 1) := by decide +kernel
theorem dX1_inside_83 : decode cX1_inside 83 = .ok (.lstore 17, 2) := by decide +kernel
theorem dX1_inside_85 : decode cX1_inside 85 = .ok (.lload 5, 2) := by decide +kernel
theorem dX1_inside_87 : decode cX1_inside 87 = .ok (.ldc2_w 50, 3) := by decide +kernel
theorem dX1_inside_90 : decode cX1_inside 90 = .ok (.land, 1) := by decide +kernel
theorem dX1_inside_91 : decode cX1_inside 91 = .ok (.lload 11, 2) := by decide +kernel
theorem dX1_inside_93 : decode cX1_inside 93 = .ok (.lmul, 1) := by decide +kernel
theorem dX1_inside_94 : decode cX1_inside 94 = .ok (.lload 7, 2) := by decide +kernel
theorem dX1_inside_96 : decode cX1_inside 96 = .ok (.ldc2_w 50, 3) := by decide +kernel
theorem dX1_inside_99 : decode cX1_inside 99 = .ok (.land, 1) := by decide +kernel
theorem dX1_inside_100 : decode cX1_inside 100 = .ok (.lload 13, 2) := by decide +kernel
theorem dX1_inside_102 : decode cX1_inside 102 = .ok (.lmul, 1) := by decide +kernel
theorem dX1_inside_103 : decode cX1_inside 103 = .ok (.ladd, 1) := by decide +kernel
theorem dX1_inside_104 : decode cX1_inside 104 = .ok (.lload 9, 2) := by decide +kernel
theorem dX1_inside_106 : decode cX1_inside 106 = .ok (.ldc2_w 50, 3) := by decide +kernel
theorem dX1_inside_109 : decode cX1_inside 109 = .ok (.land, 1) := by decide +kernel
theorem dX1_inside_110 : decode cX1_inside 110 = .ok (.lload 15, 2) := by decide +kernel
theorem dX1_inside_112 : decode cX1_inside 112 = .ok (.lmul, 1) := by decide +kernel
theorem dX1_inside_113 : decode cX1_inside 113 = .ok (.ladd, 1) := by decide +kernel
theorem dX1_inside_114 : decode cX1_inside 114 = .ok (.lstore 19, 2) := by decide +kernel
theorem dX1_inside_116 : decode cX1_inside 116 = .ok (.lload 17, 2) := by decide +kernel
theorem dX1_inside_118 : decode cX1_inside 118 = .ok (.lload 19, 2) := by decide +kernel
theorem dX1_inside_120 : decode cX1_inside 120 = .ok (.bipush 16, 2) := by decide +kernel
theorem dX1_inside_122 : decode cX1_inside 122 = .ok (.lshr, 1) := by decide +kernel
theorem dX1_inside_123 : decode cX1_inside 123 = .ok (.ladd, 1) := by decide +kernel
theorem dX1_inside_124 : decode cX1_inside 124 = .ok (.lstore 17, 2) := by decide +kernel
theorem dX1_inside_126 : decode cX1_inside 126 = .ok (.lload 17, 2) := by decide +kernel
theorem dX1_inside_128 : decode cX1_inside 128 = .ok (.lconst 0, 1) := by decide +kernel
theorem dX1_inside_129 : decode cX1_inside 129 = .ok (.lcmp, 1) := by decide +kernel
theorem dX1_inside_130 : decode cX1_inside 130 = .ok (.ifCond .eq 12, 3) := by decide +kernel
theorem dX1_inside_133 : decode cX1_inside 133 = .ok (.aload_n 0, 1) := by decide +kernel
theorem dX1_inside_134 : decode cX1_inside 134 = .ok (.lload 17, 2) := by decide +kernel
theorem dX1_inside_136 : decode cX1_inside 136 = .ok (.invokevirtual 38, 3) := by decide +kernel
theorem dX1_inside_139 : decode cX1_inside 139 = .ok (.goto 13, 3) := by decide +kernel
theorem dX1_inside_142 : decode cX1_inside 142 = .ok (.aload_n 0, 1) := by decide +kernel
theorem dX1_inside_143 : decode cX1_inside 143 = .ok (.lload 19, 2) := by decide +kernel
theorem dX1_inside_145 : decode cX1_inside 145 = .ok (.ldc2_w 50, 3) := by decide +kernel
theorem dX1_inside_148 : decode cX1_inside 148 = .ok (.land, 1) := by decide +kernel
theorem dX1_inside_149 : decode cX1_inside 149 = .ok (.invokevirtual 38, 3) := by decide +kernel
theorem dX1_inside_152 : decode cX1_inside 152 = .ok (.istore 21, 2) := by decide +kernel
theorem dX1_inside_154 : decode cX1_inside 154 = .ok (.iload 21, 2) := by decide +kernel
theorem dX1_inside_156 : decode cX1_inside 156 = .ok (.aload_n 0, 1) := by decide +kernel
theorem dX1_inside_157 : decode cX1_inside 157 = .ok (.iload_n 1, 1) := by decide +kernel
theorem dX1_inside_158 : decode cX1_inside 158 = .ok (.iload_n 2, 1) := by decide +kernel
theorem dX1_inside_159 : decode cX1_inside 159 = .ok (.iload_n 3, 1) := by decide +kernel
theorem dX1_inside_160 : decode cX1_inside 160 = .ok (.invokevirtual 52, 3) := by decide +kernel
theorem dX1_inside_163 : decode cX1_inside 163 = .ok (.imul, 1) := by decide +kernel
theorem dX1_inside_164 : decode cX1_inside 164 = .ok (.ireturn, 1) := by decide +kernel
set_option maxRecDepth 20000 in
theorem ggX1_between_X1_turn : GoodIn wsX1_between wsX1_turn := goodIn_r _ [7, 1, 2, 8, 9, 10, 6, 11, 12, 13, 14, 15, 16, 17, 18, 19, 20, 21, 22, 23, 24, 25] (by decide +kernel) (by decide +kernel)
set_option maxRecDepth 20000 in
theorem gX1_between_X1_turn : GoodIn wsX1_between (wsV RX1 52 RX1 yX1_turn wsX1_turn) := goodIn_app (goodIn_of _ (by decide +kernel)) ggX1_between_X1_turn
theorem dX1_between_0 : decode cX1_between 0 = .ok (.iload_n 1, 1) := by decide +kernel
theorem dX1_between_1 : decode cX1_between 1 = .ok (.iload_n 2, 1) := by decide +kernel
theorem dX1_between_2 : decode cX1_between 2 = .ok (.if_icmp .eq 18, 3) := by decide +kernel
theorem dX1_between_5 : decode cX1_between 5 = .ok (.iload_n 1, 1) := by decide +kernel
theorem dX1_between_6 : decode cX1_between 6 = .ok (.iload_n 3, 1) := by decide +kernel
theorem dX1_between_7 : decode cX1_between 7 = .ok (.if_icmp .eq 13, 3) := by decide +kernel
theorem dX1_between_10 : decode cX1_between 10 = .ok (.aload_n 0, 1) := by decide +kernel
theorem dX1_between_11 : decode cX1_between 11 = .ok (.iload_n 2, 1) := by decide +kernel
theorem dX1_between_12 : decode cX1_between 12 = .ok (.iload_n 3, 1) := by decide +kernel
theorem dX1_between_13 : decode cX1_between 13 = .ok (.iload_n 1, 1) := by decide +kernel
theorem dX1_between_14 : decode cX1_between 14 = .ok (.invokevirtual 52, 3) := by decide +kernel
theorem dX1_between_17 : decode cX1_between 17 = .ok (.ifCond .eq 5, 3) := by decide +kernel
theorem dX1_between_20 : decode cX1_between 20 = .ok (.iconst 0, 1) := by decide +kernel
theorem dX1_between_21 : decode cX1_between 21 = .ok (.ireturn, 1) := by decide +kernel
theorem dX1_between_22 : decode cX1_between 22 = .ok (.aload_n 0, 1) := by decide +kernel
theorem dX1_between_23 : decode cX1_between 23 = .ok (.getfield 7, 3) := by decide +kernel
theorem dX1_between_26 : decode cX1_between 26 = .ok (.iload_n 1, 1) := by decide +kernel
theorem dX1_between_27 : decode cX1_between 27 = .ok (.laload, 1) := by decide +kernel
theorem dX1_between_28 : decode cX1_between 28 = .ok (.aload_n 0, 1) := by decide +kernel
theorem dX1_between_29 : decode cX1_between 29 = .ok (.getfield 7, 3) := by decide +kernel
theorem dX1_between_32 : decode cX1_between 32 = .ok (.iload_n 2, 1) := by decide +kernel
theorem dX1_between_33 : decode cX1_between 33 = .ok (.laload, 1) := by decide +kernel
theorem dX1_between_34 : decode cX1_between 34 = .ok (.lsub, 1) := by decide +kernel
theorem dX1_between_35 : decode cX1_between 35 = .ok (.aload_n 0, 1) := by decide +kernel
theorem dX1_between_36 : decode cX1_between 36 = .ok (.getfield 7, 3) := by decide +kernel
theorem dX1_between_39 : decode cX1_between 39 = .ok (.iload_n 1, 1) := by decide +kernel
theorem dX1_between_40 : decode cX1_between 40 = .ok (.laload, 1) := by decide +kernel
theorem dX1_between_41 : decode cX1_between 41 = .ok (.aload_n 0, 1) := by decide +kernel
theorem dX1_between_42 : decode cX1_between 42 = .ok (.getfield 7, 3) := by decide +kernel
theorem dX1_between_45 : decode cX1_between 45 = .ok (.iload_n 3, 1) := by decide +kernel
theorem dX1_between_46 : decode cX1_between 46 = .ok (.laload, 1) := by decide +kernel
theorem dX1_between_47 : decode cX1_between 47 = .ok (.lsub, 1) := by decide +kernel
theorem dX1_between_48 : decode cX1_between 48 = .ok (.lmul, 1) := by decide +kernel
theorem dX1_between_49 : decode cX1_between 49 = .ok (.lconst 0, 1) := by decide +kernel
theorem dX1_between_50 : decode cX1_between 50 = .ok (.lcmp, 1) := by decide +kernel
theorem dX1_between_51 : decode cX1_between 51 = .ok (.ifCond .gt 39, 3) := by decide +kernel
theorem dX1_between_54 : decode cX1_between 54 = .ok (.aload_n 0, 1) := by decide +kernel
theorem dX1_between_55 : decode cX1_between 55 = .ok (.getfield 13, 3) := by decide +kernel
theorem dX1_between_58 : decode cX1_between 58 = .ok (.iload_n 1, 1) := by decide +kernel
theorem dX1_between_59 : decode cX1_between 59 = .ok (.laload, 1) := by decide +kernel
theorem dX1_between_60 : decode cX1_between 60 = .ok (.aload_n 0, 1) := by decide +kernel
theorem dX1_between_61 : decode cX1_between 61 = .ok (.getfield 13, 3) := by decide +kernel
theorem dX1_between_64 : decode cX1_between 64 = .ok (.iload_n 2, 1) := by decide +kernel
theorem dX1_between_65 : decode cX1_between 65 = .ok (.laload, 1) := by decide +kernel
theorem dX1_between_66 : decode cX1_between 66 = .ok (.lsub, 1) := by decide +kernel
theorem dX1_between_67 : decode cX1_between 67 = .ok (.aload_n 0, 1) := by decide +kernel
theorem dX1_between_68 : decode cX1_between 68 = .ok (.getfield 13, 3) := by decide +kernel
theorem dX1_between_71 : decode cX1_between 71 = .ok (.iload_n 1, 1) := by decide +kernel
theorem dX1_between_72 : decode cX1_between 72 = .ok (.laload, 1) := by decide +kernel
theorem dX1_between_73 : decode cX1_between 73 = .ok (.aload_n 0, 1) := by decide +kernel
theorem dX1_between_74 : decode cX1_between 74 = .ok (.getfield 13, 3) := by decide +kernel
theorem dX1_between_77 : decode cX1_between 77 = .ok (.iload_n 3, 1) := by decide +kernel
theorem dX1_between_78 : decode cX1_between 78 = .ok (.laload, 1) := by decide +kernel
theorem dX1_between_79 : decode cX1_between 79 = .ok (.lsub, 1) := by decide +kernel
theorem dX1_between_80 : decode cX1_between 80 = .ok (.lmul, 1) := by decide +kernel
theorem dX1_between_81 : decode cX1_between 81 = .ok (.lconst 0, 1) := by decide +kernel
theorem dX1_between_82 : decode cX1_between 82 = .ok (.lcmp, 1) := by decide +kernel
theorem dX1_between_83 : decode cX1_between 83 = .ok (.ifCond .gt 7, 3) := by decide +kernel
theorem dX1_between_86 : decode cX1_between 86 = .ok (.iconst 1, 1) := by decide +kernel
theorem dX1_between_87 : decode cX1_between 87 = .ok (.goto 4, 3) := by decide +kernel
theorem dX1_between_90 : decode cX1_between 90 = .ok (.iconst 0, 1) := by decide +kernel
theorem dX1_between_91 : decode cX1_between 91 = .ok (.ireturn, 1) := by decide +kernel
set_option maxRecDepth 20000 in
theorem ggX1_good_X1_turn : GoodIn wsX1_good wsX1_turn := goodIn_r _ [6, 7, 8, 9, 10, 11, 5, 12, 26, 27, 28, 29, 30, 31, 32, 33, 34, 35, 36, 37, 38, 39] (by decide +kernel) (by decide +kernel)
set_option maxRecDepth 20000 in
theorem gX1_good_X1_turn : GoodIn wsX1_good (wsV RX1 52 RX1 yX1_turn wsX1_turn) := goodIn_app (goodIn_of _ (by decide +kernel)) ggX1_good_X1_turn
set_option maxRecDepth 20000 in
theorem ggX1_good_X1_inside : GoodIn wsX1_good wsX1_inside := goodIn_r _ [16, 17, 18, 19, 20, 5, 21, 7, 8, 22, 23, 24, 25, 9, 10, 11, 12, 2, 3, 4, 6, 26, 27, 28, 29, 30, 31, 32, 33, 34, 35, 36, 37, 38, 39] (by decide +kernel) (by decide +kernel)
set_option maxRecDepth 20000 in
theorem gX1_good_X1_inside : GoodIn wsX1_good (wsV RX1 60 RX1 yX1_inside wsX1_inside) := goodIn_app (goodIn_of _ (by decide +kernel)) ggX1_good_X1_inside
theorem dX1_good_0 : decode cX1_good 0 = .ok (.aload_n 0, 1) := by decide +kernel
theorem dX1_good_1 : decode cX1_good 1 = .ok (.iload_n 1, 1) := by decide +kernel
theorem dX1_good_2 : decode cX1_good 2 = .ok (.iload_n 2, 1) := by decide +kernel
theorem dX1_good_3 : decode cX1_good 3 = .ok (.iload_n 3, 1) := by decide +kernel
theorem dX1_good_4 : decode cX1_good 4 = .ok (.invokevirtual 52, 3) := by decide +kernel
theorem dX1_good_7 : decode cX1_good 7 = .ok (.ifCond .ne 5, 3) := by decide +kernel
theorem dX1_good_10 : decode cX1_good 10 = .ok (.iconst 0, 1) := by decide +kernel
theorem dX1_good_11 : decode cX1_good 11 = .ok (.ireturn, 1) := by decide +kernel
theorem dX1_good_12 : decode cX1_good 12 = .ok (.iconst 1, 1) := by decide +kernel
theorem dX1_good_13 : decode cX1_good 13 = .ok (.istore 4, 2) := by decide +kernel
theorem dX1_good_15 : decode cX1_good 15 = .ok (.iconst 0, 1) := by decide +kernel
theorem dX1_good_16 : decode cX1_good 16 = .ok (.istore 5, 2) := by decide +kernel
theorem dX1_good_18 : decode cX1_good 18 = .ok (.iload 5, 2) := by decide +kernel
theorem dX1_good_20 : decode cX1_good 20 = .ok (.aload_n 0, 1) := by decide +kernel
theorem dX1_good_21 : decode cX1_good 21 = .ok (.getfield 56, 3) := by decide +kernel
theorem dX1_good_24 : decode cX1_good 24 = .ok (.if_icmp .ge 84, 3) := by decide +kernel
theorem dX1_good_27 : decode cX1_good 27 = .ok (.iload 4, 2) := by decide +kernel
theorem dX1_good_29 : decode cX1_good 29 = .ok (.ifCond .eq 79, 3) := by decide +kernel
theorem dX1_good_32 : decode cX1_good 32 = .ok (.iload 5, 2) := by decide +kernel
theorem dX1_good_34 : decode cX1_good 34 = .ok (.iload_n 1, 1) := by decide +kernel
theorem dX1_good_35 : decode cX1_good 35 = .ok (.if_icmp .eq 67, 3) := by decide +kernel
theorem dX1_good_38 : decode cX1_good 38 = .ok (.iload 5, 2) := by decide +kernel
theorem dX1_good_40 : decode cX1_good 40 = .ok (.iload_n 2, 1) := by decide +kernel
theorem dX1_good_41 : decode cX1_good 41 = .ok (.if_icmp .eq 61, 3) := by decide +kernel
theorem dX1_good_44 : decode cX1_good 44 = .ok (.iload 5, 2) := by decide +kernel
theorem dX1_good_46 : decode cX1_good 46 = .ok (.iload_n 3, 1) := by decide +kernel
theorem dX1_good_47 : decode cX1_good 47 = .ok (.if_icmp .eq 55, 3) := by decide +kernel
theorem dX1_good_50 : decode cX1_good 50 = .ok (.aload_n 0, 1) := by decide +kernel
theorem dX1_good_51 : decode cX1_good 51 = .ok (.iload_n 1, 1) := by decide +kernel
theorem dX1_good_52 : decode cX1_good 52 = .ok (.iload_n 2, 1) := by decide +kernel
theorem dX1_good_53 : decode cX1_good 53 = .ok (.iload_n 3, 1) := by decide +kernel
theorem dX1_good_54 : decode cX1_good 54 = .ok (.iload 5, 2) := by decide +kernel
theorem dX1_good_56 : decode cX1_good 56 = .ok (.invokevirtual 60, 3) := by decide +kernel
theorem dX1_good_59 : decode cX1_good 59 = .ok (.istore 6, 2) := by decide +kernel
theorem dX1_good_61 : decode cX1_good 61 = .ok (.iload 6, 2) := by decide +kernel
theorem dX1_good_63 : decode cX1_good 63 = .ok (.ifCond .lt 32, 3) := by decide +kernel
theorem dX1_good_66 : decode cX1_good 66 = .ok (.iload 6, 2) := by decide +kernel
theorem dX1_good_68 : decode cX1_good 68 = .ok (.ifCond .ne 31, 3) := by decide +kernel
theorem dX1_good_71 : decode cX1_good 71 = .ok (.iload 5, 2) := by decide +kernel
theorem dX1_good_73 : decode cX1_good 73 = .ok (.iload_n 1, 1) := by decide +kernel
theorem dX1_good_74 : decode cX1_good 74 = .ok (.if_icmp .le 25, 3) := by decide +kernel
theorem dX1_good_77 : decode cX1_good 77 = .ok (.aload_n 0, 1) := by decide +kernel
theorem dX1_good_78 : decode cX1_good 78 = .ok (.iload_n 2, 1) := by decide +kernel
theorem dX1_good_79 : decode cX1_good 79 = .ok (.iload_n 3, 1) := by decide +kernel
theorem dX1_good_80 : decode cX1_good 80 = .ok (.iload 5, 2) := by decide +kernel
theorem dX1_good_82 : decode cX1_good 82 = .ok (.invokevirtual 52, 3) := by decide +kernel
theorem dX1_good_85 : decode cX1_good 85 = .ok (.aload_n 0, 1) := by decide +kernel
theorem dX1_good_86 : decode cX1_good 86 = .ok (.iload_n 2, 1) := by decide +kernel
theorem dX1_good_87 : decode cX1_good 87 = .ok (.iload_n 3, 1) := by decide +kernel
theorem dX1_good_88 : decode cX1_good 88 = .ok (.iload_n 1, 1) := by decide +kernel
theorem dX1_good_89 : decode cX1_good 89 = .ok (.invokevirtual 52, 3) := by decide +kernel
theorem dX1_good_92 : decode cX1_good 92 = .ok (.if_icmp .ne 7, 3) := by decide +kernel
theorem dX1_good_95 : decode cX1_good 95 = .ok (.iconst 1, 1) := by decide +kernel
theorem dX1_good_96 : decode cX1_good 96 = .ok (.goto 4, 3) := by decide +kernel
theorem dX1_good_99 : decode cX1_good 99 = .ok (.iconst 0, 1) := by decide +kernel
theorem dX1_good_100 : decode cX1_good 100 = .ok (.istore 4, 2) := by decide +kernel
theorem dX1_good_102 : decode cX1_good 102 = .ok (.iinc 5 1, 3) := by decide +kernel
theorem dX1_good_105 : decode cX1_good 105 = .ok (.goto (-87), 3) := by decide +kernel
theorem dX1_good_108 : decode cX1_good 108 = .ok (.iload 4, 2) := by decide +kernel
theorem dX1_good_110 : decode cX1_good 110 = .ok (.ireturn, 1) := by decide +kernel
set_option maxRecDepth 20000 in
theorem ggX1_makeTriangles_X1_good : GoodIn wsX1_makeTriangles wsX1_good := goodIn_r _ [10, 2, 11, 12, 13, 9, 14, 15, 16, 17, 18, 19, 20, 21, 22, 23, 24, 25, 26, 27, 28, 29, 30, 31, 32, 33, 34, 35, 36, 37, 38, 39, 40, 41, 42, 43, 44, 45, 46, 47] (by decide +kernel) (by decide +kernel)
set_option maxRecDepth 20000 in
theorem gX1_makeTriangles_X1_good : GoodIn wsX1_makeTriangles (wsV RX1 67 RX1 yX1_good wsX1_good) := goodIn_app (goodIn_of _ (by decide +kernel)) ggX1_makeTriangles_X1_good
theorem dX1_makeTriangles_0 : decode cX1_makeTriangles 0 = .ok (.aload_n 0, 1) := by decide +kernel
theorem dX1_makeTriangles_1 : decode cX1_makeTriangles 1 = .ok (.iconst 0, 1) := by decide +kernel
theorem dX1_makeTriangles_2 : decode cX1_makeTriangles 2 = .ok (.putfield 64, 3) := by decide +kernel
theorem dX1_makeTriangles_5 : decode cX1_makeTriangles 5 = .ok (.iconst 0, 1) := by decide +kernel
theorem dX1_makeTriangles_6 : decode cX1_makeTriangles 6 = .ok (.istore_n 1, 1) := by decide +kernel
theorem dX1_makeTriangles_7 : decode cX1_makeTriangles 7 = .ok (.iload_n 1, 1) := by decide +kernel
theorem dX1_makeTriangles_8 : decode cX1_makeTriangles 8 = .ok (.aload_n 0, 1) := by decide +kernel
theorem dX1_makeTriangles_9 : decode cX1_makeTriangles 9 = .ok (.getfield 56, 3) := by decide +kernel
theorem dX1_makeTriangles_12 : decode cX1_makeTriangles 12 = .ok (.if_icmp .ge 95, 3) := by decide +kernel
theorem dX1_makeTriangles_15 : decode cX1_makeTriangles 15 = .ok (.iload_n 1, 1) := by decide +kernel
theorem dX1_makeTriangles_16 : decode cX1_makeTriangles 16 = .ok (.iconst 1, 1) := by decide +kernel
theorem dX1_makeTriangles_17 : decode cX1_makeTriangles 17 = .ok (.iadd, 1) := by decide +kernel
theorem dX1_makeTriangles_18 : decode cX1_makeTriangles 18 = .ok (.istore_n 2, 1) := by decide +kernel
theorem dX1_makeTriangles_19 : decode cX1_makeTriangles 19 = .ok (.iload_n 2, 1) := by decide +kernel
theorem dX1_makeTriangles_20 : decode cX1_makeTriangles 20 = .ok (.aload_n 0, 1) := by decide +kernel
theorem dX1_makeTriangles_21 : decode cX1_makeTriangles 21 = .ok (.getfield 56, 3) := by decide +kernel
theorem dX1_makeTriangles_24 : decode cX1_makeTriangles 24 = .ok (.if_icmp .ge 77, 3) := by decide +kernel
theorem dX1_makeTriangles_27 : decode cX1_makeTriangles 27 = .ok (.iload_n 2, 1) := by decide +kernel
theorem dX1_makeTriangles_28 : decode cX1_makeTriangles 28 = .ok (.iconst 1, 1) := by decide +kernel
theorem dX1_makeTriangles_29 : decode cX1_makeTriangles 29 = .ok (.iadd, 1) := by decide +kernel
theorem dX1_makeTriangles_30 : decode cX1_makeTriangles 30 = .ok (.istore_n 3, 1) := by decide +kernel
theorem dX1_makeTriangles_31 : decode cX1_makeTriangles 31 = .ok (.iload_n 3, 1) := by decide +kernel
theorem dX1_makeTriangles_32 : decode cX1_makeTriangles 32 = .ok (.aload_n 0, 1) := by decide +kernel
theorem dX1_makeTriangles_33 : decode cX1_makeTriangles 33 = .ok (.getfield 56, 3) := by decide +kernel
theorem dX1_makeTriangles_36 : decode cX1_makeTriangles 36 = .ok (.if_icmp .ge 59, 3) := by decide +kernel
theorem dX1_makeTriangles_39 : decode cX1_makeTriangles 39 = .ok (.aload_n 0, 1) := by decide +kernel
theorem dX1_makeTriangles_40 : decode cX1_makeTriangles 40 = .ok (.iload_n 1, 1) := by decide +kernel
theorem dX1_makeTriangles_41 : decode cX1_makeTriangles 41 = .ok (.iload_n 2, 1) := by decide +kernel
theorem dX1_makeTriangles_42 : decode cX1_makeTriangles 42 = .ok (.iload_n 3, 1) := by decide +kernel
theorem dX1_makeTriangles_43 : decode cX1_makeTriangles 43 = .ok (.invokevirtual 67, 3) := by decide +kernel
theorem dX1_makeTriangles_46 : decode cX1_makeTriangles 46 = .ok (.ifCond .eq 43, 3) := by decide +kernel
theorem dX1_makeTriangles_49 : decode cX1_makeTriangles 49 = .ok (.aload_n 0, 1) := by decide +kernel
theorem dX1_makeTriangles_50 : decode cX1_makeTriangles 50 = .ok (.getfield 16, 3) := by decide +kernel
theorem dX1_makeTriangles_53 : decode cX1_makeTriangles 53 = .ok (.aload_n 0, 1) := by decide +kernel
theorem dX1_makeTriangles_54 : decode cX1_makeTriangles 54 = .ok (.getfield 64, 3) := by decide +kernel
theorem dX1_makeTriangles_57 : decode cX1_makeTriangles 57 = .ok (.iload_n 1, 1) := by decide +kernel
theorem dX1_makeTriangles_58 : decode cX1_makeTriangles 58 = .ok (.iastore, 1) := by decide +kernel
theorem dX1_makeTriangles_59 : decode cX1_makeTriangles 59 = .ok (.aload_n 0, 1) := by decide +kernel
theorem dX1_makeTriangles_60 : decode cX1_makeTriangles 60 = .ok (.getfield 20, 3) := by decide +kernel
theorem dX1_makeTriangles_63 : decode cX1_makeTriangles 63 = .ok (.aload_n 0, 1) := by decide +kernel
theorem dX1_makeTriangles_64 : decode cX1_makeTriangles 64 = .ok (.getfield 64, 3) := by decide +kernel
theorem dX1_makeTriangles_67 : decode cX1_makeTriangles 67 = .ok (.iload_n 2, 1) := by decide +kernel
theorem dX1_makeTriangles_68 : decode cX1_makeTriangles 68 = .ok (.iastore, 1) := by decide +kernel
theorem dX1_makeTriangles_69 : decode cX1_makeTriangles 69 = .ok (.aload_n 0, 1) := by decide +kernel
theorem dX1_makeTriangles_70 : decode cX1_makeTriangles 70 = .ok (.getfield 23, 3) := by decide +kernel
theorem dX1_makeTriangles_73 : decode cX1_makeTriangles 73 = .ok (.aload_n 0, 1) := by decide +kernel
theorem dX1_makeTriangles_74 : decode cX1_makeTriangles 74 = .ok (.getfield 64, 3) := by decide +kernel
theorem dX1_makeTriangles_77 : decode cX1_makeTriangles 77 = .ok (.iload_n 3, 1) := by decide +kernel
theorem dX1_makeTriangles_78 : decode cX1_makeTriangles 78 = .ok (.iastore, 1) := by decide +kernel
theorem dX1_makeTriangles_79 : decode cX1_makeTriangles 79 = .ok (.aload_n 0, 1) := by decide +kernel
theorem dX1_makeTriangles_80 : decode cX1_makeTriangles 80 = .ok (.dup, 1) := by decide +kernel
theorem dX1_makeTriangles_81 : decode cX1_makeTriangles 81 = .ok (.getfield 64, 3) := by decide +kernel
theorem dX1_makeTriangles_84 : decode cX1_makeTriangles 84 = .ok (.iconst 1, 1) := by decide +kernel
theorem dX1_makeTriangles_85 : decode cX1_makeTriangles 85 = .ok (.iadd, 1) := by decide +kernel
theorem dX1_makeTriangles_86 : decode cX1_makeTriangles 86 = .ok (.putfield 64, 3) := by decide +kernel
theorem dX1_makeTriangles_89 : decode cX1_makeTriangles 89 = .ok (.iinc 3 1, 3) := by decide +kernel
theorem dX1_makeTriangles_92 : decode cX1_makeTriangles 92 = .ok (.goto (-61), 3) := by decide +kernel
theorem dX1_makeTriangles_95 : decode cX1_makeTriangles 95 = .ok (.iinc 2 1, 3) := by decide +kernel
theorem dX1_makeTriangles_98 : decode cX1_makeTriangles 98 = .ok (.goto (-79), 3) := by decide +kernel
theorem dX1_makeTriangles_101 : decode cX1_makeTriangles 101 = .ok (.iinc 1 1, 3) := by decide +kernel
theorem dX1_makeTriangles_104 : decode cX1_makeTriangles 104 = .ok (.goto (-97), 3) := by decide +kernel
theorem dX1_makeTriangles_107 : decode cX1_makeTriangles 107 = .ok (.return_, 1) := by decide +kernel
theorem dX1_isOf_0 : decode cX1_isOf 0 = .ok (.aload_n 0, 1) := by decide +kernel
theorem dX1_isOf_1 : decode cX1_isOf 1 = .ok (.getfield 16, 3) := by decide +kernel
theorem dX1_isOf_4 : decode cX1_isOf 4 = .ok (.iload_n 1, 1) := by decide +kernel
theorem dX1_isOf_5 : decode cX1_isOf 5 = .ok (.iaload, 1) := by decide +kernel
theorem dX1_isOf_6 : decode cX1_isOf 6 = .ok (.iload_n 2, 1) := by decide +kernel
theorem dX1_isOf_7 : decode cX1_isOf 7 = .ok (.if_icmp .eq 23, 3) := by decide +kernel
theorem dX1_isOf_10 : decode cX1_isOf 10 = .ok (.aload_n 0, 1) := by decide +kernel
theorem dX1_isOf_11 : decode cX1_isOf 11 = .ok (.getfield 20, 3) := by decide +kernel
theorem dX1_isOf_14 : decode cX1_isOf 14 = .ok (.iload_n 1, 1) := by decide +kernel
theorem dX1_isOf_15 : decode cX1_isOf 15 = .ok (.iaload, 1) := by decide +kernel
theorem dX1_isOf_16 : decode cX1_isOf 16 = .ok (.iload_n 2, 1) := by decide +kernel
theorem dX1_isOf_17 : decode cX1_isOf 17 = .ok (.if_icmp .eq 13, 3) := by decide +kernel
theorem dX1_isOf_20 : decode cX1_isOf 20 = .ok (.aload_n 0, 1) := by decide +kernel
theorem dX1_isOf_21 : decode cX1_isOf 21 = .ok (.getfield 23, 3) := by decide +kernel
theorem dX1_isOf_24 : decode cX1_isOf 24 = .ok (.iload_n 1, 1) := by decide +kernel
theorem dX1_isOf_25 : decode cX1_isOf 25 = .ok (.iaload, 1) := by decide +kernel
theorem dX1_isOf_26 : decode cX1_isOf 26 = .ok (.iload_n 2, 1) := by decide +kernel
theorem dX1_isOf_27 : decode cX1_isOf 27 = .ok (.if_icmp .ne 7, 3) := by decide +kernel
theorem dX1_isOf_30 : decode cX1_isOf 30 = .ok (.iconst 1, 1) := by decide +kernel
theorem dX1_isOf_31 : decode cX1_isOf 31 = .ok (.goto 4, 3) := by decide +kernel
theorem dX1_isOf_34 : decode cX1_isOf 34 = .ok (.iconst 0, 1) := by decide +kernel
theorem dX1_isOf_35 : decode cX1_isOf 35 = .ok (.ireturn, 1) := by decide +kernel
set_option maxRecDepth 20000 in
theorem ggX1_edge_X1_isOf : GoodIn wsX1_edge wsX1_isOf := goodIn_r _ [7, 8, 9, 10, 25, 26, 27, 28, 29, 30, 31, 32, 33, 34, 35, 36, 37, 38] (by decide +kernel) (by decide +kernel)
set_option maxRecDepth 20000 in
theorem gX1_edge_X1_isOf : GoodIn wsX1_edge (wsV RX1 71 RX1 yX1_isOf wsX1_isOf) := goodIn_app (goodIn_of _ (by decide +kernel)) ggX1_edge_X1_isOf
set_option maxRecDepth 20000 in
theorem ggX1_edge_X1_between : GoodIn wsX1_edge wsX1_between := goodIn_r _ [14, 15, 16, 17, 18, 19, 6, 20, 21, 22, 23, 24, 25, 26, 27, 28, 29, 30, 31, 32, 33, 34, 35, 36, 37, 38] (by decide +kernel) (by decide +kernel)
set_option maxRecDepth 20000 in
theorem gX1_edge_X1_between : GoodIn wsX1_edge (wsV RX1 75 RX1 yX1_between wsX1_between) := goodIn_app (goodIn_of _ (by decide +kernel)) ggX1_edge_X1_between
theorem dX1_edge_0 : decode cX1_edge 0 = .ok (.iload_n 1, 1) := by decide +kernel
theorem dX1_edge_1 : decode cX1_edge 1 = .ok (.iload_n 2, 1) := by decide +kernel
theorem dX1_edge_2 : decode cX1_edge 2 = .ok (.if_icmp .ne 5, 3) := by decide +kernel
theorem dX1_edge_5 : decode cX1_edge 5 = .ok (.iconst 0, 1) := by decide +kernel
theorem dX1_edge_6 : decode cX1_edge 6 = .ok (.ireturn, 1) := by decide +kernel
theorem dX1_edge_7 : decode cX1_edge 7 = .ok (.iconst 0, 1) := by decide +kernel
theorem dX1_edge_8 : decode cX1_edge 8 = .ok (.istore_n 3, 1) := by decide +kernel
theorem dX1_edge_9 : decode cX1_edge 9 = .ok (.iconst 0, 1) := by decide +kernel
theorem dX1_edge_10 : decode cX1_edge 10 = .ok (.istore 4, 2) := by decide +kernel
theorem dX1_edge_12 : decode cX1_edge 12 = .ok (.iload 4, 2) := by decide +kernel
theorem dX1_edge_14 : decode cX1_edge 14 = .ok (.aload_n 0, 1) := by decide +kernel
theorem dX1_edge_15 : decode cX1_edge 15 = .ok (.getfield 64, 3) := by decide +kernel
theorem dX1_edge_18 : decode cX1_edge 18 = .ok (.if_icmp .ge 39, 3) := by decide +kernel
theorem dX1_edge_21 : decode cX1_edge 21 = .ok (.iload_n 3, 1) := by decide +kernel
theorem dX1_edge_22 : decode cX1_edge 22 = .ok (.ifCond .ne 23, 3) := by decide +kernel
theorem dX1_edge_25 : decode cX1_edge 25 = .ok (.aload_n 0, 1) := by decide +kernel
theorem dX1_edge_26 : decode cX1_edge 26 = .ok (.iload 4, 2) := by decide +kernel
theorem dX1_edge_28 : decode cX1_edge 28 = .ok (.iload_n 1, 1) := by decide +kernel
theorem dX1_edge_29 : decode cX1_edge 29 = .ok (.invokevirtual 71, 3) := by decide +kernel
theorem dX1_edge_32 : decode cX1_edge 32 = .ok (.ifCond .eq 17, 3) := by decide +kernel
theorem dX1_edge_35 : decode cX1_edge 35 = .ok (.aload_n 0, 1) := by decide +kernel
theorem dX1_edge_36 : decode cX1_edge 36 = .ok (.iload 4, 2) := by decide +kernel
theorem dX1_edge_38 : decode cX1_edge 38 = .ok (.iload_n 2, 1) := by decide +kernel
theorem dX1_edge_39 : decode cX1_edge 39 = .ok (.invokevirtual 71, 3) := by decide +kernel
theorem dX1_edge_42 : decode cX1_edge 42 = .ok (.ifCond .eq 7, 3) := by decide +kernel
theorem dX1_edge_45 : decode cX1_edge 45 = .ok (.iconst 1, 1) := by decide +kernel
theorem dX1_edge_46 : decode cX1_edge 46 = .ok (.goto 4, 3) := by decide +kernel
theorem dX1_edge_49 : decode cX1_edge 49 = .ok (.iconst 0, 1) := by decide +kernel
theorem dX1_edge_50 : decode cX1_edge 50 = .ok (.istore_n 3, 1) := by decide +kernel
theorem dX1_edge_51 : decode cX1_edge 51 = .ok (.iinc 4 1, 3) := by decide +kernel
theorem dX1_edge_54 : decode cX1_edge 54 = .ok (.goto (-42), 3) := by decide +kernel
theorem dX1_edge_57 : decode cX1_edge 57 = .ok (.aload_n 0, 1) := by decide +kernel
theorem dX1_edge_58 : decode cX1_edge 58 = .ok (.getfield 64, 3) := by decide +kernel
theorem dX1_edge_61 : decode cX1_edge 61 = .ok (.ifCond .le 5, 3) := by decide +kernel
theorem dX1_edge_64 : decode cX1_edge 64 = .ok (.iload_n 3, 1) := by decide +kernel
theorem dX1_edge_65 : decode cX1_edge 65 = .ok (.ireturn, 1) := by decide +kernel
theorem dX1_edge_66 : decode cX1_edge 66 = .ok (.iconst 1, 1) := by decide +kernel
theorem dX1_edge_67 : decode cX1_edge 67 = .ok (.istore 4, 2) := by decide +kernel
theorem dX1_edge_69 : decode cX1_edge 69 = .ok (.iconst 0, 1) := by decide +kernel
theorem dX1_edge_70 : decode cX1_edge 70 = .ok (.istore 5, 2) := by decide +kernel
theorem dX1_edge_72 : decode cX1_edge 72 = .ok (.iload 5, 2) := by decide +kernel
theorem dX1_edge_74 : decode cX1_edge 74 = .ok (.aload_n 0, 1) := by decide +kernel
theorem dX1_edge_75 : decode cX1_edge 75 = .ok (.getfield 56, 3) := by decide +kernel
theorem dX1_edge_78 : decode cX1_edge 78 = .ok (.if_icmp .ge 32, 3) := by decide +kernel
theorem dX1_edge_81 : decode cX1_edge 81 = .ok (.iload 4, 2) := by decide +kernel
theorem dX1_edge_83 : decode cX1_edge 83 = .ok (.ifCond .eq 18, 3) := by decide +kernel
theorem dX1_edge_86 : decode cX1_edge 86 = .ok (.aload_n 0, 1) := by decide +kernel
theorem dX1_edge_87 : decode cX1_edge 87 = .ok (.iload 5, 2) := by decide +kernel
theorem dX1_edge_89 : decode cX1_edge 89 = .ok (.iload_n 1, 1) := by decide +kernel
theorem dX1_edge_90 : decode cX1_edge 90 = .ok (.iload_n 2, 1) := by decide +kernel
theorem dX1_edge_91 : decode cX1_edge 91 = .ok (.invokevirtual 75, 3) := by decide +kernel
theorem dX1_edge_94 : decode cX1_edge 94 = .ok (.ifCond .ne 7, 3) := by decide +kernel
theorem dX1_edge_97 : decode cX1_edge 97 = .ok (.iconst 1, 1) := by decide +kernel
theorem dX1_edge_98 : decode cX1_edge 98 = .ok (.goto 4, 3) := by decide +kernel
theorem dX1_edge_101 : decode cX1_edge 101 = .ok (.iconst 0, 1) := by decide +kernel
theorem dX1_edge_102 : decode cX1_edge 102 = .ok (.istore 4, 2) := by decide +kernel
theorem dX1_edge_104 : decode cX1_edge 104 = .ok (.iinc 5 1, 3) := by decide +kernel
theorem dX1_edge_107 : decode cX1_edge 107 = .ok (.goto (-35), 3) := by decide +kernel
theorem dX1_edge_110 : decode cX1_edge 110 = .ok (.iload 4, 2) := by decide +kernel
theorem dX1_edge_112 : decode cX1_edge 112 = .ok (.ireturn, 1) := by decide +kernel
set_option maxRecDepth 20000 in
theorem ggX1_within_X1_turn : GoodIn wsX1_within wsX1_turn := goodIn_r _ [5, 6, 7, 8, 9, 10, 4, 11, 12, 13, 14, 15, 16, 17, 18, 19, 20, 21, 22, 23, 24, 25] (by decide +kernel) (by decide +kernel)
set_option maxRecDepth 20000 in
theorem gX1_within_X1_turn : GoodIn wsX1_within (wsV RX1 52 RX1 yX1_turn wsX1_turn) := goodIn_app (goodIn_of _ (by decide +kernel)) ggX1_within_X1_turn
theorem dX1_within_0 : decode cX1_within 0 = .ok (.aload_n 0, 1) := by decide +kernel
theorem dX1_within_1 : decode cX1_within 1 = .ok (.iload_n 2, 1) := by decide +kernel
theorem dX1_within_2 : decode cX1_within 2 = .ok (.iload_n 3, 1) := by decide +kernel
theorem dX1_within_3 : decode cX1_within 3 = .ok (.iload 4, 2) := by decide +kernel
theorem dX1_within_5 : decode cX1_within 5 = .ok (.invokevirtual 52, 3) := by decide +kernel
theorem dX1_within_8 : decode cX1_within 8 = .ok (.istore 5, 2) := by decide +kernel
theorem dX1_within_10 : decode cX1_within 10 = .ok (.iload 5, 2) := by decide +kernel
theorem dX1_within_12 : decode cX1_within 12 = .ok (.ifCond .eq 48, 3) := by decide +kernel
theorem dX1_within_15 : decode cX1_within 15 = .ok (.aload_n 0, 1) := by decide +kernel
theorem dX1_within_16 : decode cX1_within 16 = .ok (.iload_n 2, 1) := by decide +kernel
theorem dX1_within_17 : decode cX1_within 17 = .ok (.iload_n 3, 1) := by decide +kernel
theorem dX1_within_18 : decode cX1_within 18 = .ok (.iload_n 1, 1) := by decide +kernel
theorem dX1_within_19 : decode cX1_within 19 = .ok (.invokevirtual 52, 3) := by decide +kernel
theorem dX1_within_22 : decode cX1_within 22 = .ok (.iload 5, 2) := by decide +kernel
theorem dX1_within_24 : decode cX1_within 24 = .ok (.imul, 1) := by decide +kernel
theorem dX1_within_25 : decode cX1_within 25 = .ok (.ifCond .lt 35, 3) := by decide +kernel
theorem dX1_within_28 : decode cX1_within 28 = .ok (.aload_n 0, 1) := by decide +kernel
theorem dX1_within_29 : decode cX1_within 29 = .ok (.iload_n 3, 1) := by decide +kernel
theorem dX1_within_30 : decode cX1_within 30 = .ok (.iload 4, 2) := by decide +kernel
theorem dX1_within_32 : decode cX1_within 32 = .ok (.iload_n 1, 1) := by decide +kernel
theorem dX1_within_33 : decode cX1_within 33 = .ok (.invokevirtual 52, 3) := by decide +kernel
theorem dX1_within_36 : decode cX1_within 36 = .ok (.iload 5, 2) := by decide +kernel
theorem dX1_within_38 : decode cX1_within 38 = .ok (.imul, 1) := by decide +kernel
theorem dX1_within_39 : decode cX1_within 39 = .ok (.ifCond .lt 21, 3) := by decide +kernel
theorem dX1_within_42 : decode cX1_within 42 = .ok (.aload_n 0, 1) := by decide +kernel
theorem dX1_within_43 : decode cX1_within 43 = .ok (.iload 4, 2) := by decide +kernel
theorem dX1_within_45 : decode cX1_within 45 = .ok (.iload_n 2, 1) := by decide +kernel
theorem dX1_within_46 : decode cX1_within 46 = .ok (.iload_n 1, 1) := by decide +kernel
theorem dX1_within_47 : decode cX1_within 47 = .ok (.invokevirtual 52, 3) := by decide +kernel
theorem dX1_within_50 : decode cX1_within 50 = .ok (.iload 5, 2) := by decide +kernel
theorem dX1_within_52 : decode cX1_within 52 = .ok (.imul, 1) := by decide +kernel
theorem dX1_within_53 : decode cX1_within 53 = .ok (.ifCond .lt 7, 3) := by decide +kernel
theorem dX1_within_56 : decode cX1_within 56 = .ok (.iconst 1, 1) := by decide +kernel
theorem dX1_within_57 : decode cX1_within 57 = .ok (.goto 4, 3) := by decide +kernel
theorem dX1_within_60 : decode cX1_within 60 = .ok (.iconst 0, 1) := by decide +kernel
theorem dX1_within_61 : decode cX1_within 61 = .ok (.ireturn, 1) := by decide +kernel
set_option maxRecDepth 20000 in
theorem ggX1_isCorner_X1_between : GoodIn wsX1_isCorner wsX1_between := goodIn_r _ [6, 7, 8, 9, 10, 11, 5, 12, 13, 14, 15, 16, 21, 22, 23, 24, 25, 26, 27, 28, 29, 30, 31, 32, 33, 34] (by decide +kernel) (by decide +kernel)
set_option maxRecDepth 20000 in
theorem gX1_isCorner_X1_between : GoodIn wsX1_isCorner (wsV RX1 75 RX1 yX1_between wsX1_between) := goodIn_app (goodIn_of _ (by decide +kernel)) ggX1_isCorner_X1_between
set_option maxRecDepth 20000 in
theorem ggX1_isCorner_X1_within : GoodIn wsX1_isCorner wsX1_within := goodIn_r _ [20, 9, 10, 11, 5, 12, 7, 8, 13, 14, 15, 16, 21, 22, 23, 24, 25, 26, 27, 28, 29, 30, 31, 32, 33, 34] (by decide +kernel) (by decide +kernel)
set_option maxRecDepth 20000 in
theorem gX1_isCorner_X1_within : GoodIn wsX1_isCorner (wsV RX1 78 RX1 yX1_within wsX1_within) := goodIn_app (goodIn_of _ (by decide +kernel)) ggX1_isCorner_X1_within
theorem dX1_isCorner_0 : decode cX1_isCorner 0 = .ok (.iconst 1, 1) := by decide +kernel
theorem dX1_isCorner_1 : decode cX1_isCorner 1 = .ok (.istore_n 2, 1) := by decide +kernel
theorem dX1_isCorner_2 : decode cX1_isCorner 2 = .ok (.iconst 0, 1) := by decide +kernel
theorem dX1_isCorner_3 : decode cX1_isCorner 3 = .ok (.istore_n 3, 1) := by decide +kernel
theorem dX1_isCorner_4 : decode cX1_isCorner 4 = .ok (.iload_n 3, 1) := by decide +kernel
theorem dX1_isCorner_5 : decode cX1_isCorner 5 = .ok (.aload_n 0, 1) := by decide +kernel
theorem dX1_isCorner_6 : decode cX1_isCorner 6 = .ok (.getfield 56, 3) := by decide +kernel
theorem dX1_isCorner_9 : decode cX1_isCorner 9 = .ok (.if_icmp .ge 111, 3) := by decide +kernel
theorem dX1_isCorner_12 : decode cX1_isCorner 12 = .ok (.iload_n 3, 1) := by decide +kernel
theorem dX1_isCorner_13 : decode cX1_isCorner 13 = .ok (.iconst 1, 1) := by decide +kernel
theorem dX1_isCorner_14 : decode cX1_isCorner 14 = .ok (.iadd, 1) := by decide +kernel
theorem dX1_isCorner_15 : decode cX1_isCorner 15 = .ok (.istore 4, 2) := by decide +kernel
theorem dX1_isCorner_17 : decode cX1_isCorner 17 = .ok (.iload 4, 2) := by decide +kernel
theorem dX1_isCorner_19 : decode cX1_isCorner 19 = .ok (.aload_n 0, 1) := by decide +kernel
theorem dX1_isCorner_20 : decode cX1_isCorner 20 = .ok (.getfield 56, 3) := by decide +kernel
theorem dX1_isCorner_23 : decode cX1_isCorner 23 = .ok (.if_icmp .ge 91, 3) := by decide +kernel
theorem dX1_isCorner_26 : decode cX1_isCorner 26 = .ok (.iload_n 2, 1) := by decide +kernel
theorem dX1_isCorner_27 : decode cX1_isCorner 27 = .ok (.ifCond .eq 18, 3) := by decide +kernel
theorem dX1_isCorner_30 : decode cX1_isCorner 30 = .ok (.aload_n 0, 1) := by decide +kernel
theorem dX1_isCorner_31 : decode cX1_isCorner 31 = .ok (.iload_n 1, 1) := by decide +kernel
theorem dX1_isCorner_32 : decode cX1_isCorner 32 = .ok (.iload_n 3, 1) := by decide +kernel
theorem dX1_isCorner_33 : decode cX1_isCorner 33 = .ok (.iload 4, 2) := by decide +kernel
theorem dX1_isCorner_35 : decode cX1_isCorner 35 = .ok (.invokevirtual 75, 3) := by decide +kernel
theorem dX1_isCorner_38 : decode cX1_isCorner 38 = .ok (.ifCond .ne 7, 3) := by decide +kernel
theorem dX1_isCorner_41 : decode cX1_isCorner 41 = .ok (.iconst 1, 1) := by decide +kernel
theorem dX1_isCorner_42 : decode cX1_isCorner 42 = .ok (.goto 4, 3) := by decide +kernel
theorem dX1_isCorner_45 : decode cX1_isCorner 45 = .ok (.iconst 0, 1) := by decide +kernel
theorem dX1_isCorner_46 : decode cX1_isCorner 46 = .ok (.istore_n 2, 1) := by decide +kernel
theorem dX1_isCorner_47 : decode cX1_isCorner 47 = .ok (.iload 4, 2) := by decide +kernel
theorem dX1_isCorner_49 : decode cX1_isCorner 49 = .ok (.iconst 1, 1) := by decide +kernel
theorem dX1_isCorner_50 : decode cX1_isCorner 50 = .ok (.iadd, 1) := by decide +kernel
theorem dX1_isCorner_51 : decode cX1_isCorner 51 = .ok (.istore 5, 2) := by decide +kernel
theorem dX1_isCorner_53 : decode cX1_isCorner 53 = .ok (.iload 5, 2) := by decide +kernel
theorem dX1_isCorner_55 : decode cX1_isCorner 55 = .ok (.aload_n 0, 1) := by decide +kernel
theorem dX1_isCorner_56 : decode cX1_isCorner 56 = .ok (.getfield 56, 3) := by decide +kernel
theorem dX1_isCorner_59 : decode cX1_isCorner 59 = .ok (.if_icmp .ge 49, 3) := by decide +kernel
theorem dX1_isCorner_62 : decode cX1_isCorner 62 = .ok (.iload_n 2, 1) := by decide +kernel
theorem dX1_isCorner_63 : decode cX1_isCorner 63 = .ok (.ifCond .eq 45, 3) := by decide +kernel
theorem dX1_isCorner_66 : decode cX1_isCorner 66 = .ok (.iload_n 3, 1) := by decide +kernel
theorem dX1_isCorner_67 : decode cX1_isCorner 67 = .ok (.iload_n 1, 1) := by decide +kernel
theorem dX1_isCorner_68 : decode cX1_isCorner 68 = .ok (.if_icmp .eq 40, 3) := by decide +kernel
theorem dX1_isCorner_71 : decode cX1_isCorner 71 = .ok (.iload 4, 2) := by decide +kernel
theorem dX1_isCorner_73 : decode cX1_isCorner 73 = .ok (.iload_n 1, 1) := by decide +kernel
theorem dX1_isCorner_74 : decode cX1_isCorner 74 = .ok (.if_icmp .eq 34, 3) := by decide +kernel
theorem dX1_isCorner_77 : decode cX1_isCorner 77 = .ok (.iload 5, 2) := by decide +kernel
theorem dX1_isCorner_79 : decode cX1_isCorner 79 = .ok (.iload_n 1, 1) := by decide +kernel
theorem dX1_isCorner_80 : decode cX1_isCorner 80 = .ok (.if_icmp .eq 16, 3) := by decide +kernel
theorem dX1_isCorner_83 : decode cX1_isCorner 83 = .ok (.aload_n 0, 1) := by decide +kernel
theorem dX1_isCorner_84 : decode cX1_isCorner 84 = .ok (.iload_n 1, 1) := by decide +kernel
theorem dX1_isCorner_85 : decode cX1_isCorner 85 = .ok (.iload_n 3, 1) := by decide +kernel
theorem dX1_isCorner_86 : decode cX1_isCorner 86 = .ok (.iload 4, 2) := by decide +kernel
theorem dX1_isCorner_88 : decode cX1_isCorner 88 = .ok (.iload 5, 2) := by decide +kernel
theorem dX1_isCorner_90 : decode cX1_isCorner 90 = .ok (.invokevirtual 78, 3) := by decide +kernel
theorem dX1_isCorner_93 : decode cX1_isCorner 93 = .ok (.ifCond .ne 7, 3) := by decide +kernel
theorem dX1_isCorner_96 : decode cX1_isCorner 96 = .ok (.iconst 1, 1) := by decide +kernel
theorem dX1_isCorner_97 : decode cX1_isCorner 97 = .ok (.goto 4, 3) := by decide +kernel
theorem dX1_isCorner_100 : decode cX1_isCorner 100 = .ok (.iconst 0, 1) := by decide +kernel
theorem dX1_isCorner_101 : decode cX1_isCorner 101 = .ok (.istore_n 2, 1) := by decide +kernel
theorem dX1_isCorner_102 : decode cX1_isCorner 102 = .ok (.iinc 5 1, 3) := by decide +kernel
theorem dX1_isCorner_105 : decode cX1_isCorner 105 = .ok (.goto (-52), 3) := by decide +kernel
theorem dX1_isCorner_108 : decode cX1_isCorner 108 = .ok (.iinc 4 1, 3) := by decide +kernel
theorem dX1_isCorner_111 : decode cX1_isCorner 111 = .ok (.goto (-94), 3) := by decide +kernel
theorem dX1_isCorner_114 : decode cX1_isCorner 114 = .ok (.iinc 3 1, 3) := by decide +kernel
theorem dX1_isCorner_117 : decode cX1_isCorner 117 = .ok (.goto (-113), 3) := by decide +kernel
theorem dX1_isCorner_120 : decode cX1_isCorner 120 = .ok (.iload_n 2, 1) := by decide +kernel
theorem dX1_isCorner_121 : decode cX1_isCorner 121 = .ok (.ireturn, 1) := by decide +kernel
set_option maxRecDepth 20000 in
theorem ggX1_following_X1_isCorner : GoodIn wsX1_following wsX1_isCorner := goodIn_r _ [6, 1, 7, 8, 9, 5, 10, 11, 12, 13, 14, 15, 16, 17, 18, 19, 20, 21, 22, 23, 24, 25, 26, 27, 28, 29, 30, 31, 32, 33, 34, 35, 36, 37, 38] (by decide +kernel) (by decide +kernel)
set_option maxRecDepth 20000 in
theorem gX1_following_X1_isCorner : GoodIn wsX1_following (wsV RX1 82 RX1 yX1_isCorner wsX1_isCorner) := goodIn_app (goodIn_of _ (by decide +kernel)) ggX1_following_X1_isCorner
set_option maxRecDepth 20000 in
theorem ggX1_following_X1_turn : GoodIn wsX1_following wsX1_turn := goodIn_r _ [16, 11, 12, 17, 18, 19, 5, 20, 25, 26, 27, 28, 29, 30, 31, 32, 33, 34, 35, 36, 37, 38] (by decide +kernel) (by decide +kernel)
set_option maxRecDepth 20000 in
theorem gX1_following_X1_turn : GoodIn wsX1_following (wsV RX1 52 RX1 yX1_turn wsX1_turn) := goodIn_app (goodIn_of _ (by decide +kernel)) ggX1_following_X1_turn
theorem dX1_following_0 : decode cX1_following 0 = .ok (.iconst (-1), 1) := by decide +kernel
theorem dX1_following_1 : decode cX1_following 1 = .ok (.istore_n 2, 1) := by decide +kernel
theorem dX1_following_2 : decode cX1_following 2 = .ok (.iconst 0, 1) := by decide +kernel
theorem dX1_following_3 : decode cX1_following 3 = .ok (.istore_n 3, 1) := by decide +kernel
theorem dX1_following_4 : decode cX1_following 4 = .ok (.iload_n 3, 1) := by decide +kernel
theorem dX1_following_5 : decode cX1_following 5 = .ok (.aload_n 0, 1) := by decide +kernel
theorem dX1_following_6 : decode cX1_following 6 = .ok (.getfield 56, 3) := by decide +kernel
theorem dX1_following_9 : decode cX1_following 9 = .ok (.if_icmp .ge 97, 3) := by decide +kernel
theorem dX1_following_12 : decode cX1_following 12 = .ok (.iload_n 3, 1) := by decide +kernel
theorem dX1_following_13 : decode cX1_following 13 = .ok (.iload_n 1, 1) := by decide +kernel
theorem dX1_following_14 : decode cX1_following 14 = .ok (.if_icmp .eq 15, 3) := by decide +kernel
theorem dX1_following_17 : decode cX1_following 17 = .ok (.aload_n 0, 1) := by decide +kernel
theorem dX1_following_18 : decode cX1_following 18 = .ok (.iload_n 3, 1) := by decide +kernel
theorem dX1_following_19 : decode cX1_following 19 = .ok (.invokevirtual 82, 3) := by decide +kernel
theorem dX1_following_22 : decode cX1_following 22 = .ok (.ifCond .eq 7, 3) := by decide +kernel
theorem dX1_following_25 : decode cX1_following 25 = .ok (.iconst 1, 1) := by decide +kernel
theorem dX1_following_26 : decode cX1_following 26 = .ok (.goto 4, 3) := by decide +kernel
theorem dX1_following_29 : decode cX1_following 29 = .ok (.iconst 0, 1) := by decide +kernel
theorem dX1_following_30 : decode cX1_following 30 = .ok (.istore 4, 2) := by decide +kernel
theorem dX1_following_32 : decode cX1_following 32 = .ok (.iconst 0, 1) := by decide +kernel
theorem dX1_following_33 : decode cX1_following 33 = .ok (.istore 5, 2) := by decide +kernel
theorem dX1_following_35 : decode cX1_following 35 = .ok (.iload 5, 2) := by decide +kernel
theorem dX1_following_37 : decode cX1_following 37 = .ok (.aload_n 0, 1) := by decide +kernel
theorem dX1_following_38 : decode cX1_following 38 = .ok (.getfield 56, 3) := by decide +kernel
theorem dX1_following_41 : decode cX1_following 41 = .ok (.if_icmp .ge 44, 3) := by decide +kernel
theorem dX1_following_44 : decode cX1_following 44 = .ok (.iload 4, 2) := by decide +kernel
theorem dX1_following_46 : decode cX1_following 46 = .ok (.ifCond .eq 39, 3) := by decide +kernel
theorem dX1_following_49 : decode cX1_following 49 = .ok (.iload 5, 2) := by decide +kernel
theorem dX1_following_51 : decode cX1_following 51 = .ok (.iload_n 1, 1) := by decide +kernel
theorem dX1_following_52 : decode cX1_following 52 = .ok (.if_icmp .eq 20, 3) := by decide +kernel
theorem dX1_following_55 : decode cX1_following 55 = .ok (.iload 5, 2) := by decide +kernel
theorem dX1_following_57 : decode cX1_following 57 = .ok (.iload_n 3, 1) := by decide +kernel
theorem dX1_following_58 : decode cX1_following 58 = .ok (.if_icmp .eq 14, 3) := by decide +kernel
theorem dX1_following_61 : decode cX1_following 61 = .ok (.aload_n 0, 1) := by decide +kernel
theorem dX1_following_62 : decode cX1_following 62 = .ok (.iload_n 1, 1) := by decide +kernel
theorem dX1_following_63 : decode cX1_following 63 = .ok (.iload_n 3, 1) := by decide +kernel
theorem dX1_following_64 : decode cX1_following 64 = .ok (.iload 5, 2) := by decide +kernel
theorem dX1_following_66 : decode cX1_following 66 = .ok (.invokevirtual 52, 3) := by decide +kernel
theorem dX1_following_69 : decode cX1_following 69 = .ok (.ifCond .lt 7, 3) := by decide +kernel
theorem dX1_following_72 : decode cX1_following 72 = .ok (.iconst 1, 1) := by decide +kernel
theorem dX1_following_73 : decode cX1_following 73 = .ok (.goto 4, 3) := by decide +kernel
theorem dX1_following_76 : decode cX1_following 76 = .ok (.iconst 0, 1) := by decide +kernel
theorem dX1_following_77 : decode cX1_following 77 = .ok (.istore 4, 2) := by decide +kernel
theorem dX1_following_79 : decode cX1_following 79 = .ok (.iinc 5 1, 3) := by decide +kernel
theorem dX1_following_82 : decode cX1_following 82 = .ok (.goto (-47), 3) := by decide +kernel
theorem dX1_following_85 : decode cX1_following 85 = .ok (.iload 4, 2) := by decide +kernel
theorem dX1_following_87 : decode cX1_following 87 = .ok (.ifCond .eq 11, 3) := by decide +kernel
theorem dX1_following_90 : decode cX1_following 90 = .ok (.iload_n 2, 1) := by decide +kernel
theorem dX1_following_91 : decode cX1_following 91 = .ok (.ifCond .ge 7, 3) := by decide +kernel
theorem dX1_following_94 : decode cX1_following 94 = .ok (.iload_n 3, 1) := by decide +kernel
theorem dX1_following_95 : decode cX1_following 95 = .ok (.goto 4, 3) := by decide +kernel
theorem dX1_following_98 : decode cX1_following 98 = .ok (.iload_n 2, 1) := by decide +kernel
theorem dX1_following_99 : decode cX1_following 99 = .ok (.istore_n 2, 1) := by decide +kernel
theorem dX1_following_100 : decode cX1_following 100 = .ok (.iinc 3 1, 3) := by decide +kernel
theorem dX1_following_103 : decode cX1_following 103 = .ok (.goto (-99), 3) := by decide +kernel
theorem dX1_following_106 : decode cX1_following 106 = .ok (.iload_n 2, 1) := by decide +kernel
theorem dX1_following_107 : decode cX1_following 107 = .ok (.ireturn, 1) := by decide +kernel
set_option maxRecDepth 20000 in
theorem ggX1_makeCorners_X1_isCorner : GoodIn wsX1_makeCorners wsX1_isCorner := goodIn_r _ [7, 8, 9, 10, 11, 6, 12, 13, 14, 15, 16, 17, 18, 19, 20, 21, 22, 23, 24, 25, 26, 31, 32, 33, 34, 35, 36, 37, 38, 39, 40, 41, 42, 43, 44] (by decide +kernel) (by decide +kernel)
set_option maxRecDepth 20000 in
theorem gX1_makeCorners_X1_isCorner : GoodIn wsX1_makeCorners (wsV RX1 82 RX1 yX1_isCorner wsX1_isCorner) := goodIn_app (goodIn_of _ (by decide +kernel)) ggX1_makeCorners_X1_isCorner
set_option maxRecDepth 20000 in
theorem ggX1_makeCorners_X1_following : GoodIn wsX1_makeCorners wsX1_following := goodIn_r _ [30, 8, 3, 4, 5, 6, 7, 9, 10, 11, 12, 13, 14, 15, 16, 17, 18, 19, 20, 21, 22, 23, 24, 25, 26, 31, 32, 33, 34, 35, 36, 37, 38, 39, 40, 41, 42, 43, 44] (by decide +kernel) (by decide +kernel)
set_option maxRecDepth 20000 in
theorem gX1_makeCorners_X1_following : GoodIn wsX1_makeCorners (wsV RX1 89 RX1 yX1_following wsX1_following) := goodIn_app (goodIn_of _ (by decide +kernel)) ggX1_makeCorners_X1_following
theorem dX1_makeCorners_0 : decode cX1_makeCorners 0 = .ok (.aload_n 0, 1) := by decide +kernel
theorem dX1_makeCorners_1 : decode cX1_makeCorners 1 = .ok (.iconst 0, 1) := by decide +kernel
theorem dX1_makeCorners_2 : decode cX1_makeCorners 2 = .ok (.putfield 86, 3) := by decide +kernel
theorem dX1_makeCorners_5 : decode cX1_makeCorners 5 = .ok (.iconst 0, 1) := by decide +kernel
theorem dX1_makeCorners_6 : decode cX1_makeCorners 6 = .ok (.istore_n 1, 1) := by decide +kernel
theorem dX1_makeCorners_7 : decode cX1_makeCorners 7 = .ok (.aload_n 0, 1) := by decide +kernel
theorem dX1_makeCorners_8 : decode cX1_makeCorners 8 = .ok (.iload_n 1, 1) := by decide +kernel
theorem dX1_makeCorners_9 : decode cX1_makeCorners 9 = .ok (.invokevirtual 82, 3) := by decide +kernel
theorem dX1_makeCorners_12 : decode cX1_makeCorners 12 = .ok (.ifCond .ne 9, 3) := by decide +kernel
theorem dX1_makeCorners_15 : decode cX1_makeCorners 15 = .ok (.iinc 1 1, 3) := by decide +kernel
theorem dX1_makeCorners_18 : decode cX1_makeCorners 18 = .ok (.goto (-11), 3) := by decide +kernel
theorem dX1_makeCorners_21 : decode cX1_makeCorners 21 = .ok (.iload_n 1, 1) := by decide +kernel
theorem dX1_makeCorners_22 : decode cX1_makeCorners 22 = .ok (.istore_n 2, 1) := by decide +kernel
theorem dX1_makeCorners_23 : decode cX1_makeCorners 23 = .ok (.aload_n 0, 1) := by decide +kernel
theorem dX1_makeCorners_24 : decode cX1_makeCorners 24 = .ok (.getfield 86, 3) := by decide +kernel
theorem dX1_makeCorners_27 : decode cX1_makeCorners 27 = .ok (.ifCond .eq 12, 3) := by decide +kernel
theorem dX1_makeCorners_30 : decode cX1_makeCorners 30 = .ok (.iload_n 2, 1) := by decide +kernel
theorem dX1_makeCorners_31 : decode cX1_makeCorners 31 = .ok (.iload_n 1, 1) := by decide +kernel
theorem dX1_makeCorners_32 : decode cX1_makeCorners 32 = .ok (.if_icmp .eq 36, 3) := by decide +kernel
theorem dX1_makeCorners_35 : decode cX1_makeCorners 35 = .ok (.iload_n 2, 1) := by decide +kernel
theorem dX1_makeCorners_36 : decode cX1_makeCorners 36 = .ok (.ifCond .lt 32, 3) := by decide +kernel
theorem dX1_makeCorners_39 : decode cX1_makeCorners 39 = .ok (.aload_n 0, 1) := by decide +kernel
theorem dX1_makeCorners_40 : decode cX1_makeCorners 40 = .ok (.getfield 26, 3) := by decide +kernel
theorem dX1_makeCorners_43 : decode cX1_makeCorners 43 = .ok (.aload_n 0, 1) := by decide +kernel
theorem dX1_makeCorners_44 : decode cX1_makeCorners 44 = .ok (.getfield 86, 3) := by decide +kernel
theorem dX1_makeCorners_47 : decode cX1_makeCorners 47 = .ok (.iload_n 2, 1) := by decide +kernel
theorem dX1_makeCorners_48 : decode cX1_makeCorners 48 = .ok (.iastore, 1) := by decide +kernel
theorem dX1_makeCorners_49 : decode cX1_makeCorners 49 = .ok (.aload_n 0, 1) := by decide +kernel
theorem dX1_makeCorners_50 : decode cX1_makeCorners 50 = .ok (.dup, 1) := by decide +kernel
theorem dX1_makeCorners_51 : decode cX1_makeCorners 51 = .ok (.getfield 86, 3) := by decide +kernel
theorem dX1_makeCorners_54 : decode cX1_makeCorners 54 = .ok (.iconst 1, 1) := by decide +kernel
theorem dX1_makeCorners_55 : decode cX1_makeCorners 55 = .ok (.iadd, 1) := by decide +kernel
theorem dX1_makeCorners_56 : decode cX1_makeCorners 56 = .ok (.putfield 86, 3) := by decide +kernel
theorem dX1_makeCorners_59 : decode cX1_makeCorners 59 = .ok (.aload_n 0, 1) := by decide +kernel
theorem dX1_makeCorners_60 : decode cX1_makeCorners 60 = .ok (.iload_n 2, 1) := by decide +kernel
theorem dX1_makeCorners_61 : decode cX1_makeCorners 61 = .ok (.invokevirtual 89, 3) := by decide +kernel
theorem dX1_makeCorners_64 : decode cX1_makeCorners 64 = .ok (.istore_n 2, 1) := by decide +kernel
theorem dX1_makeCorners_65 : decode cX1_makeCorners 65 = .ok (.goto (-42), 3) := by decide +kernel
theorem dX1_makeCorners_68 : decode cX1_makeCorners 68 = .ok (.return_, 1) := by decide +kernel
set_option maxRecDepth 20000 in
theorem ggX1_before_X1_apart : GoodIn wsX1_before wsX1_apart := goodIn_r _ [5, 6, 7, 8, 9, 10, 11, 12, 13, 14, 15, 16, 17, 18, 19, 20, 21] (by decide +kernel) (by decide +kernel)
set_option maxRecDepth 20000 in
theorem gX1_before_X1_apart : GoodIn wsX1_before (wsV RX1 42 RX1 yX1_apart wsX1_apart) := goodIn_app (goodIn_of _ (by decide +kernel)) ggX1_before_X1_apart
theorem dX1_before_0 : decode cX1_before 0 = .ok (.aload_n 0, 1) := by decide +kernel
theorem dX1_before_1 : decode cX1_before 1 = .ok (.iload_n 1, 1) := by decide +kernel
theorem dX1_before_2 : decode cX1_before 2 = .ok (.iload_n 2, 1) := by decide +kernel
theorem dX1_before_3 : decode cX1_before 3 = .ok (.invokevirtual 42, 3) := by decide +kernel
theorem dX1_before_6 : decode cX1_before 6 = .ok (.lstore 5, 2) := by decide +kernel
theorem dX1_before_8 : decode cX1_before 8 = .ok (.aload_n 0, 1) := by decide +kernel
theorem dX1_before_9 : decode cX1_before 9 = .ok (.iload_n 3, 1) := by decide +kernel
theorem dX1_before_10 : decode cX1_before 10 = .ok (.iload 4, 2) := by decide +kernel
theorem dX1_before_12 : decode cX1_before 12 = .ok (.invokevirtual 42, 3) := by decide +kernel
theorem dX1_before_15 : decode cX1_before 15 = .ok (.lstore 7, 2) := by decide +kernel
theorem dX1_before_17 : decode cX1_before 17 = .ok (.lload 5, 2) := by decide +kernel
theorem dX1_before_19 : decode cX1_before 19 = .ok (.lload 7, 2) := by decide +kernel
theorem dX1_before_21 : decode cX1_before 21 = .ok (.lcmp, 1) := by decide +kernel
theorem dX1_before_22 : decode cX1_before 22 = .ok (.ifCond .lt 27, 3) := by decide +kernel
theorem dX1_before_25 : decode cX1_before 25 = .ok (.lload 5, 2) := by decide +kernel
theorem dX1_before_27 : decode cX1_before 27 = .ok (.lload 7, 2) := by decide +kernel
theorem dX1_before_29 : decode cX1_before 29 = .ok (.lcmp, 1) := by decide +kernel
theorem dX1_before_30 : decode cX1_before 30 = .ok (.ifCond .ne 23, 3) := by decide +kernel
theorem dX1_before_33 : decode cX1_before 33 = .ok (.iload_n 1, 1) := by decide +kernel
theorem dX1_before_34 : decode cX1_before 34 = .ok (.iload_n 3, 1) := by decide +kernel
theorem dX1_before_35 : decode cX1_before 35 = .ok (.if_icmp .lt 14, 3) := by decide +kernel
theorem dX1_before_38 : decode cX1_before 38 = .ok (.iload_n 1, 1) := by decide +kernel
theorem dX1_before_39 : decode cX1_before 39 = .ok (.iload_n 3, 1) := by decide +kernel
theorem dX1_before_40 : decode cX1_before 40 = .ok (.if_icmp .ne 13, 3) := by decide +kernel
theorem dX1_before_43 : decode cX1_before 43 = .ok (.iload_n 2, 1) := by decide +kernel
theorem dX1_before_44 : decode cX1_before 44 = .ok (.iload 4, 2) := by decide +kernel
theorem dX1_before_46 : decode cX1_before 46 = .ok (.if_icmp .ge 7, 3) := by decide +kernel
theorem dX1_before_49 : decode cX1_before 49 = .ok (.iconst 1, 1) := by decide +kernel
theorem dX1_before_50 : decode cX1_before 50 = .ok (.goto 4, 3) := by decide +kernel
theorem dX1_before_53 : decode cX1_before 53 = .ok (.iconst 0, 1) := by decide +kernel
theorem dX1_before_54 : decode cX1_before 54 = .ok (.ireturn, 1) := by decide +kernel
set_option maxRecDepth 20000 in
theorem ggX1_makeTree_X1_before : GoodIn wsX1_makeTree wsX1_before := goodIn_r _ [11, 12, 13, 14, 10, 15, 16, 17, 42, 43, 44, 45, 46, 47, 48, 49, 50, 51, 52, 53, 54, 55] (by decide +kernel) (by decide +kernel)
set_option maxRecDepth 20000 in
theorem gX1_makeTree_X1_before : GoodIn wsX1_makeTree (wsV RX1 100 RX1 yX1_before wsX1_before) := goodIn_app (goodIn_of _ (by decide +kernel)) ggX1_makeTree_X1_before
set_option maxRecDepth 20000 in
theorem ggX1_makeTree_X1_edge : GoodIn wsX1_makeTree wsX1_edge := goodIn_r _ [21, 22, 3, 23, 24, 25, 10, 26, 27, 28, 29, 30, 31, 32, 33, 16, 17, 34, 35, 36, 37, 38, 39, 40, 41, 42, 43, 44, 45, 46, 47, 48, 49, 50, 51, 52, 53, 54, 55] (by decide +kernel) (by decide +kernel)
set_option maxRecDepth 20000 in
theorem gX1_makeTree_X1_edge : GoodIn wsX1_makeTree (wsV RX1 103 RX1 yX1_edge wsX1_edge) := goodIn_app (goodIn_of _ (by decide +kernel)) ggX1_makeTree_X1_edge
set_option maxRecDepth 20000 in
theorem ggX1_makeTree_X1_apart : GoodIn wsX1_makeTree wsX1_apart := goodIn_r _ [15, 16, 17, 42, 43, 44, 45, 46, 47, 48, 49, 50, 51, 52, 53, 54, 55] (by decide +kernel) (by decide +kernel)
set_option maxRecDepth 20000 in
theorem gX1_makeTree_X1_apart : GoodIn wsX1_makeTree (wsV RX1 42 RX1 yX1_apart wsX1_apart) := goodIn_app (goodIn_of _ (by decide +kernel)) ggX1_makeTree_X1_apart
theorem dX1_makeTree_0 : decode cX1_makeTree 0 = .ok (.aload_n 0, 1) := by decide +kernel
theorem dX1_makeTree_1 : decode cX1_makeTree 1 = .ok (.iconst 0, 1) := by decide +kernel
theorem dX1_makeTree_2 : decode cX1_makeTree 2 = .ok (.putfield 93, 3) := by decide +kernel
theorem dX1_makeTree_5 : decode cX1_makeTree 5 = .ok (.aload_n 0, 1) := by decide +kernel
theorem dX1_makeTree_6 : decode cX1_makeTree 6 = .ok (.lconst 0, 1) := by decide +kernel
theorem dX1_makeTree_7 : decode cX1_makeTree 7 = .ok (.putfield 96, 3) := by decide +kernel
theorem dX1_makeTree_10 : decode cX1_makeTree 10 = .ok (.iconst 0, 1) := by decide +kernel
theorem dX1_makeTree_11 : decode cX1_makeTree 11 = .ok (.istore_n 1, 1) := by decide +kernel
theorem dX1_makeTree_12 : decode cX1_makeTree 12 = .ok (.iload_n 1, 1) := by decide +kernel
theorem dX1_makeTree_13 : decode cX1_makeTree 13 = .ok (.aload_n 0, 1) := by decide +kernel
theorem dX1_makeTree_14 : decode cX1_makeTree 14 = .ok (.getfield 56, 3) := by decide +kernel
theorem dX1_makeTree_17 : decode cX1_makeTree 17 = .ok (.if_icmp .ge 16, 3) := by decide +kernel
theorem dX1_makeTree_20 : decode cX1_makeTree 20 = .ok (.aload_n 0, 1) := by decide +kernel
theorem dX1_makeTree_21 : decode cX1_makeTree 21 = .ok (.getfield 35, 3) := by decide +kernel
theorem dX1_makeTree_24 : decode cX1_makeTree 24 = .ok (.iload_n 1, 1) := by decide +kernel
theorem dX1_makeTree_25 : decode cX1_makeTree 25 = .ok (.iload_n 1, 1) := by decide +kernel
theorem dX1_makeTree_26 : decode cX1_makeTree 26 = .ok (.iastore, 1) := by decide +kernel
theorem dX1_makeTree_27 : decode cX1_makeTree 27 = .ok (.iinc 1 1, 3) := by decide +kernel
theorem dX1_makeTree_30 : decode cX1_makeTree 30 = .ok (.goto (-18), 3) := by decide +kernel
theorem dX1_makeTree_33 : decode cX1_makeTree 33 = .ok (.iconst 1, 1) := by decide +kernel
theorem dX1_makeTree_34 : decode cX1_makeTree 34 = .ok (.istore_n 1, 1) := by decide +kernel
theorem dX1_makeTree_35 : decode cX1_makeTree 35 = .ok (.iload_n 1, 1) := by decide +kernel
theorem dX1_makeTree_36 : decode cX1_makeTree 36 = .ok (.aload_n 0, 1) := by decide +kernel
theorem dX1_makeTree_37 : decode cX1_makeTree 37 = .ok (.getfield 56, 3) := by decide +kernel
theorem dX1_makeTree_40 : decode cX1_makeTree 40 = .ok (.if_icmp .ge 209, 3) := by decide +kernel
theorem dX1_makeTree_43 : decode cX1_makeTree 43 = .ok (.iconst (-1), 1) := by decide +kernel
theorem dX1_makeTree_44 : decode cX1_makeTree 44 = .ok (.istore_n 2, 1) := by decide +kernel
theorem dX1_makeTree_45 : decode cX1_makeTree 45 = .ok (.iconst (-1), 1) := by decide +kernel
theorem dX1_makeTree_46 : decode cX1_makeTree 46 = .ok (.istore_n 3, 1) := by decide +kernel
theorem dX1_makeTree_47 : decode cX1_makeTree 47 = .ok (.iconst 0, 1) := by decide +kernel
theorem dX1_makeTree_48 : decode cX1_makeTree 48 = .ok (.istore 4, 2) := by decide +kernel
theorem dX1_makeTree_50 : decode cX1_makeTree 50 = .ok (.iload 4, 2) := by decide +kernel
theorem dX1_makeTree_52 : decode cX1_makeTree 52 = .ok (.aload_n 0, 1) := by decide +kernel
theorem dX1_makeTree_53 : decode cX1_makeTree 53 = .ok (.getfield 56, 3) := by decide +kernel
theorem dX1_makeTree_56 : decode cX1_makeTree 56 = .ok (.if_icmp .ge 81, 3) := by decide +kernel
theorem dX1_makeTree_59 : decode cX1_makeTree 59 = .ok (.iload 4, 2) := by decide +kernel
theorem dX1_makeTree_61 : decode cX1_makeTree 61 = .ok (.iconst 1, 1) := by decide +kernel
theorem dX1_makeTree_62 : decode cX1_makeTree 62 = .ok (.iadd, 1) := by decide +kernel
theorem dX1_makeTree_63 : decode cX1_makeTree 63 = .ok (.istore 5, 2) := by decide +kernel
theorem dX1_makeTree_65 : decode cX1_makeTree 65 = .ok (.iload 5, 2) := by decide +kernel
theorem dX1_makeTree_67 : decode cX1_makeTree 67 = .ok (.aload_n 0, 1) := by decide +kernel
theorem dX1_makeTree_68 : decode cX1_makeTree 68 = .ok (.getfield 56, 3) := by decide +kernel
theorem dX1_makeTree_71 : decode cX1_makeTree 71 = .ok (.if_icmp .ge 60, 3) := by decide +kernel
theorem dX1_makeTree_74 : decode cX1_makeTree 74 = .ok (.aload_n 0, 1) := by decide +kernel
theorem dX1_makeTree_75 : decode cX1_makeTree 75 = .ok (.getfield 35, 3) := by decide +kernel
theorem dX1_makeTree_78 : decode cX1_makeTree 78 = .ok (.iload 4, 2) := by decide +kernel
theorem dX1_makeTree_80 : decode cX1_makeTree 80 = .ok (.iaload, 1) := by decide +kernel
theorem dX1_makeTree_81 : decode cX1_makeTree 81 = .ok (.aload_n 0, 1) := by decide +kernel
theorem dX1_makeTree_82 : decode cX1_makeTree 82 = .ok (.getfield 35, 3) := by decide +kernel
theorem dX1_makeTree_85 : decode cX1_makeTree 85 = .ok (.iload 5, 2) := by decide +kernel
theorem dX1_makeTree_87 : decode cX1_makeTree 87 = .ok (.iaload, 1) := by decide +kernel
theorem dX1_makeTree_88 : decode cX1_makeTree 88 = .ok (.if_icmp .eq 37, 3) := by decide +kernel
theorem dX1_makeTree_91 : decode cX1_makeTree 91 = .ok (.iload_n 2, 1) := by decide +kernel
theorem dX1_makeTree_92 : decode cX1_makeTree 92 = .ok (.ifCond .lt 16, 3) := by decide +kernel
theorem dX1_makeTree_95 : decode cX1_makeTree 95 = .ok (.aload_n 0, 1) := by decide +kernel
theorem dX1_makeTree_96 : decode cX1_makeTree 96 = .ok (.iload 4, 2) := by decide +kernel
theorem dX1_makeTree_98 : decode cX1_makeTree 98 = .ok (.iload 5, 2) := by decide +kernel
theorem dX1_makeTree_100 : decode cX1_makeTree 100 = .ok (.iload_n 2, 1) := by decide +kernel
theorem dX1_makeTree_101 : decode cX1_makeTree 101 = .ok (.iload_n 3, 1) := by decide +kernel
theorem dX1_makeTree_102 : decode cX1_makeTree 102 = .ok (.invokevirtual 100, 3) := by decide +kernel
theorem dX1_makeTree_105 : decode cX1_makeTree 105 = .ok (.ifCond .eq 20, 3) := by decide +kernel
theorem dX1_makeTree_108 : decode cX1_makeTree 108 = .ok (.aload_n 0, 1) := by decide +kernel
theorem dX1_makeTree_109 : decode cX1_makeTree 109 = .ok (.iload 4, 2) := by decide +kernel
theorem dX1_makeTree_111 : decode cX1_makeTree 111 = .ok (.iload 5, 2) := by decide +kernel
theorem dX1_makeTree_113 : decode cX1_makeTree 113 = .ok (.invokevirtual 103, 3) := by decide +kernel
theorem dX1_makeTree_116 : decode cX1_makeTree 116 = .ok (.ifCond .eq 9, 3) := by decide +kernel
theorem dX1_makeTree_119 : decode cX1_makeTree 119 = .ok (.iload 4, 2) := by decide +kernel
theorem dX1_makeTree_121 : decode cX1_makeTree 121 = .ok (.istore_n 2, 1) := by decide +kernel
theorem dX1_makeTree_122 : decode cX1_makeTree 122 = .ok (.iload 5, 2) := by decide +kernel
theorem dX1_makeTree_124 : decode cX1_makeTree 124 = .ok (.istore_n 3, 1) := by decide +kernel
theorem dX1_makeTree_125 : decode cX1_makeTree 125 = .ok (.iinc 5 1, 3) := by decide +kernel
theorem dX1_makeTree_128 : decode cX1_makeTree 128 = .ok (.goto (-63), 3) := by decide +kernel
theorem dX1_makeTree_131 : decode cX1_makeTree 131 = .ok (.iinc 4 1, 3) := by decide +kernel
theorem dX1_makeTree_134 : decode cX1_makeTree 134 = .ok (.goto (-84), 3) := by decide +kernel
theorem dX1_makeTree_137 : decode cX1_makeTree 137 = .ok (.aload_n 0, 1) := by decide +kernel
theorem dX1_makeTree_138 : decode cX1_makeTree 138 = .ok (.getfield 29, 3) := by decide +kernel
theorem dX1_makeTree_141 : decode cX1_makeTree 141 = .ok (.aload_n 0, 1) := by decide +kernel
theorem dX1_makeTree_142 : decode cX1_makeTree 142 = .ok (.getfield 93, 3) := by decide +kernel
theorem dX1_makeTree_145 : decode cX1_makeTree 145 = .ok (.iload_n 2, 1) := by decide +kernel
theorem dX1_makeTree_146 : decode cX1_makeTree 146 = .ok (.iastore, 1) := by decide +kernel
theorem dX1_makeTree_147 : decode cX1_makeTree 147 = .ok (.aload_n 0, 1) := by decide +kernel
theorem dX1_makeTree_148 : decode cX1_makeTree 148 = .ok (.getfield 32, 3) := by decide +kernel
theorem dX1_makeTree_151 : decode cX1_makeTree 151 = .ok (.aload_n 0, 1) := by decide +kernel
theorem dX1_makeTree_152 : decode cX1_makeTree 152 = .ok (.getfield 93, 3) := by decide +kernel
theorem dX1_makeTree_155 : decode cX1_makeTree 155 = .ok (.iload_n 3, 1) := by decide +kernel
theorem dX1_makeTree_156 : decode cX1_makeTree 156 = .ok (.iastore, 1) := by decide +kernel
theorem dX1_makeTree_157 : decode cX1_makeTree 157 = .ok (.aload_n 0, 1) := by decide +kernel
theorem dX1_makeTree_158 : decode cX1_makeTree 158 = .ok (.dup, 1) := by decide +kernel
theorem dX1_makeTree_159 : decode cX1_makeTree 159 = .ok (.getfield 93, 3) := by decide +kernel
theorem dX1_makeTree_162 : decode cX1_makeTree 162 = .ok (.iconst 1, 1) := by decide +kernel
theorem dX1_makeTree_163 : decode cX1_makeTree 163 = .ok (.iadd, 1) := by decide +kernel
theorem dX1_makeTree_164 : decode cX1_makeTree 164 = .ok (.putfield 93, 3) := by decide +kernel
theorem dX1_makeTree_167 : decode cX1_makeTree 167 = .ok (.aload_n 0, 1) := by decide +kernel
theorem dX1_makeTree_168 : decode cX1_makeTree 168 = .ok (.aload_n 0, 1) := by decide +kernel
theorem dX1_makeTree_169 : decode cX1_makeTree 169 = .ok (.getfield 96, 3) := by decide +kernel
theorem dX1_makeTree_172 : decode cX1_makeTree 172 = .ok (.aload_n 0, 1) := by decide +kernel
theorem dX1_makeTree_173 : decode cX1_makeTree 173 = .ok (.iload_n 2, 1) := by decide +kernel
theorem dX1_makeTree_174 : decode cX1_makeTree 174 = .ok (.iload_n 3, 1) := by decide +kernel
theorem dX1_makeTree_175 : decode cX1_makeTree 175 = .ok (.invokevirtual 42, 3) := by decide +kernel
theorem dX1_makeTree_178 : decode cX1_makeTree 178 = .ok (.ladd, 1) := by decide +kernel
theorem dX1_makeTree_179 : decode cX1_makeTree 179 = .ok (.putfield 96, 3) := by decide +kernel
theorem dX1_makeTree_182 : decode cX1_makeTree 182 = .ok (.aload_n 0, 1) := by decide +kernel
theorem dX1_makeTree_183 : decode cX1_makeTree 183 = .ok (.getfield 35, 3) := by decide +kernel
theorem dX1_makeTree_186 : decode cX1_makeTree 186 = .ok (.iload_n 3, 1) := by decide +kernel
theorem dX1_makeTree_187 : decode cX1_makeTree 187 = .ok (.iaload, 1) := by decide +kernel
theorem dX1_makeTree_188 : decode cX1_makeTree 188 = .ok (.istore 4, 2) := by decide +kernel
theorem dX1_makeTree_190 : decode cX1_makeTree 190 = .ok (.iconst 0, 1) := by decide +kernel
theorem dX1_makeTree_191 : decode cX1_makeTree 191 = .ok (.istore 5, 2) := by decide +kernel
theorem dX1_makeTree_193 : decode cX1_makeTree 193 = .ok (.iload 5, 2) := by decide +kernel
theorem dX1_makeTree_195 : decode cX1_makeTree 195 = .ok (.aload_n 0, 1) := by decide +kernel
theorem dX1_makeTree_196 : decode cX1_makeTree 196 = .ok (.getfield 56, 3) := by decide +kernel
theorem dX1_makeTree_199 : decode cX1_makeTree 199 = .ok (.if_icmp .ge 44, 3) := by decide +kernel
theorem dX1_makeTree_202 : decode cX1_makeTree 202 = .ok (.aload_n 0, 1) := by decide +kernel
theorem dX1_makeTree_203 : decode cX1_makeTree 203 = .ok (.getfield 35, 3) := by decide +kernel
theorem dX1_makeTree_206 : decode cX1_makeTree 206 = .ok (.iload 5, 2) := by decide +kernel
theorem dX1_makeTree_208 : decode cX1_makeTree 208 = .ok (.aload_n 0, 1) := by decide +kernel
theorem dX1_makeTree_209 : decode cX1_makeTree 209 = .ok (.getfield 35, 3) := by decide +kernel
theorem dX1_makeTree_212 : decode cX1_makeTree 212 = .ok (.iload 5, 2) := by decide +kernel
theorem dX1_makeTree_214 : decode cX1_makeTree 214 = .ok (.iaload, 1) := by decide +kernel
theorem dX1_makeTree_215 : decode cX1_makeTree 215 = .ok (.iload 4, 2) := by decide +kernel
theorem dX1_makeTree_217 : decode cX1_makeTree 217 = .ok (.if_icmp .ne 12, 3) := by decide +kernel
theorem dX1_makeTree_220 : decode cX1_makeTree 220 = .ok (.aload_n 0, 1) := by decide +kernel
theorem dX1_makeTree_221 : decode cX1_makeTree 221 = .ok (.getfield 35, 3) := by decide +kernel
theorem dX1_makeTree_224 : decode cX1_makeTree 224 = .ok (.iload_n 2, 1) := by decide +kernel
theorem dX1_makeTree_225 : decode cX1_makeTree 225 = .ok (.iaload, 1) := by decide +kernel
theorem dX1_makeTree_226 : decode cX1_makeTree 226 = .ok (.goto 10, 3) := by decide +kernel
theorem dX1_makeTree_229 : decode cX1_makeTree 229 = .ok (.aload_n 0, 1) := by decide +kernel
theorem dX1_makeTree_230 : decode cX1_makeTree 230 = .ok (.getfield 35, 3) := by decide +kernel
theorem dX1_makeTree_233 : decode cX1_makeTree 233 = .ok (.iload 5, 2) := by decide +kernel
theorem dX1_makeTree_235 : decode cX1_makeTree 235 = .ok (.iaload, 1) := by decide +kernel
theorem dX1_makeTree_236 : decode cX1_makeTree 236 = .ok (.iastore, 1) := by decide +kernel
theorem dX1_makeTree_237 : decode cX1_makeTree 237 = .ok (.iinc 5 1, 3) := by decide +kernel
theorem dX1_makeTree_240 : decode cX1_makeTree 240 = .ok (.goto (-47), 3) := by decide +kernel
theorem dX1_makeTree_243 : decode cX1_makeTree 243 = .ok (.iinc 1 1, 3) := by decide +kernel
theorem dX1_makeTree_246 : decode cX1_makeTree 246 = .ok (.goto (-211), 3) := by decide +kernel
theorem dX1_makeTree_249 : decode cX1_makeTree 249 = .ok (.return_, 1) := by decide +kernel
set_option maxRecDepth 20000 in
theorem ggX1_add_X1_makeTriangles : GoodIn wsX1_add wsX1_makeTriangles := goodIn_r _ [8, 9, 1, 10, 11, 12, 13, 14, 15, 7, 16, 17, 18, 19, 20, 2, 3, 21, 22, 23, 24, 25, 26, 27, 28, 29, 30, 31, 32, 33, 34, 35, 36, 37, 81, 82, 83, 84, 85, 86, 87, 88, 89, 90, 91, 92, 93, 94] (by decide +kernel) (by decide +kernel)
set_option maxRecDepth 20000 in
theorem gX1_add_X1_makeTriangles : GoodIn wsX1_add (wsV RX1 106 RX1 yX1_makeTriangles wsX1_makeTriangles) := goodIn_app (goodIn_of _ (by decide +kernel)) ggX1_add_X1_makeTriangles
set_option maxRecDepth 20000 in
theorem ggX1_add_X1_makeCorners : GoodIn wsX1_add wsX1_makeCorners := goodIn_r _ [41, 42, 43, 44, 45, 46, 7, 47, 1, 48, 49, 50, 51, 2, 3, 17, 18, 19, 20, 21, 22, 23, 24, 52, 53, 54, 55, 56, 57, 58, 59, 81, 82, 83, 84, 85, 86, 87, 88, 89, 90, 91, 92, 93, 94] (by decide +kernel) (by decide +kernel)
set_option maxRecDepth 20000 in
theorem gX1_add_X1_makeCorners : GoodIn wsX1_add (wsV RX1 109 RX1 yX1_makeCorners wsX1_makeCorners) := goodIn_app (goodIn_of _ (by decide +kernel)) ggX1_add_X1_makeCorners
set_option maxRecDepth 20000 in
theorem ggX1_add_X1_makeTree : GoodIn wsX1_add wsX1_makeTree := goodIn_r _ [63, 64, 65, 1, 66, 67, 68, 69, 70, 71, 7, 72, 30, 31, 32, 33, 2, 3, 73, 74, 75, 76, 9, 77, 78, 79, 80, 10, 11, 12, 48, 49, 50, 51, 17, 18, 19, 20, 21, 22, 23, 24, 81, 82, 83, 84, 85, 86, 87, 88, 89, 90, 91, 92, 93, 94] (by decide +kernel) (by decide +kernel)
set_option maxRecDepth 20000 in
theorem gX1_add_X1_makeTree : GoodIn wsX1_add (wsV RX1 112 RX1 yX1_makeTree wsX1_makeTree) := goodIn_app (goodIn_of _ (by decide +kernel)) ggX1_add_X1_makeTree
theorem dX1_add_0 : decode cX1_add 0 = .ok (.iload_n 1, 1) := by decide +kernel
theorem dX1_add_1 : decode cX1_add 1 = .ok (.sipush (-30000), 3) := by decide +kernel
theorem dX1_add_4 : decode cX1_add 4 = .ok (.if_icmp .lt 24, 3) := by decide +kernel
theorem dX1_add_7 : decode cX1_add 7 = .ok (.iload_n 1, 1) := by decide +kernel
theorem dX1_add_8 : decode cX1_add 8 = .ok (.sipush 30000, 3) := by decide +kernel
theorem dX1_add_11 : decode cX1_add 11 = .ok (.if_icmp .gt 17, 3) := by decide +kernel
theorem dX1_add_14 : decode cX1_add 14 = .ok (.iload_n 2, 1) := by decide +kernel
theorem dX1_add_15 : decode cX1_add 15 = .ok (.sipush (-30000), 3) := by decide +kernel
theorem dX1_add_18 : decode cX1_add 18 = .ok (.if_icmp .lt 10, 3) := by decide +kernel
theorem dX1_add_21 : decode cX1_add 21 = .ok (.iload_n 2, 1) := by decide +kernel
theorem dX1_add_22 : decode cX1_add 22 = .ok (.sipush 30000, 3) := by decide +kernel
theorem dX1_add_25 : decode cX1_add 25 = .ok (.if_icmp .le 5, 3) := by decide +kernel
theorem dX1_add_28 : decode cX1_add 28 = .ok (.iconst (-1), 1) := by decide +kernel
theorem dX1_add_29 : decode cX1_add 29 = .ok (.ireturn, 1) := by decide +kernel
theorem dX1_add_30 : decode cX1_add 30 = .ok (.iconst 0, 1) := by decide +kernel
theorem dX1_add_31 : decode cX1_add 31 = .ok (.istore_n 3, 1) := by decide +kernel
theorem dX1_add_32 : decode cX1_add 32 = .ok (.iload_n 3, 1) := by decide +kernel
theorem dX1_add_33 : decode cX1_add 33 = .ok (.aload_n 0, 1) := by decide +kernel
theorem dX1_add_34 : decode cX1_add 34 = .ok (.getfield 56, 3) := by decide +kernel
theorem dX1_add_37 : decode cX1_add 37 = .ok (.if_icmp .ge 35, 3) := by decide +kernel
theorem dX1_add_40 : decode cX1_add 40 = .ok (.aload_n 0, 1) := by decide +kernel
theorem dX1_add_41 : decode cX1_add 41 = .ok (.getfield 7, 3) := by decide +kernel
theorem dX1_add_44 : decode cX1_add 44 = .ok (.iload_n 3, 1) := by decide +kernel
theorem dX1_add_45 : decode cX1_add 45 = .ok (.laload, 1) := by decide +kernel
theorem dX1_add_46 : decode cX1_add 46 = .ok (.iload_n 1, 1) := by decide +kernel
theorem dX1_add_47 : decode cX1_add 47 = .ok (.i2l, 1) := by decide +kernel
theorem dX1_add_48 : decode cX1_add 48 = .ok (.lcmp, 1) := by decide +kernel
theorem dX1_add_49 : decode cX1_add 49 = .ok (.ifCond .ne 17, 3) := by decide +kernel
theorem dX1_add_52 : decode cX1_add 52 = .ok (.aload_n 0, 1) := by decide +kernel
theorem dX1_add_53 : decode cX1_add 53 = .ok (.getfield 13, 3) := by decide +kernel
theorem dX1_add_56 : decode cX1_add 56 = .ok (.iload_n 3, 1) := by decide +kernel
theorem dX1_add_57 : decode cX1_add 57 = .ok (.laload, 1) := by decide +kernel
theorem dX1_add_58 : decode cX1_add 58 = .ok (.iload_n 2, 1) := by decide +kernel
theorem dX1_add_59 : decode cX1_add 59 = .ok (.i2l, 1) := by decide +kernel
theorem dX1_add_60 : decode cX1_add 60 = .ok (.lcmp, 1) := by decide +kernel
theorem dX1_add_61 : decode cX1_add 61 = .ok (.ifCond .ne 5, 3) := by decide +kernel
theorem dX1_add_64 : decode cX1_add 64 = .ok (.iload_n 3, 1) := by decide +kernel
theorem dX1_add_65 : decode cX1_add 65 = .ok (.ireturn, 1) := by decide +kernel
theorem dX1_add_66 : decode cX1_add 66 = .ok (.iinc 3 1, 3) := by decide +kernel
theorem dX1_add_69 : decode cX1_add 69 = .ok (.goto (-37), 3) := by decide +kernel
theorem dX1_add_72 : decode cX1_add 72 = .ok (.aload_n 0, 1) := by decide +kernel
theorem dX1_add_73 : decode cX1_add 73 = .ok (.getfield 56, 3) := by decide +kernel
theorem dX1_add_76 : decode cX1_add 76 = .ok (.bipush 14, 2) := by decide +kernel
theorem dX1_add_78 : decode cX1_add 78 = .ok (.if_icmp .ne 6, 3) := by decide +kernel
theorem dX1_add_81 : decode cX1_add 81 = .ok (.bipush (-2), 2) := by decide +kernel
theorem dX1_add_83 : decode cX1_add 83 = .ok (.ireturn, 1) := by decide +kernel
theorem dX1_add_84 : decode cX1_add 84 = .ok (.aload_n 0, 1) := by decide +kernel
theorem dX1_add_85 : decode cX1_add 85 = .ok (.getfield 7, 3) := by decide +kernel
theorem dX1_add_88 : decode cX1_add 88 = .ok (.aload_n 0, 1) := by decide +kernel
theorem dX1_add_89 : decode cX1_add 89 = .ok (.getfield 56, 3) := by decide +kernel
theorem dX1_add_92 : decode cX1_add 92 = .ok (.iload_n 1, 1) := by decide +kernel
theorem dX1_add_93 : decode cX1_add 93 = .ok (.i2l, 1) := by decide +kernel
theorem dX1_add_94 : decode cX1_add 94 = .ok (.lastore, 1) := by decide +kernel
theorem dX1_add_95 : decode cX1_add 95 = .ok (.aload_n 0, 1) := by decide +kernel
theorem dX1_add_96 : decode cX1_add 96 = .ok (.getfield 13, 3) := by decide +kernel
theorem dX1_add_99 : decode cX1_add 99 = .ok (.aload_n 0, 1) := by decide +kernel
theorem dX1_add_100 : decode cX1_add 100 = .ok (.getfield 56, 3) := by decide +kernel
theorem dX1_add_103 : decode cX1_add 103 = .ok (.iload_n 2, 1) := by decide +kernel
theorem dX1_add_104 : decode cX1_add 104 = .ok (.i2l, 1) := by decide +kernel
theorem dX1_add_105 : decode cX1_add 105 = .ok (.lastore, 1) := by decide +kernel
theorem dX1_add_106 : decode cX1_add 106 = .ok (.aload_n 0, 1) := by decide +kernel
theorem dX1_add_107 : decode cX1_add 107 = .ok (.dup, 1) := by decide +kernel
theorem dX1_add_108 : decode cX1_add 108 = .ok (.getfield 56, 3) := by decide +kernel
theorem dX1_add_111 : decode cX1_add 111 = .ok (.iconst 1, 1) := by decide +kernel
theorem dX1_add_112 : decode cX1_add 112 = .ok (.iadd, 1) := by decide +kernel
theorem dX1_add_113 : decode cX1_add 113 = .ok (.putfield 56, 3) := by decide +kernel
theorem dX1_add_116 : decode cX1_add 116 = .ok (.aload_n 0, 1) := by decide +kernel
theorem dX1_add_117 : decode cX1_add 117 = .ok (.invokevirtual 106, 3) := by decide +kernel
theorem dX1_add_120 : decode cX1_add 120 = .ok (.aload_n 0, 1) := by decide +kernel
theorem dX1_add_121 : decode cX1_add 121 = .ok (.invokevirtual 109, 3) := by decide +kernel
theorem dX1_add_124 : decode cX1_add 124 = .ok (.aload_n 0, 1) := by decide +kernel
theorem dX1_add_125 : decode cX1_add 125 = .ok (.invokevirtual 112, 3) := by decide +kernel
theorem dX1_add_128 : decode cX1_add 128 = .ok (.aload_n 0, 1) := by decide +kernel
theorem dX1_add_129 : decode cX1_add 129 = .ok (.getfield 56, 3) := by decide +kernel
theorem dX1_add_132 : decode cX1_add 132 = .ok (.iconst 1, 1) := by decide +kernel
theorem dX1_add_133 : decode cX1_add 133 = .ok (.isub, 1) := by decide +kernel
theorem dX1_add_134 : decode cX1_add 134 = .ok (.ireturn, 1) := by decide +kernel
theorem dX1_sites_0 : decode cX1_sites 0 = .ok (.aload_n 0, 1) := by decide +kernel
theorem dX1_sites_1 : decode cX1_sites 1 = .ok (.getfield 56, 3) := by decide +kernel
theorem dX1_sites_4 : decode cX1_sites 4 = .ok (.ireturn, 1) := by decide +kernel
theorem dX1_triangles_0 : decode cX1_triangles 0 = .ok (.aload_n 0, 1) := by decide +kernel
theorem dX1_triangles_1 : decode cX1_triangles 1 = .ok (.getfield 64, 3) := by decide +kernel
theorem dX1_triangles_4 : decode cX1_triangles 4 = .ok (.ireturn, 1) := by decide +kernel
theorem dX1_none_0 : decode cX1_none 0 = .ok (.iload_n 1, 1) := by decide +kernel
theorem dX1_none_1 : decode cX1_none 1 = .ok (.ifCond .lt 11, 3) := by decide +kernel
theorem dX1_none_4 : decode cX1_none 4 = .ok (.iload_n 1, 1) := by decide +kernel
theorem dX1_none_5 : decode cX1_none 5 = .ok (.aload_n 0, 1) := by decide +kernel
theorem dX1_none_6 : decode cX1_none 6 = .ok (.getfield 64, 3) := by decide +kernel
theorem dX1_none_9 : decode cX1_none 9 = .ok (.if_icmp .lt 7, 3) := by decide +kernel
theorem dX1_none_12 : decode cX1_none 12 = .ok (.iconst 1, 1) := by decide +kernel
theorem dX1_none_13 : decode cX1_none 13 = .ok (.goto 4, 3) := by decide +kernel
theorem dX1_none_16 : decode cX1_none 16 = .ok (.iconst 0, 1) := by decide +kernel
theorem dX1_none_17 : decode cX1_none 17 = .ok (.ireturn, 1) := by decide +kernel
set_option maxRecDepth 20000 in
theorem ggX1_triangle_X1_none : GoodIn wsX1_triangle wsX1_none := goodIn_r _ [8, 9, 10, 11, 12, 13, 14, 15, 16, 17, 18, 19, 20, 21, 22, 23] (by decide +kernel) (by decide +kernel)
set_option maxRecDepth 20000 in
theorem gX1_triangle_X1_none : GoodIn wsX1_triangle (wsV RX1 115 RX1 yX1_none wsX1_none) := goodIn_app (goodIn_of _ (by decide +kernel)) ggX1_triangle_X1_none
theorem dX1_triangle_0 : decode cX1_triangle 0 = .ok (.aload_n 0, 1) := by decide +kernel
theorem dX1_triangle_1 : decode cX1_triangle 1 = .ok (.iload_n 1, 1) := by decide +kernel
theorem dX1_triangle_2 : decode cX1_triangle 2 = .ok (.invokevirtual 115, 3) := by decide +kernel
theorem dX1_triangle_5 : decode cX1_triangle 5 = .ok (.ifCond .eq 7, 3) := by decide +kernel
theorem dX1_triangle_8 : decode cX1_triangle 8 = .ok (.iconst (-1), 1) := by decide +kernel
theorem dX1_triangle_9 : decode cX1_triangle 9 = .ok (.goto 30, 3) := by decide +kernel
theorem dX1_triangle_12 : decode cX1_triangle 12 = .ok (.aload_n 0, 1) := by decide +kernel
theorem dX1_triangle_13 : decode cX1_triangle 13 = .ok (.getfield 16, 3) := by decide +kernel
theorem dX1_triangle_16 : decode cX1_triangle 16 = .ok (.iload_n 1, 1) := by decide +kernel
theorem dX1_triangle_17 : decode cX1_triangle 17 = .ok (.iaload, 1) := by decide +kernel
theorem dX1_triangle_18 : decode cX1_triangle 18 = .ok (.bipush 16, 2) := by decide +kernel
theorem dX1_triangle_20 : decode cX1_triangle 20 = .ok (.aload_n 0, 1) := by decide +kernel
theorem dX1_triangle_21 : decode cX1_triangle 21 = .ok (.getfield 20, 3) := by decide +kernel
theorem dX1_triangle_24 : decode cX1_triangle 24 = .ok (.iload_n 1, 1) := by decide +kernel
theorem dX1_triangle_25 : decode cX1_triangle 25 = .ok (.iaload, 1) := by decide +kernel
theorem dX1_triangle_26 : decode cX1_triangle 26 = .ok (.imul, 1) := by decide +kernel
theorem dX1_triangle_27 : decode cX1_triangle 27 = .ok (.iadd, 1) := by decide +kernel
theorem dX1_triangle_28 : decode cX1_triangle 28 = .ok (.sipush 256, 3) := by decide +kernel
theorem dX1_triangle_31 : decode cX1_triangle 31 = .ok (.aload_n 0, 1) := by decide +kernel
theorem dX1_triangle_32 : decode cX1_triangle 32 = .ok (.getfield 23, 3) := by decide +kernel
theorem dX1_triangle_35 : decode cX1_triangle 35 = .ok (.iload_n 1, 1) := by decide +kernel
theorem dX1_triangle_36 : decode cX1_triangle 36 = .ok (.iaload, 1) := by decide +kernel
theorem dX1_triangle_37 : decode cX1_triangle 37 = .ok (.imul, 1) := by decide +kernel
theorem dX1_triangle_38 : decode cX1_triangle 38 = .ok (.iadd, 1) := by decide +kernel
theorem dX1_triangle_39 : decode cX1_triangle 39 = .ok (.ireturn, 1) := by decide +kernel
set_option maxRecDepth 20000 in
theorem ggX1_beyond_X1_none : GoodIn wsX1_beyond wsX1_none := goodIn_r _ [9, 4, 14, 15, 16, 17, 18, 19, 20, 21, 22, 23, 24, 25, 26, 27] (by decide +kernel) (by decide +kernel)
set_option maxRecDepth 20000 in
theorem gX1_beyond_X1_none : GoodIn wsX1_beyond (wsV RX1 115 RX1 yX1_none wsX1_none) := goodIn_app (goodIn_of _ (by decide +kernel)) ggX1_beyond_X1_none
set_option maxRecDepth 20000 in
theorem ggX1_beyond_X1_isOf : GoodIn wsX1_beyond wsX1_isOf := goodIn_r _ [13, 2, 1, 3, 14, 15, 16, 17, 18, 19, 20, 21, 22, 23, 24, 25, 26, 27] (by decide +kernel) (by decide +kernel)
set_option maxRecDepth 20000 in
theorem gX1_beyond_X1_isOf : GoodIn wsX1_beyond (wsV RX1 71 RX1 yX1_isOf wsX1_isOf) := goodIn_app (goodIn_of _ (by decide +kernel)) ggX1_beyond_X1_isOf
theorem dX1_beyond_0 : decode cX1_beyond 0 = .ok (.aload_n 0, 1) := by decide +kernel
theorem dX1_beyond_1 : decode cX1_beyond 1 = .ok (.iload_n 1, 1) := by decide +kernel
theorem dX1_beyond_2 : decode cX1_beyond 2 = .ok (.invokevirtual 115, 3) := by decide +kernel
theorem dX1_beyond_5 : decode cX1_beyond 5 = .ok (.ifCond .ne 12, 3) := by decide +kernel
theorem dX1_beyond_8 : decode cX1_beyond 8 = .ok (.iload_n 2, 1) := by decide +kernel
theorem dX1_beyond_9 : decode cX1_beyond 9 = .ok (.ifCond .lt 8, 3) := by decide +kernel
theorem dX1_beyond_12 : decode cX1_beyond 12 = .ok (.iload_n 2, 1) := by decide +kernel
theorem dX1_beyond_13 : decode cX1_beyond 13 = .ok (.iconst 2, 1) := by decide +kernel
theorem dX1_beyond_14 : decode cX1_beyond 14 = .ok (.if_icmp .le 5, 3) := by decide +kernel
theorem dX1_beyond_17 : decode cX1_beyond 17 = .ok (.iconst (-1), 1) := by decide +kernel
theorem dX1_beyond_18 : decode cX1_beyond 18 = .ok (.ireturn, 1) := by decide +kernel
theorem dX1_beyond_19 : decode cX1_beyond 19 = .ok (.iload_n 2, 1) := by decide +kernel
theorem dX1_beyond_20 : decode cX1_beyond 20 = .ok (.ifCond .ne 12, 3) := by decide +kernel
theorem dX1_beyond_23 : decode cX1_beyond 23 = .ok (.aload_n 0, 1) := by decide +kernel
theorem dX1_beyond_24 : decode cX1_beyond 24 = .ok (.getfield 20, 3) := by decide +kernel
theorem dX1_beyond_27 : decode cX1_beyond 27 = .ok (.iload_n 1, 1) := by decide +kernel
theorem dX1_beyond_28 : decode cX1_beyond 28 = .ok (.iaload, 1) := by decide +kernel
theorem dX1_beyond_29 : decode cX1_beyond 29 = .ok (.goto 9, 3) := by decide +kernel
theorem dX1_beyond_32 : decode cX1_beyond 32 = .ok (.aload_n 0, 1) := by decide +kernel
theorem dX1_beyond_33 : decode cX1_beyond 33 = .ok (.getfield 16, 3) := by decide +kernel
theorem dX1_beyond_36 : decode cX1_beyond 36 = .ok (.iload_n 1, 1) := by decide +kernel
theorem dX1_beyond_37 : decode cX1_beyond 37 = .ok (.iaload, 1) := by decide +kernel
theorem dX1_beyond_38 : decode cX1_beyond 38 = .ok (.istore_n 3, 1) := by decide +kernel
theorem dX1_beyond_39 : decode cX1_beyond 39 = .ok (.iload_n 2, 1) := by decide +kernel
theorem dX1_beyond_40 : decode cX1_beyond 40 = .ok (.iconst 2, 1) := by decide +kernel
theorem dX1_beyond_41 : decode cX1_beyond 41 = .ok (.if_icmp .ne 12, 3) := by decide +kernel
theorem dX1_beyond_44 : decode cX1_beyond 44 = .ok (.aload_n 0, 1) := by decide +kernel
theorem dX1_beyond_45 : decode cX1_beyond 45 = .ok (.getfield 20, 3) := by decide +kernel
theorem dX1_beyond_48 : decode cX1_beyond 48 = .ok (.iload_n 1, 1) := by decide +kernel
theorem dX1_beyond_49 : decode cX1_beyond 49 = .ok (.iaload, 1) := by decide +kernel
theorem dX1_beyond_50 : decode cX1_beyond 50 = .ok (.goto 9, 3) := by decide +kernel
theorem dX1_beyond_53 : decode cX1_beyond 53 = .ok (.aload_n 0, 1) := by decide +kernel
theorem dX1_beyond_54 : decode cX1_beyond 54 = .ok (.getfield 23, 3) := by decide +kernel
theorem dX1_beyond_57 : decode cX1_beyond 57 = .ok (.iload_n 1, 1) := by decide +kernel
theorem dX1_beyond_58 : decode cX1_beyond 58 = .ok (.iaload, 1) := by decide +kernel
theorem dX1_beyond_59 : decode cX1_beyond 59 = .ok (.istore 4, 2) := by decide +kernel
theorem dX1_beyond_61 : decode cX1_beyond 61 = .ok (.iconst (-1), 1) := by decide +kernel
theorem dX1_beyond_62 : decode cX1_beyond 62 = .ok (.istore 5, 2) := by decide +kernel
theorem dX1_beyond_64 : decode cX1_beyond 64 = .ok (.iconst 0, 1) := by decide +kernel
theorem dX1_beyond_65 : decode cX1_beyond 65 = .ok (.istore 6, 2) := by decide +kernel
theorem dX1_beyond_67 : decode cX1_beyond 67 = .ok (.iload 6, 2) := by decide +kernel
theorem dX1_beyond_69 : decode cX1_beyond 69 = .ok (.aload_n 0, 1) := by decide +kernel
theorem dX1_beyond_70 : decode cX1_beyond 70 = .ok (.getfield 64, 3) := by decide +kernel
theorem dX1_beyond_73 : decode cX1_beyond 73 = .ok (.if_icmp .ge 45, 3) := by decide +kernel
theorem dX1_beyond_76 : decode cX1_beyond 76 = .ok (.iload 6, 2) := by decide +kernel
theorem dX1_beyond_78 : decode cX1_beyond 78 = .ok (.iload_n 1, 1) := by decide +kernel
theorem dX1_beyond_79 : decode cX1_beyond 79 = .ok (.if_icmp .eq 29, 3) := by decide +kernel
theorem dX1_beyond_82 : decode cX1_beyond 82 = .ok (.aload_n 0, 1) := by decide +kernel
theorem dX1_beyond_83 : decode cX1_beyond 83 = .ok (.iload 6, 2) := by decide +kernel
theorem dX1_beyond_85 : decode cX1_beyond 85 = .ok (.iload_n 3, 1) := by decide +kernel
theorem dX1_beyond_86 : decode cX1_beyond 86 = .ok (.invokevirtual 71, 3) := by decide +kernel
theorem dX1_beyond_89 : decode cX1_beyond 89 = .ok (.ifCond .eq 19, 3) := by decide +kernel
theorem dX1_beyond_92 : decode cX1_beyond 92 = .ok (.aload_n 0, 1) := by decide +kernel
theorem dX1_beyond_93 : decode cX1_beyond 93 = .ok (.iload 6, 2) := by decide +kernel
theorem dX1_beyond_95 : decode cX1_beyond 95 = .ok (.iload 4, 2) := by decide +kernel
theorem dX1_beyond_97 : decode cX1_beyond 97 = .ok (.invokevirtual 71, 3) := by decide +kernel
theorem dX1_beyond_100 : decode cX1_beyond 100 = .ok (.ifCond .eq 8, 3) := by decide +kernel
theorem dX1_beyond_103 : decode cX1_beyond 103 = .ok (.iload 6, 2) := by decide +kernel
theorem dX1_beyond_105 : decode cX1_beyond 105 = .ok (.goto 5, 3) := by decide +kernel
theorem dX1_beyond_108 : decode cX1_beyond 108 = .ok (.iload 5, 2) := by decide +kernel
theorem dX1_beyond_110 : decode cX1_beyond 110 = .ok (.istore 5, 2) := by decide +kernel
theorem dX1_beyond_112 : decode cX1_beyond 112 = .ok (.iinc 6 1, 3) := by decide +kernel
theorem dX1_beyond_115 : decode cX1_beyond 115 = .ok (.goto (-48), 3) := by decide +kernel
theorem dX1_beyond_118 : decode cX1_beyond 118 = .ok (.iload 5, 2) := by decide +kernel
theorem dX1_beyond_120 : decode cX1_beyond 120 = .ok (.ireturn, 1) := by decide +kernel
theorem dX1_divisor_0 : decode cX1_divisor 0 = .ok (.lload_n 1, 1) := by decide +kernel
theorem dX1_divisor_1 : decode cX1_divisor 1 = .ok (.lconst 0, 1) := by decide +kernel
theorem dX1_divisor_2 : decode cX1_divisor 2 = .ok (.lcmp, 1) := by decide +kernel
theorem dX1_divisor_3 : decode cX1_divisor 3 = .ok (.ifCond .ge 8, 3) := by decide +kernel
theorem dX1_divisor_6 : decode cX1_divisor 6 = .ok (.lload_n 1, 1) := by decide +kernel
theorem dX1_divisor_7 : decode cX1_divisor 7 = .ok (.lneg, 1) := by decide +kernel
theorem dX1_divisor_8 : decode cX1_divisor 8 = .ok (.goto 4, 3) := by decide +kernel
theorem dX1_divisor_11 : decode cX1_divisor 11 = .ok (.lload_n 1, 1) := by decide +kernel
theorem dX1_divisor_12 : decode cX1_divisor 12 = .ok (.lstore 5, 2) := by decide +kernel
theorem dX1_divisor_14 : decode cX1_divisor 14 = .ok (.lload_n 3, 1) := by decide +kernel
theorem dX1_divisor_15 : decode cX1_divisor 15 = .ok (.lconst 0, 1) := by decide +kernel
theorem dX1_divisor_16 : decode cX1_divisor 16 = .ok (.lcmp, 1) := by decide +kernel
theorem dX1_divisor_17 : decode cX1_divisor 17 = .ok (.ifCond .ge 8, 3) := by decide +kernel
theorem dX1_divisor_20 : decode cX1_divisor 20 = .ok (.lload_n 3, 1) := by decide +kernel
theorem dX1_divisor_21 : decode cX1_divisor 21 = .ok (.lneg, 1) := by decide +kernel
theorem dX1_divisor_22 : decode cX1_divisor 22 = .ok (.goto 4, 3) := by decide +kernel
theorem dX1_divisor_25 : decode cX1_divisor 25 = .ok (.lload_n 3, 1) := by decide +kernel
theorem dX1_divisor_26 : decode cX1_divisor 26 = .ok (.lstore 7, 2) := by decide +kernel
theorem dX1_divisor_28 : decode cX1_divisor 28 = .ok (.lload 7, 2) := by decide +kernel
theorem dX1_divisor_30 : decode cX1_divisor 30 = .ok (.lconst 0, 1) := by decide +kernel
theorem dX1_divisor_31 : decode cX1_divisor 31 = .ok (.lcmp, 1) := by decide +kernel
theorem dX1_divisor_32 : decode cX1_divisor 32 = .ok (.ifCond .eq 21, 3) := by decide +kernel
theorem dX1_divisor_35 : decode cX1_divisor 35 = .ok (.lload 5, 2) := by decide +kernel
theorem dX1_divisor_37 : decode cX1_divisor 37 = .ok (.lload 7, 2) := by decide +kernel
theorem dX1_divisor_39 : decode cX1_divisor 39 = .ok (.lrem, 1) := by decide +kernel
theorem dX1_divisor_40 : decode cX1_divisor 40 = .ok (.lstore 9, 2) := by decide +kernel
theorem dX1_divisor_42 : decode cX1_divisor 42 = .ok (.lload 7, 2) := by decide +kernel
theorem dX1_divisor_44 : decode cX1_divisor 44 = .ok (.lstore 5, 2) := by decide +kernel
theorem dX1_divisor_46 : decode cX1_divisor 46 = .ok (.lload 9, 2) := by decide +kernel
theorem dX1_divisor_48 : decode cX1_divisor 48 = .ok (.lstore 7, 2) := by decide +kernel
theorem dX1_divisor_50 : decode cX1_divisor 50 = .ok (.goto (-22), 3) := by decide +kernel
theorem dX1_divisor_53 : decode cX1_divisor 53 = .ok (.lload 5, 2) := by decide +kernel
theorem dX1_divisor_55 : decode cX1_divisor 55 = .ok (.lreturn, 1) := by decide +kernel
set_option maxRecDepth 20000 in
theorem ggX1_centre_X1_none : GoodIn wsX1_centre wsX1_none := goodIn_r _ [11, 12, 25, 26, 27, 28, 29, 30, 31, 32, 33, 34, 35, 36, 37, 38] (by decide +kernel) (by decide +kernel)
set_option maxRecDepth 20000 in
theorem gX1_centre_X1_none : GoodIn wsX1_centre (wsV RX1 115 RX1 yX1_none wsX1_none) := goodIn_app (goodIn_of _ (by decide +kernel)) ggX1_centre_X1_none
set_option maxRecDepth 20000 in
theorem ggX1_centre_X1_span : GoodIn wsX1_centre wsX1_span := goodIn_r _ [16, 5, 6, 25, 26, 27, 28, 29, 30, 31, 32, 33, 34, 35, 36, 37, 38] (by decide +kernel) (by decide +kernel)
set_option maxRecDepth 20000 in
theorem gX1_centre_X1_span : GoodIn wsX1_centre (wsV RX1 46 RX1 yX1_span wsX1_span) := goodIn_app (goodIn_of _ (by decide +kernel)) ggX1_centre_X1_span
set_option maxRecDepth 20000 in
theorem ggX1_centre_X1_apart : GoodIn wsX1_centre wsX1_apart := goodIn_r _ [20, 5, 6, 25, 26, 27, 28, 29, 30, 31, 32, 33, 34, 35, 36, 37, 38] (by decide +kernel) (by decide +kernel)
set_option maxRecDepth 20000 in
theorem gX1_centre_X1_apart : GoodIn wsX1_centre (wsV RX1 42 RX1 yX1_apart wsX1_apart) := goodIn_app (goodIn_of _ (by decide +kernel)) ggX1_centre_X1_apart
set_option maxRecDepth 20000 in
theorem ggX1_centre_X1_divisor : GoodIn wsX1_centre wsX1_divisor := goodIn_r _ [24] (by decide +kernel) (by decide +kernel)
set_option maxRecDepth 20000 in
theorem gX1_centre_X1_divisor : GoodIn wsX1_centre (wsV RX1 120 RX1 yX1_divisor wsX1_divisor) := goodIn_app (goodIn_of _ (by decide +kernel)) ggX1_centre_X1_divisor
theorem dX1_centre_0 : decode cX1_centre 0 = .ok (.aload_n 0, 1) := by decide +kernel
theorem dX1_centre_1 : decode cX1_centre 1 = .ok (.iload_n 1, 1) := by decide +kernel
theorem dX1_centre_2 : decode cX1_centre 2 = .ok (.invokevirtual 115, 3) := by decide +kernel
theorem dX1_centre_5 : decode cX1_centre 5 = .ok (.ifCond .ne 12, 3) := by decide +kernel
theorem dX1_centre_8 : decode cX1_centre 8 = .ok (.iload_n 2, 1) := by decide +kernel
theorem dX1_centre_9 : decode cX1_centre 9 = .ok (.ifCond .lt 8, 3) := by decide +kernel
theorem dX1_centre_12 : decode cX1_centre 12 = .ok (.iload_n 2, 1) := by decide +kernel
theorem dX1_centre_13 : decode cX1_centre 13 = .ok (.iconst 2, 1) := by decide +kernel
theorem dX1_centre_14 : decode cX1_centre 14 = .ok (.if_icmp .le 5, 3) := by decide +kernel
theorem dX1_centre_17 : decode cX1_centre 17 = .ok (.lconst 0, 1) := by decide +kernel
theorem dX1_centre_18 : decode cX1_centre 18 = .ok (.lreturn, 1) := by decide +kernel
theorem dX1_centre_19 : decode cX1_centre 19 = .ok (.aload_n 0, 1) := by decide +kernel
theorem dX1_centre_20 : decode cX1_centre 20 = .ok (.getfield 16, 3) := by decide +kernel
theorem dX1_centre_23 : decode cX1_centre 23 = .ok (.iload_n 1, 1) := by decide +kernel
theorem dX1_centre_24 : decode cX1_centre 24 = .ok (.iaload, 1) := by decide +kernel
theorem dX1_centre_25 : decode cX1_centre 25 = .ok (.istore_n 3, 1) := by decide +kernel
theorem dX1_centre_26 : decode cX1_centre 26 = .ok (.aload_n 0, 1) := by decide +kernel
theorem dX1_centre_27 : decode cX1_centre 27 = .ok (.getfield 20, 3) := by decide +kernel
theorem dX1_centre_30 : decode cX1_centre 30 = .ok (.iload_n 1, 1) := by decide +kernel
theorem dX1_centre_31 : decode cX1_centre 31 = .ok (.iaload, 1) := by decide +kernel
theorem dX1_centre_32 : decode cX1_centre 32 = .ok (.istore 4, 2) := by decide +kernel
theorem dX1_centre_34 : decode cX1_centre 34 = .ok (.aload_n 0, 1) := by decide +kernel
theorem dX1_centre_35 : decode cX1_centre 35 = .ok (.getfield 23, 3) := by decide +kernel
theorem dX1_centre_38 : decode cX1_centre 38 = .ok (.iload_n 1, 1) := by decide +kernel
theorem dX1_centre_39 : decode cX1_centre 39 = .ok (.iaload, 1) := by decide +kernel
theorem dX1_centre_40 : decode cX1_centre 40 = .ok (.istore 5, 2) := by decide +kernel
theorem dX1_centre_42 : decode cX1_centre 42 = .ok (.ldc2_w 118, 3) := by decide +kernel
theorem dX1_centre_45 : decode cX1_centre 45 = .ok (.aload_n 0, 1) := by decide +kernel
theorem dX1_centre_46 : decode cX1_centre 46 = .ok (.iload 4, 2) := by decide +kernel
theorem dX1_centre_48 : decode cX1_centre 48 = .ok (.iload 5, 2) := by decide +kernel
theorem dX1_centre_50 : decode cX1_centre 50 = .ok (.iload_n 3, 1) := by decide +kernel
theorem dX1_centre_51 : decode cX1_centre 51 = .ok (.invokevirtual 46, 3) := by decide +kernel
theorem dX1_centre_54 : decode cX1_centre 54 = .ok (.lmul, 1) := by decide +kernel
theorem dX1_centre_55 : decode cX1_centre 55 = .ok (.lstore 6, 2) := by decide +kernel
theorem dX1_centre_57 : decode cX1_centre 57 = .ok (.aload_n 0, 1) := by decide +kernel
theorem dX1_centre_58 : decode cX1_centre 58 = .ok (.iload 4, 2) := by decide +kernel
theorem dX1_centre_60 : decode cX1_centre 60 = .ok (.iload_n 3, 1) := by decide +kernel
theorem dX1_centre_61 : decode cX1_centre 61 = .ok (.invokevirtual 42, 3) := by decide +kernel
theorem dX1_centre_64 : decode cX1_centre 64 = .ok (.lstore 8, 2) := by decide +kernel
theorem dX1_centre_66 : decode cX1_centre 66 = .ok (.aload_n 0, 1) := by decide +kernel
theorem dX1_centre_67 : decode cX1_centre 67 = .ok (.iload 5, 2) := by decide +kernel
theorem dX1_centre_69 : decode cX1_centre 69 = .ok (.iload_n 3, 1) := by decide +kernel
theorem dX1_centre_70 : decode cX1_centre 70 = .ok (.invokevirtual 42, 3) := by decide +kernel
theorem dX1_centre_73 : decode cX1_centre 73 = .ok (.lstore 10, 2) := by decide +kernel
theorem dX1_centre_75 : decode cX1_centre 75 = .ok (.aload_n 0, 1) := by decide +kernel
theorem dX1_centre_76 : decode cX1_centre 76 = .ok (.getfield 7, 3) := by decide +kernel
theorem dX1_centre_79 : decode cX1_centre 79 = .ok (.iload_n 3, 1) := by decide +kernel
theorem dX1_centre_80 : decode cX1_centre 80 = .ok (.laload, 1) := by decide +kernel
theorem dX1_centre_81 : decode cX1_centre 81 = .ok (.lload 6, 2) := by decide +kernel
theorem dX1_centre_83 : decode cX1_centre 83 = .ok (.lmul, 1) := by decide +kernel
theorem dX1_centre_84 : decode cX1_centre 84 = .ok (.aload_n 0, 1) := by decide +kernel
theorem dX1_centre_85 : decode cX1_centre 85 = .ok (.getfield 13, 3) := by decide +kernel
theorem dX1_centre_88 : decode cX1_centre 88 = .ok (.iload 5, 2) := by decide +kernel
theorem dX1_centre_90 : decode cX1_centre 90 = .ok (.laload, 1) := by decide +kernel
theorem dX1_centre_91 : decode cX1_centre 91 = .ok (.aload_n 0, 1) := by decide +kernel
theorem dX1_centre_92 : decode cX1_centre 92 = .ok (.getfield 13, 3) := by decide +kernel
theorem dX1_centre_95 : decode cX1_centre 95 = .ok (.iload_n 3, 1) := by decide +kernel
theorem dX1_centre_96 : decode cX1_centre 96 = .ok (.laload, 1) := by decide +kernel
theorem dX1_centre_97 : decode cX1_centre 97 = .ok (.lsub, 1) := by decide +kernel
theorem dX1_centre_98 : decode cX1_centre 98 = .ok (.lload 8, 2) := by decide +kernel
theorem dX1_centre_100 : decode cX1_centre 100 = .ok (.lmul, 1) := by decide +kernel
theorem dX1_centre_101 : decode cX1_centre 101 = .ok (.ladd, 1) := by decide +kernel
theorem dX1_centre_102 : decode cX1_centre 102 = .ok (.aload_n 0, 1) := by decide +kernel
theorem dX1_centre_103 : decode cX1_centre 103 = .ok (.getfield 13, 3) := by decide +kernel
theorem dX1_centre_106 : decode cX1_centre 106 = .ok (.iload 4, 2) := by decide +kernel
theorem dX1_centre_108 : decode cX1_centre 108 = .ok (.laload, 1) := by decide +kernel
theorem dX1_centre_109 : decode cX1_centre 109 = .ok (.aload_n 0, 1) := by decide +kernel
theorem dX1_centre_110 : decode cX1_centre 110 = .ok (.getfield 13, 3) := by decide +kernel
theorem dX1_centre_113 : decode cX1_centre 113 = .ok (.iload_n 3, 1) := by decide +kernel
theorem dX1_centre_114 : decode cX1_centre 114 = .ok (.laload, 1) := by decide +kernel
theorem dX1_centre_115 : decode cX1_centre 115 = .ok (.lsub, 1) := by decide +kernel
theorem dX1_centre_116 : decode cX1_centre 116 = .ok (.lload 10, 2) := by decide +kernel
theorem dX1_centre_118 : decode cX1_centre 118 = .ok (.lmul, 1) := by decide +kernel
theorem dX1_centre_119 : decode cX1_centre 119 = .ok (.lsub, 1) := by decide +kernel
theorem dX1_centre_120 : decode cX1_centre 120 = .ok (.lstore 12, 2) := by decide +kernel
theorem dX1_centre_122 : decode cX1_centre 122 = .ok (.aload_n 0, 1) := by decide +kernel
theorem dX1_centre_123 : decode cX1_centre 123 = .ok (.getfield 13, 3) := by decide +kernel
theorem dX1_centre_126 : decode cX1_centre 126 = .ok (.iload_n 3, 1) := by decide +kernel
theorem dX1_centre_127 : decode cX1_centre 127 = .ok (.laload, 1) := by decide +kernel
theorem dX1_centre_128 : decode cX1_centre 128 = .ok (.lload 6, 2) := by decide +kernel
theorem dX1_centre_130 : decode cX1_centre 130 = .ok (.lmul, 1) := by decide +kernel
theorem dX1_centre_131 : decode cX1_centre 131 = .ok (.aload_n 0, 1) := by decide +kernel
theorem dX1_centre_132 : decode cX1_centre 132 = .ok (.getfield 7, 3) := by decide +kernel
theorem dX1_centre_135 : decode cX1_centre 135 = .ok (.iload 4, 2) := by decide +kernel
theorem dX1_centre_137 : decode cX1_centre 137 = .ok (.laload, 1) := by decide +kernel
theorem dX1_centre_138 : decode cX1_centre 138 = .ok (.aload_n 0, 1) := by decide +kernel
theorem dX1_centre_139 : decode cX1_centre 139 = .ok (.getfield 7, 3) := by decide +kernel
theorem dX1_centre_142 : decode cX1_centre 142 = .ok (.iload_n 3, 1) := by decide +kernel
theorem dX1_centre_143 : decode cX1_centre 143 = .ok (.laload, 1) := by decide +kernel
theorem dX1_centre_144 : decode cX1_centre 144 = .ok (.lsub, 1) := by decide +kernel
theorem dX1_centre_145 : decode cX1_centre 145 = .ok (.lload 10, 2) := by decide +kernel
theorem dX1_centre_147 : decode cX1_centre 147 = .ok (.lmul, 1) := by decide +kernel
theorem dX1_centre_148 : decode cX1_centre 148 = .ok (.ladd, 1) := by decide +kernel
theorem dX1_centre_149 : decode cX1_centre 149 = .ok (.aload_n 0, 1) := by decide +kernel
theorem dX1_centre_150 : decode cX1_centre 150 = .ok (.getfield 7, 3) := by decide +kernel
theorem dX1_centre_153 : decode cX1_centre 153 = .ok (.iload 5, 2) := by decide +kernel
theorem dX1_centre_155 : decode cX1_centre 155 = .ok (.laload, 1) := by decide +kernel
theorem dX1_centre_156 : decode cX1_centre 156 = .ok (.aload_n 0, 1) := by decide +kernel
theorem dX1_centre_157 : decode cX1_centre 157 = .ok (.getfield 7, 3) := by decide +kernel
theorem dX1_centre_160 : decode cX1_centre 160 = .ok (.iload_n 3, 1) := by decide +kernel
theorem dX1_centre_161 : decode cX1_centre 161 = .ok (.laload, 1) := by decide +kernel
theorem dX1_centre_162 : decode cX1_centre 162 = .ok (.lsub, 1) := by decide +kernel
theorem dX1_centre_163 : decode cX1_centre 163 = .ok (.lload 8, 2) := by decide +kernel
theorem dX1_centre_165 : decode cX1_centre 165 = .ok (.lmul, 1) := by decide +kernel
theorem dX1_centre_166 : decode cX1_centre 166 = .ok (.lsub, 1) := by decide +kernel
theorem dX1_centre_167 : decode cX1_centre 167 = .ok (.lstore 14, 2) := by decide +kernel
theorem dX1_centre_169 : decode cX1_centre 169 = .ok (.aload_n 0, 1) := by decide +kernel
theorem dX1_centre_170 : decode cX1_centre 170 = .ok (.aload_n 0, 1) := by decide +kernel
theorem dX1_centre_171 : decode cX1_centre 171 = .ok (.lload 12, 2) := by decide +kernel
theorem dX1_centre_173 : decode cX1_centre 173 = .ok (.lload 14, 2) := by decide +kernel
theorem dX1_centre_175 : decode cX1_centre 175 = .ok (.invokevirtual 120, 3) := by decide +kernel
theorem dX1_centre_178 : decode cX1_centre 178 = .ok (.lload 6, 2) := by decide +kernel
theorem dX1_centre_180 : decode cX1_centre 180 = .ok (.invokevirtual 120, 3) := by decide +kernel
theorem dX1_centre_183 : decode cX1_centre 183 = .ok (.lstore 16, 2) := by decide +kernel
theorem dX1_centre_185 : decode cX1_centre 185 = .ok (.lload 6, 2) := by decide +kernel
theorem dX1_centre_187 : decode cX1_centre 187 = .ok (.lconst 0, 1) := by decide +kernel
theorem dX1_centre_188 : decode cX1_centre 188 = .ok (.lcmp, 1) := by decide +kernel
theorem dX1_centre_189 : decode cX1_centre 189 = .ok (.ifCond .ge 9, 3) := by decide +kernel
theorem dX1_centre_192 : decode cX1_centre 192 = .ok (.lload 16, 2) := by decide +kernel
theorem dX1_centre_194 : decode cX1_centre 194 = .ok (.lneg, 1) := by decide +kernel
theorem dX1_centre_195 : decode cX1_centre 195 = .ok (.goto 5, 3) := by decide +kernel
theorem dX1_centre_198 : decode cX1_centre 198 = .ok (.lload 16, 2) := by decide +kernel
theorem dX1_centre_200 : decode cX1_centre 200 = .ok (.lstore 16, 2) := by decide +kernel
theorem dX1_centre_202 : decode cX1_centre 202 = .ok (.iload_n 2, 1) := by decide +kernel
theorem dX1_centre_203 : decode cX1_centre 203 = .ok (.ifCond .ne 8, 3) := by decide +kernel
theorem dX1_centre_206 : decode cX1_centre 206 = .ok (.lload 12, 2) := by decide +kernel
theorem dX1_centre_208 : decode cX1_centre 208 = .ok (.goto 15, 3) := by decide +kernel
theorem dX1_centre_211 : decode cX1_centre 211 = .ok (.iload_n 2, 1) := by decide +kernel
theorem dX1_centre_212 : decode cX1_centre 212 = .ok (.iconst 1, 1) := by decide +kernel
theorem dX1_centre_213 : decode cX1_centre 213 = .ok (.if_icmp .ne 8, 3) := by decide +kernel
theorem dX1_centre_216 : decode cX1_centre 216 = .ok (.lload 14, 2) := by decide +kernel
theorem dX1_centre_218 : decode cX1_centre 218 = .ok (.goto 5, 3) := by decide +kernel
theorem dX1_centre_221 : decode cX1_centre 221 = .ok (.lload 6, 2) := by decide +kernel
theorem dX1_centre_223 : decode cX1_centre 223 = .ok (.lload 16, 2) := by decide +kernel
theorem dX1_centre_225 : decode cX1_centre 225 = .ok (.ldiv, 1) := by decide +kernel
theorem dX1_centre_226 : decode cX1_centre 226 = .ok (.lreturn, 1) := by decide +kernel
theorem dX1_noSite_0 : decode cX1_noSite 0 = .ok (.iload_n 1, 1) := by decide +kernel
theorem dX1_noSite_1 : decode cX1_noSite 1 = .ok (.ifCond .lt 11, 3) := by decide +kernel
theorem dX1_noSite_4 : decode cX1_noSite 4 = .ok (.iload_n 1, 1) := by decide +kernel
theorem dX1_noSite_5 : decode cX1_noSite 5 = .ok (.aload_n 0, 1) := by decide +kernel
theorem dX1_noSite_6 : decode cX1_noSite 6 = .ok (.getfield 56, 3) := by decide +kernel
theorem dX1_noSite_9 : decode cX1_noSite 9 = .ok (.if_icmp .lt 7, 3) := by decide +kernel
theorem dX1_noSite_12 : decode cX1_noSite 12 = .ok (.iconst 1, 1) := by decide +kernel
theorem dX1_noSite_13 : decode cX1_noSite 13 = .ok (.goto 4, 3) := by decide +kernel
theorem dX1_noSite_16 : decode cX1_noSite 16 = .ok (.iconst 0, 1) := by decide +kernel
theorem dX1_noSite_17 : decode cX1_noSite 17 = .ok (.ireturn, 1) := by decide +kernel
set_option maxRecDepth 20000 in
theorem ggX1_joined_X1_noSite : GoodIn wsX1_joined wsX1_noSite := goodIn_r _ [5, 6, 33, 34, 35, 36, 37, 38, 39, 40, 41, 42, 43, 44, 45, 46] (by decide +kernel) (by decide +kernel)
set_option maxRecDepth 20000 in
theorem gX1_joined_X1_noSite : GoodIn wsX1_joined (wsV RX1 124 RX1 yX1_noSite wsX1_noSite) := goodIn_app (goodIn_of _ (by decide +kernel)) ggX1_joined_X1_noSite
set_option maxRecDepth 20000 in
theorem ggX1_joined_X1_edge : GoodIn wsX1_joined wsX1_edge := goodIn_r _ [10, 11, 6, 12, 13, 14, 4, 15, 16, 17, 18, 19, 20, 21, 22, 23, 24, 25, 26, 27, 28, 29, 30, 31, 32, 33, 34, 35, 36, 37, 38, 39, 40, 41, 42, 43, 44, 45, 46] (by decide +kernel) (by decide +kernel)
set_option maxRecDepth 20000 in
theorem gX1_joined_X1_edge : GoodIn wsX1_joined (wsV RX1 103 RX1 yX1_edge wsX1_edge) := goodIn_app (goodIn_of _ (by decide +kernel)) ggX1_joined_X1_edge
theorem dX1_joined_0 : decode cX1_joined 0 = .ok (.aload_n 0, 1) := by decide +kernel
theorem dX1_joined_1 : decode cX1_joined 1 = .ok (.iload_n 1, 1) := by decide +kernel
theorem dX1_joined_2 : decode cX1_joined 2 = .ok (.invokevirtual 124, 3) := by decide +kernel
theorem dX1_joined_5 : decode cX1_joined 5 = .ok (.ifCond .ne 24, 3) := by decide +kernel
theorem dX1_joined_8 : decode cX1_joined 8 = .ok (.aload_n 0, 1) := by decide +kernel
theorem dX1_joined_9 : decode cX1_joined 9 = .ok (.iload_n 2, 1) := by decide +kernel
theorem dX1_joined_10 : decode cX1_joined 10 = .ok (.invokevirtual 124, 3) := by decide +kernel
theorem dX1_joined_13 : decode cX1_joined 13 = .ok (.ifCond .ne 16, 3) := by decide +kernel
theorem dX1_joined_16 : decode cX1_joined 16 = .ok (.aload_n 0, 1) := by decide +kernel
theorem dX1_joined_17 : decode cX1_joined 17 = .ok (.iload_n 1, 1) := by decide +kernel
theorem dX1_joined_18 : decode cX1_joined 18 = .ok (.iload_n 2, 1) := by decide +kernel
theorem dX1_joined_19 : decode cX1_joined 19 = .ok (.invokevirtual 103, 3) := by decide +kernel
theorem dX1_joined_22 : decode cX1_joined 22 = .ok (.ifCond .eq 7, 3) := by decide +kernel
theorem dX1_joined_25 : decode cX1_joined 25 = .ok (.iconst 1, 1) := by decide +kernel
theorem dX1_joined_26 : decode cX1_joined 26 = .ok (.goto 4, 3) := by decide +kernel
theorem dX1_joined_29 : decode cX1_joined 29 = .ok (.iconst 0, 1) := by decide +kernel
theorem dX1_joined_30 : decode cX1_joined 30 = .ok (.ireturn, 1) := by decide +kernel
set_option maxRecDepth 20000 in
theorem ggX1_degree_X1_noSite : GoodIn wsX1_degree wsX1_noSite := goodIn_r _ [6, 1, 33, 34, 35, 36, 37, 38, 39, 40, 41, 42, 43, 44, 45, 46] (by decide +kernel) (by decide +kernel)
set_option maxRecDepth 20000 in
theorem gX1_degree_X1_noSite : GoodIn wsX1_degree (wsV RX1 124 RX1 yX1_noSite wsX1_noSite) := goodIn_app (goodIn_of _ (by decide +kernel)) ggX1_degree_X1_noSite
set_option maxRecDepth 20000 in
theorem ggX1_degree_X1_edge : GoodIn wsX1_degree wsX1_edge := goodIn_r _ [10, 11, 1, 12, 13, 14, 5, 15, 16, 17, 18, 19, 20, 21, 22, 23, 24, 25, 26, 27, 28, 29, 30, 31, 32, 33, 34, 35, 36, 37, 38, 39, 40, 41, 42, 43, 44, 45, 46] (by decide +kernel) (by decide +kernel)
set_option maxRecDepth 20000 in
theorem gX1_degree_X1_edge : GoodIn wsX1_degree (wsV RX1 103 RX1 yX1_edge wsX1_edge) := goodIn_app (goodIn_of _ (by decide +kernel)) ggX1_degree_X1_edge
theorem dX1_degree_0 : decode cX1_degree 0 = .ok (.aload_n 0, 1) := by decide +kernel
theorem dX1_degree_1 : decode cX1_degree 1 = .ok (.iload_n 1, 1) := by decide +kernel
theorem dX1_degree_2 : decode cX1_degree 2 = .ok (.invokevirtual 124, 3) := by decide +kernel
theorem dX1_degree_5 : decode cX1_degree 5 = .ok (.ifCond .eq 5, 3) := by decide +kernel
theorem dX1_degree_8 : decode cX1_degree 8 = .ok (.iconst (-1), 1) := by decide +kernel
theorem dX1_degree_9 : decode cX1_degree 9 = .ok (.ireturn, 1) := by decide +kernel
theorem dX1_degree_10 : decode cX1_degree 10 = .ok (.iconst 0, 1) := by decide +kernel
theorem dX1_degree_11 : decode cX1_degree 11 = .ok (.istore_n 2, 1) := by decide +kernel
theorem dX1_degree_12 : decode cX1_degree 12 = .ok (.iconst 0, 1) := by decide +kernel
theorem dX1_degree_13 : decode cX1_degree 13 = .ok (.istore_n 3, 1) := by decide +kernel
theorem dX1_degree_14 : decode cX1_degree 14 = .ok (.iload_n 3, 1) := by decide +kernel
theorem dX1_degree_15 : decode cX1_degree 15 = .ok (.aload_n 0, 1) := by decide +kernel
theorem dX1_degree_16 : decode cX1_degree 16 = .ok (.getfield 56, 3) := by decide +kernel
theorem dX1_degree_19 : decode cX1_degree 19 = .ok (.if_icmp .ge 26, 3) := by decide +kernel
theorem dX1_degree_22 : decode cX1_degree 22 = .ok (.aload_n 0, 1) := by decide +kernel
theorem dX1_degree_23 : decode cX1_degree 23 = .ok (.iload_n 1, 1) := by decide +kernel
theorem dX1_degree_24 : decode cX1_degree 24 = .ok (.iload_n 3, 1) := by decide +kernel
theorem dX1_degree_25 : decode cX1_degree 25 = .ok (.invokevirtual 103, 3) := by decide +kernel
theorem dX1_degree_28 : decode cX1_degree 28 = .ok (.ifCond .eq 9, 3) := by decide +kernel
theorem dX1_degree_31 : decode cX1_degree 31 = .ok (.iload_n 2, 1) := by decide +kernel
theorem dX1_degree_32 : decode cX1_degree 32 = .ok (.iconst 1, 1) := by decide +kernel
theorem dX1_degree_33 : decode cX1_degree 33 = .ok (.iadd, 1) := by decide +kernel
theorem dX1_degree_34 : decode cX1_degree 34 = .ok (.goto 4, 3) := by decide +kernel
theorem dX1_degree_37 : decode cX1_degree 37 = .ok (.iload_n 2, 1) := by decide +kernel
theorem dX1_degree_38 : decode cX1_degree 38 = .ok (.istore_n 2, 1) := by decide +kernel
theorem dX1_degree_39 : decode cX1_degree 39 = .ok (.iinc 3 1, 3) := by decide +kernel
theorem dX1_degree_42 : decode cX1_degree 42 = .ok (.goto (-28), 3) := by decide +kernel
theorem dX1_degree_45 : decode cX1_degree 45 = .ok (.iload_n 2, 1) := by decide +kernel
theorem dX1_degree_46 : decode cX1_degree 46 = .ok (.ireturn, 1) := by decide +kernel
theorem dX1_corners_0 : decode cX1_corners 0 = .ok (.aload_n 0, 1) := by decide +kernel
theorem dX1_corners_1 : decode cX1_corners 1 = .ok (.getfield 86, 3) := by decide +kernel
theorem dX1_corners_4 : decode cX1_corners 4 = .ok (.ireturn, 1) := by decide +kernel
theorem dX1_corner_0 : decode cX1_corner 0 = .ok (.iload_n 1, 1) := by decide +kernel
theorem dX1_corner_1 : decode cX1_corner 1 = .ok (.ifCond .lt 11, 3) := by decide +kernel
theorem dX1_corner_4 : decode cX1_corner 4 = .ok (.iload_n 1, 1) := by decide +kernel
theorem dX1_corner_5 : decode cX1_corner 5 = .ok (.aload_n 0, 1) := by decide +kernel
theorem dX1_corner_6 : decode cX1_corner 6 = .ok (.getfield 86, 3) := by decide +kernel
theorem dX1_corner_9 : decode cX1_corner 9 = .ok (.if_icmp .lt 7, 3) := by decide +kernel
theorem dX1_corner_12 : decode cX1_corner 12 = .ok (.iconst (-1), 1) := by decide +kernel
theorem dX1_corner_13 : decode cX1_corner 13 = .ok (.goto 9, 3) := by decide +kernel
theorem dX1_corner_16 : decode cX1_corner 16 = .ok (.aload_n 0, 1) := by decide +kernel
theorem dX1_corner_17 : decode cX1_corner 17 = .ok (.getfield 26, 3) := by decide +kernel
theorem dX1_corner_20 : decode cX1_corner 20 = .ok (.iload_n 1, 1) := by decide +kernel
theorem dX1_corner_21 : decode cX1_corner 21 = .ok (.iaload, 1) := by decide +kernel
theorem dX1_corner_22 : decode cX1_corner 22 = .ok (.ireturn, 1) := by decide +kernel
theorem dX1_refused_0 : decode cX1_refused 0 = .ok (.dload_n 1, 1) := by decide +kernel
theorem dX1_refused_1 : decode cX1_refused 1 = .ok (.ldc2_w 127, 3) := by decide +kernel
theorem dX1_refused_4 : decode cX1_refused 4 = .ok (.dcmp .l, 1) := by decide +kernel
theorem dX1_refused_5 : decode cX1_refused 5 = .ok (.ifCond .lt 27, 3) := by decide +kernel
theorem dX1_refused_8 : decode cX1_refused 8 = .ok (.dload_n 1, 1) := by decide +kernel
theorem dX1_refused_9 : decode cX1_refused 9 = .ok (.ldc2_w 129, 3) := by decide +kernel
theorem dX1_refused_12 : decode cX1_refused 12 = .ok (.dcmp .g, 1) := by decide +kernel
theorem dX1_refused_13 : decode cX1_refused 13 = .ok (.ifCond .gt 19, 3) := by decide +kernel
theorem dX1_refused_16 : decode cX1_refused 16 = .ok (.dload_n 3, 1) := by decide +kernel
theorem dX1_refused_17 : decode cX1_refused 17 = .ok (.ldc2_w 127, 3) := by decide +kernel
theorem dX1_refused_20 : decode cX1_refused 20 = .ok (.dcmp .l, 1) := by decide +kernel
theorem dX1_refused_21 : decode cX1_refused 21 = .ok (.ifCond .lt 11, 3) := by decide +kernel
theorem dX1_refused_24 : decode cX1_refused 24 = .ok (.dload_n 3, 1) := by decide +kernel
theorem dX1_refused_25 : decode cX1_refused 25 = .ok (.ldc2_w 129, 3) := by decide +kernel
theorem dX1_refused_28 : decode cX1_refused 28 = .ok (.dcmp .g, 1) := by decide +kernel
theorem dX1_refused_29 : decode cX1_refused 29 = .ok (.ifCond .le 7, 3) := by decide +kernel
theorem dX1_refused_32 : decode cX1_refused 32 = .ok (.iconst 1, 1) := by decide +kernel
theorem dX1_refused_33 : decode cX1_refused 33 = .ok (.goto 4, 3) := by decide +kernel
theorem dX1_refused_36 : decode cX1_refused 36 = .ok (.iconst 0, 1) := by decide +kernel
theorem dX1_refused_37 : decode cX1_refused 37 = .ok (.ireturn, 1) := by decide +kernel
theorem dX1_far_0 : decode cX1_far 0 = .ok (.lload_n 2, 1) := by decide +kernel
theorem dX1_far_1 : decode cX1_far 1 = .ok (.ldc2_w 131, 3) := by decide +kernel
theorem dX1_far_4 : decode cX1_far 4 = .ok (.aload_n 0, 1) := by decide +kernel
theorem dX1_far_5 : decode cX1_far 5 = .ok (.getfield 7, 3) := by decide +kernel
theorem dX1_far_8 : decode cX1_far 8 = .ok (.iload_n 1, 1) := by decide +kernel
theorem dX1_far_9 : decode cX1_far 9 = .ok (.laload, 1) := by decide +kernel
theorem dX1_far_10 : decode cX1_far 10 = .ok (.lmul, 1) := by decide +kernel
theorem dX1_far_11 : decode cX1_far 11 = .ok (.lsub, 1) := by decide +kernel
theorem dX1_far_12 : decode cX1_far 12 = .ok (.lload_n 2, 1) := by decide +kernel
theorem dX1_far_13 : decode cX1_far 13 = .ok (.ldc2_w 131, 3) := by decide +kernel
theorem dX1_far_16 : decode cX1_far 16 = .ok (.aload_n 0, 1) := by decide +kernel
theorem dX1_far_17 : decode cX1_far 17 = .ok (.getfield 7, 3) := by decide +kernel
theorem dX1_far_20 : decode cX1_far 20 = .ok (.iload_n 1, 1) := by decide +kernel
theorem dX1_far_21 : decode cX1_far 21 = .ok (.laload, 1) := by decide +kernel
theorem dX1_far_22 : decode cX1_far 22 = .ok (.lmul, 1) := by decide +kernel
theorem dX1_far_23 : decode cX1_far 23 = .ok (.lsub, 1) := by decide +kernel
theorem dX1_far_24 : decode cX1_far 24 = .ok (.lmul, 1) := by decide +kernel
theorem dX1_far_25 : decode cX1_far 25 = .ok (.lload 4, 2) := by decide +kernel
theorem dX1_far_27 : decode cX1_far 27 = .ok (.ldc2_w 131, 3) := by decide +kernel
theorem dX1_far_30 : decode cX1_far 30 = .ok (.aload_n 0, 1) := by decide +kernel
theorem dX1_far_31 : decode cX1_far 31 = .ok (.getfield 13, 3) := by decide +kernel
theorem dX1_far_34 : decode cX1_far 34 = .ok (.iload_n 1, 1) := by decide +kernel
theorem dX1_far_35 : decode cX1_far 35 = .ok (.laload, 1) := by decide +kernel
theorem dX1_far_36 : decode cX1_far 36 = .ok (.lmul, 1) := by decide +kernel
theorem dX1_far_37 : decode cX1_far 37 = .ok (.lsub, 1) := by decide +kernel
theorem dX1_far_38 : decode cX1_far 38 = .ok (.lload 4, 2) := by decide +kernel
theorem dX1_far_40 : decode cX1_far 40 = .ok (.ldc2_w 131, 3) := by decide +kernel
theorem dX1_far_43 : decode cX1_far 43 = .ok (.aload_n 0, 1) := by decide +kernel
theorem dX1_far_44 : decode cX1_far 44 = .ok (.getfield 13, 3) := by decide +kernel
theorem dX1_far_47 : decode cX1_far 47 = .ok (.iload_n 1, 1) := by decide +kernel
theorem dX1_far_48 : decode cX1_far 48 = .ok (.laload, 1) := by decide +kernel
theorem dX1_far_49 : decode cX1_far 49 = .ok (.lmul, 1) := by decide +kernel
theorem dX1_far_50 : decode cX1_far 50 = .ok (.lsub, 1) := by decide +kernel
theorem dX1_far_51 : decode cX1_far 51 = .ok (.lmul, 1) := by decide +kernel
theorem dX1_far_52 : decode cX1_far 52 = .ok (.ladd, 1) := by decide +kernel
theorem dX1_far_53 : decode cX1_far 53 = .ok (.lreturn, 1) := by decide +kernel
set_option maxRecDepth 20000 in
theorem ggX1_nearest_X1_refused : GoodIn wsX1_nearest wsX1_refused := goodIn_r _ [7, 8, 9] (by decide +kernel) (by decide +kernel)
set_option maxRecDepth 20000 in
theorem gX1_nearest_X1_refused : GoodIn wsX1_nearest (wsV RX1 133 RX1 yX1_refused wsX1_refused) := goodIn_app (goodIn_of _ (by decide +kernel)) ggX1_nearest_X1_refused
set_option maxRecDepth 20000 in
theorem ggX1_nearest_X1_far : GoodIn wsX1_nearest wsX1_far := goodIn_r _ [13, 14, 15, 16, 17, 18, 19, 20, 21, 22, 23, 24, 25, 26, 27, 28, 29, 30] (by decide +kernel) (by decide +kernel)
set_option maxRecDepth 20000 in
theorem gX1_nearest_X1_far : GoodIn wsX1_nearest (wsV RX1 139 RX1 yX1_far wsX1_far) := goodIn_app (goodIn_of _ (by decide +kernel)) ggX1_nearest_X1_far
theorem dX1_nearest_0 : decode cX1_nearest 0 = .ok (.aload_n 0, 1) := by decide +kernel
theorem dX1_nearest_1 : decode cX1_nearest 1 = .ok (.dload_n 1, 1) := by decide +kernel
theorem dX1_nearest_2 : decode cX1_nearest 2 = .ok (.dload_n 3, 1) := by decide +kernel
theorem dX1_nearest_3 : decode cX1_nearest 3 = .ok (.invokevirtual 133, 3) := by decide +kernel
theorem dX1_nearest_6 : decode cX1_nearest 6 = .ok (.ifCond .eq 6, 3) := by decide +kernel
theorem dX1_nearest_9 : decode cX1_nearest 9 = .ok (.bipush (-2), 2) := by decide +kernel
theorem dX1_nearest_11 : decode cX1_nearest 11 = .ok (.ireturn, 1) := by decide +kernel
theorem dX1_nearest_12 : decode cX1_nearest 12 = .ok (.dload_n 1, 1) := by decide +kernel
theorem dX1_nearest_13 : decode cX1_nearest 13 = .ok (.ldc2_w 137, 3) := by decide +kernel
theorem dX1_nearest_16 : decode cX1_nearest 16 = .ok (.dmul, 1) := by decide +kernel
theorem dX1_nearest_17 : decode cX1_nearest 17 = .ok (.d2l, 1) := by decide +kernel
theorem dX1_nearest_18 : decode cX1_nearest 18 = .ok (.lstore 5, 2) := by decide +kernel
theorem dX1_nearest_20 : decode cX1_nearest 20 = .ok (.dload_n 3, 1) := by decide +kernel
theorem dX1_nearest_21 : decode cX1_nearest 21 = .ok (.ldc2_w 137, 3) := by decide +kernel
theorem dX1_nearest_24 : decode cX1_nearest 24 = .ok (.dmul, 1) := by decide +kernel
theorem dX1_nearest_25 : decode cX1_nearest 25 = .ok (.d2l, 1) := by decide +kernel
theorem dX1_nearest_26 : decode cX1_nearest 26 = .ok (.lstore 7, 2) := by decide +kernel
theorem dX1_nearest_28 : decode cX1_nearest 28 = .ok (.aload_n 0, 1) := by decide +kernel
theorem dX1_nearest_29 : decode cX1_nearest 29 = .ok (.getfield 56, 3) := by decide +kernel
theorem dX1_nearest_32 : decode cX1_nearest 32 = .ok (.ifCond .le 7, 3) := by decide +kernel
theorem dX1_nearest_35 : decode cX1_nearest 35 = .ok (.iconst 0, 1) := by decide +kernel
theorem dX1_nearest_36 : decode cX1_nearest 36 = .ok (.goto 4, 3) := by decide +kernel
theorem dX1_nearest_39 : decode cX1_nearest 39 = .ok (.iconst (-1), 1) := by decide +kernel
theorem dX1_nearest_40 : decode cX1_nearest 40 = .ok (.istore 9, 2) := by decide +kernel
theorem dX1_nearest_42 : decode cX1_nearest 42 = .ok (.iconst 1, 1) := by decide +kernel
theorem dX1_nearest_43 : decode cX1_nearest 43 = .ok (.istore 10, 2) := by decide +kernel
theorem dX1_nearest_45 : decode cX1_nearest 45 = .ok (.iload 10, 2) := by decide +kernel
theorem dX1_nearest_47 : decode cX1_nearest 47 = .ok (.aload_n 0, 1) := by decide +kernel
theorem dX1_nearest_48 : decode cX1_nearest 48 = .ok (.getfield 56, 3) := by decide +kernel
theorem dX1_nearest_51 : decode cX1_nearest 51 = .ok (.if_icmp .ge 42, 3) := by decide +kernel
theorem dX1_nearest_54 : decode cX1_nearest 54 = .ok (.aload_n 0, 1) := by decide +kernel
theorem dX1_nearest_55 : decode cX1_nearest 55 = .ok (.iload 10, 2) := by decide +kernel
theorem dX1_nearest_57 : decode cX1_nearest 57 = .ok (.lload 5, 2) := by decide +kernel
theorem dX1_nearest_59 : decode cX1_nearest 59 = .ok (.lload 7, 2) := by decide +kernel
theorem dX1_nearest_61 : decode cX1_nearest 61 = .ok (.invokevirtual 139, 3) := by decide +kernel
theorem dX1_nearest_64 : decode cX1_nearest 64 = .ok (.aload_n 0, 1) := by decide +kernel
theorem dX1_nearest_65 : decode cX1_nearest 65 = .ok (.iload 9, 2) := by decide +kernel
theorem dX1_nearest_67 : decode cX1_nearest 67 = .ok (.lload 5, 2) := by decide +kernel
theorem dX1_nearest_69 : decode cX1_nearest 69 = .ok (.lload 7, 2) := by decide +kernel
theorem dX1_nearest_71 : decode cX1_nearest 71 = .ok (.invokevirtual 139, 3) := by decide +kernel
theorem dX1_nearest_74 : decode cX1_nearest 74 = .ok (.lcmp, 1) := by decide +kernel
theorem dX1_nearest_75 : decode cX1_nearest 75 = .ok (.ifCond .ge 8, 3) := by decide +kernel
theorem dX1_nearest_78 : decode cX1_nearest 78 = .ok (.iload 10, 2) := by decide +kernel
theorem dX1_nearest_80 : decode cX1_nearest 80 = .ok (.goto 5, 3) := by decide +kernel
theorem dX1_nearest_83 : decode cX1_nearest 83 = .ok (.iload 9, 2) := by decide +kernel
theorem dX1_nearest_85 : decode cX1_nearest 85 = .ok (.istore 9, 2) := by decide +kernel
theorem dX1_nearest_87 : decode cX1_nearest 87 = .ok (.iinc 10 1, 3) := by decide +kernel
theorem dX1_nearest_90 : decode cX1_nearest 90 = .ok (.goto (-45), 3) := by decide +kernel
theorem dX1_nearest_93 : decode cX1_nearest 93 = .ok (.iload 9, 2) := by decide +kernel
theorem dX1_nearest_95 : decode cX1_nearest 95 = .ok (.ireturn, 1) := by decide +kernel
set_option maxRecDepth 20000 in
theorem ggX1_side_X1_sign : GoodIn wsX1_side wsX1_sign := goodIn_r _ [8] (by decide +kernel) (by decide +kernel)
set_option maxRecDepth 20000 in
theorem gX1_side_X1_sign : GoodIn wsX1_side (wsV RX1 38 RX1 yX1_sign wsX1_sign) := goodIn_app (goodIn_of _ (by decide +kernel)) ggX1_side_X1_sign
theorem dX1_side_0 : decode cX1_side 0 = .ok (.aload_n 0, 1) := by decide +kernel
theorem dX1_side_1 : decode cX1_side 1 = .ok (.aload_n 0, 1) := by decide +kernel
theorem dX1_side_2 : decode cX1_side 2 = .ok (.getfield 7, 3) := by decide +kernel
theorem dX1_side_5 : decode cX1_side 5 = .ok (.iload_n 2, 1) := by decide +kernel
theorem dX1_side_6 : decode cX1_side 6 = .ok (.laload, 1) := by decide +kernel
theorem dX1_side_7 : decode cX1_side 7 = .ok (.aload_n 0, 1) := by decide +kernel
theorem dX1_side_8 : decode cX1_side 8 = .ok (.getfield 7, 3) := by decide +kernel
theorem dX1_side_11 : decode cX1_side 11 = .ok (.iload_n 1, 1) := by decide +kernel
theorem dX1_side_12 : decode cX1_side 12 = .ok (.laload, 1) := by decide +kernel
theorem dX1_side_13 : decode cX1_side 13 = .ok (.lsub, 1) := by decide +kernel
theorem dX1_side_14 : decode cX1_side 14 = .ok (.lload 5, 2) := by decide +kernel
theorem dX1_side_16 : decode cX1_side 16 = .ok (.ldc2_w 131, 3) := by decide +kernel
theorem dX1_side_19 : decode cX1_side 19 = .ok (.aload_n 0, 1) := by decide +kernel
theorem dX1_side_20 : decode cX1_side 20 = .ok (.getfield 13, 3) := by decide +kernel
theorem dX1_side_23 : decode cX1_side 23 = .ok (.iload_n 1, 1) := by decide +kernel
theorem dX1_side_24 : decode cX1_side 24 = .ok (.laload, 1) := by decide +kernel
theorem dX1_side_25 : decode cX1_side 25 = .ok (.lmul, 1) := by decide +kernel
theorem dX1_side_26 : decode cX1_side 26 = .ok (.lsub, 1) := by decide +kernel
theorem dX1_side_27 : decode cX1_side 27 = .ok (.lmul, 1) := by decide +kernel
theorem dX1_side_28 : decode cX1_side 28 = .ok (.aload_n 0, 1) := by decide +kernel
theorem dX1_side_29 : decode cX1_side 29 = .ok (.getfield 13, 3) := by decide +kernel
theorem dX1_side_32 : decode cX1_side 32 = .ok (.iload_n 2, 1) := by decide +kernel
theorem dX1_side_33 : decode cX1_side 33 = .ok (.laload, 1) := by decide +kernel
theorem dX1_side_34 : decode cX1_side 34 = .ok (.aload_n 0, 1) := by decide +kernel
theorem dX1_side_35 : decode cX1_side 35 = .ok (.getfield 13, 3) := by decide +kernel
theorem dX1_side_38 : decode cX1_side 38 = .ok (.iload_n 1, 1) := by decide +kernel
theorem dX1_side_39 : decode cX1_side 39 = .ok (.laload, 1) := by decide +kernel
theorem dX1_side_40 : decode cX1_side 40 = .ok (.lsub, 1) := by decide +kernel
theorem dX1_side_41 : decode cX1_side 41 = .ok (.lload_n 3, 1) := by decide +kernel
theorem dX1_side_42 : decode cX1_side 42 = .ok (.ldc2_w 131, 3) := by decide +kernel
theorem dX1_side_45 : decode cX1_side 45 = .ok (.aload_n 0, 1) := by decide +kernel
theorem dX1_side_46 : decode cX1_side 46 = .ok (.getfield 7, 3) := by decide +kernel
theorem dX1_side_49 : decode cX1_side 49 = .ok (.iload_n 1, 1) := by decide +kernel
theorem dX1_side_50 : decode cX1_side 50 = .ok (.laload, 1) := by decide +kernel
theorem dX1_side_51 : decode cX1_side 51 = .ok (.lmul, 1) := by decide +kernel
theorem dX1_side_52 : decode cX1_side 52 = .ok (.lsub, 1) := by decide +kernel
theorem dX1_side_53 : decode cX1_side 53 = .ok (.lmul, 1) := by decide +kernel
theorem dX1_side_54 : decode cX1_side 54 = .ok (.lsub, 1) := by decide +kernel
theorem dX1_side_55 : decode cX1_side 55 = .ok (.invokevirtual 38, 3) := by decide +kernel
theorem dX1_side_58 : decode cX1_side 58 = .ok (.ireturn, 1) := by decide +kernel
set_option maxRecDepth 20000 in
theorem ggX1_holder_X1_refused : GoodIn wsX1_holder wsX1_refused := goodIn_r _ [10, 11, 12] (by decide +kernel) (by decide +kernel)
set_option maxRecDepth 20000 in
theorem gX1_holder_X1_refused : GoodIn wsX1_holder (wsV RX1 133 RX1 yX1_refused wsX1_refused) := goodIn_app (goodIn_of _ (by decide +kernel)) ggX1_holder_X1_refused
set_option maxRecDepth 20000 in
theorem ggX1_holder_X1_turn : GoodIn wsX1_holder wsX1_turn := goodIn_r _ [16, 17, 18, 19, 20, 21, 9, 22, 28, 29, 30, 31, 32, 33, 34, 35, 36, 37, 38, 39, 40, 41] (by decide +kernel) (by decide +kernel)
set_option maxRecDepth 20000 in
theorem gX1_holder_X1_turn : GoodIn wsX1_holder (wsV RX1 52 RX1 yX1_turn wsX1_turn) := goodIn_app (goodIn_of _ (by decide +kernel)) ggX1_holder_X1_turn
set_option maxRecDepth 20000 in
theorem ggX1_holder_X1_side : GoodIn wsX1_holder wsX1_side := goodIn_r _ [26, 17, 27, 18, 19, 20, 21, 9, 22, 28, 29, 30, 31, 32, 33, 34, 35, 36, 37, 38, 39, 40, 41] (by decide +kernel) (by decide +kernel)
set_option maxRecDepth 20000 in
theorem gX1_holder_X1_side : GoodIn wsX1_holder (wsV RX1 143 RX1 yX1_side wsX1_side) := goodIn_app (goodIn_of _ (by decide +kernel)) ggX1_holder_X1_side
theorem dX1_holder_0 : decode cX1_holder 0 = .ok (.aload_n 0, 1) := by decide +kernel
theorem dX1_holder_1 : decode cX1_holder 1 = .ok (.dload_n 1, 1) := by decide +kernel
theorem dX1_holder_2 : decode cX1_holder 2 = .ok (.dload_n 3, 1) := by decide +kernel
theorem dX1_holder_3 : decode cX1_holder 3 = .ok (.invokevirtual 133, 3) := by decide +kernel
theorem dX1_holder_6 : decode cX1_holder 6 = .ok (.ifCond .eq 6, 3) := by decide +kernel
theorem dX1_holder_9 : decode cX1_holder 9 = .ok (.bipush (-2), 2) := by decide +kernel
theorem dX1_holder_11 : decode cX1_holder 11 = .ok (.ireturn, 1) := by decide +kernel
theorem dX1_holder_12 : decode cX1_holder 12 = .ok (.dload_n 1, 1) := by decide +kernel
theorem dX1_holder_13 : decode cX1_holder 13 = .ok (.ldc2_w 137, 3) := by decide +kernel
theorem dX1_holder_16 : decode cX1_holder 16 = .ok (.dmul, 1) := by decide +kernel
theorem dX1_holder_17 : decode cX1_holder 17 = .ok (.d2l, 1) := by decide +kernel
theorem dX1_holder_18 : decode cX1_holder 18 = .ok (.lstore 5, 2) := by decide +kernel
theorem dX1_holder_20 : decode cX1_holder 20 = .ok (.dload_n 3, 1) := by decide +kernel
theorem dX1_holder_21 : decode cX1_holder 21 = .ok (.ldc2_w 137, 3) := by decide +kernel
theorem dX1_holder_24 : decode cX1_holder 24 = .ok (.dmul, 1) := by decide +kernel
theorem dX1_holder_25 : decode cX1_holder 25 = .ok (.d2l, 1) := by decide +kernel
theorem dX1_holder_26 : decode cX1_holder 26 = .ok (.lstore 7, 2) := by decide +kernel
theorem dX1_holder_28 : decode cX1_holder 28 = .ok (.iconst 0, 1) := by decide +kernel
theorem dX1_holder_29 : decode cX1_holder 29 = .ok (.istore 9, 2) := by decide +kernel
theorem dX1_holder_31 : decode cX1_holder 31 = .ok (.iload 9, 2) := by decide +kernel
theorem dX1_holder_33 : decode cX1_holder 33 = .ok (.aload_n 0, 1) := by decide +kernel
theorem dX1_holder_34 : decode cX1_holder 34 = .ok (.getfield 64, 3) := by decide +kernel
theorem dX1_holder_37 : decode cX1_holder 37 = .ok (.if_icmp .ge 135, 3) := by decide +kernel
theorem dX1_holder_40 : decode cX1_holder 40 = .ok (.aload_n 0, 1) := by decide +kernel
theorem dX1_holder_41 : decode cX1_holder 41 = .ok (.aload_n 0, 1) := by decide +kernel
theorem dX1_holder_42 : decode cX1_holder 42 = .ok (.getfield 16, 3) := by decide +kernel
theorem dX1_holder_45 : decode cX1_holder 45 = .ok (.iload 9, 2) := by decide +kernel
theorem dX1_holder_47 : decode cX1_holder 47 = .ok (.iaload, 1) := by decide +kernel
theorem dX1_holder_48 : decode cX1_holder 48 = .ok (.aload_n 0, 1) := by decide +kernel
theorem dX1_holder_49 : decode cX1_holder 49 = .ok (.getfield 20, 3) := by decide +kernel
theorem dX1_holder_52 : decode cX1_holder 52 = .ok (.iload 9, 2) := by decide +kernel
theorem dX1_holder_54 : decode cX1_holder 54 = .ok (.iaload, 1) := by decide +kernel
theorem dX1_holder_55 : decode cX1_holder 55 = .ok (.aload_n 0, 1) := by decide +kernel
theorem dX1_holder_56 : decode cX1_holder 56 = .ok (.getfield 23, 3) := by decide +kernel
theorem dX1_holder_59 : decode cX1_holder 59 = .ok (.iload 9, 2) := by decide +kernel
theorem dX1_holder_61 : decode cX1_holder 61 = .ok (.iaload, 1) := by decide +kernel
theorem dX1_holder_62 : decode cX1_holder 62 = .ok (.invokevirtual 52, 3) := by decide +kernel
theorem dX1_holder_65 : decode cX1_holder 65 = .ok (.istore 10, 2) := by decide +kernel
theorem dX1_holder_67 : decode cX1_holder 67 = .ok (.aload_n 0, 1) := by decide +kernel
theorem dX1_holder_68 : decode cX1_holder 68 = .ok (.aload_n 0, 1) := by decide +kernel
theorem dX1_holder_69 : decode cX1_holder 69 = .ok (.getfield 16, 3) := by decide +kernel
theorem dX1_holder_72 : decode cX1_holder 72 = .ok (.iload 9, 2) := by decide +kernel
theorem dX1_holder_74 : decode cX1_holder 74 = .ok (.iaload, 1) := by decide +kernel
theorem dX1_holder_75 : decode cX1_holder 75 = .ok (.aload_n 0, 1) := by decide +kernel
theorem dX1_holder_76 : decode cX1_holder 76 = .ok (.getfield 20, 3) := by decide +kernel
theorem dX1_holder_79 : decode cX1_holder 79 = .ok (.iload 9, 2) := by decide +kernel
theorem dX1_holder_81 : decode cX1_holder 81 = .ok (.iaload, 1) := by decide +kernel
theorem dX1_holder_82 : decode cX1_holder 82 = .ok (.lload 5, 2) := by decide +kernel
theorem dX1_holder_84 : decode cX1_holder 84 = .ok (.lload 7, 2) := by decide +kernel
theorem dX1_holder_86 : decode cX1_holder 86 = .ok (.invokevirtual 143, 3) := by decide +kernel
theorem dX1_holder_89 : decode cX1_holder 89 = .ok (.iload 10, 2) := by decide +kernel
theorem dX1_holder_91 : decode cX1_holder 91 = .ok (.imul, 1) := by decide +kernel
theorem dX1_holder_92 : decode cX1_holder 92 = .ok (.istore 11, 2) := by decide +kernel
theorem dX1_holder_94 : decode cX1_holder 94 = .ok (.aload_n 0, 1) := by decide +kernel
theorem dX1_holder_95 : decode cX1_holder 95 = .ok (.aload_n 0, 1) := by decide +kernel
theorem dX1_holder_96 : decode cX1_holder 96 = .ok (.getfield 20, 3) := by decide +kernel
theorem dX1_holder_99 : decode cX1_holder 99 = .ok (.iload 9, 2) := by decide +kernel
theorem dX1_holder_101 : decode cX1_holder 101 = .ok (.iaload, 1) := by decide +kernel
theorem dX1_holder_102 : decode cX1_holder 102 = .ok (.aload_n 0, 1) := by decide +kernel
theorem dX1_holder_103 : decode cX1_holder 103 = .ok (.getfield 23, 3) := by decide +kernel
theorem dX1_holder_106 : decode cX1_holder 106 = .ok (.iload 9, 2) := by decide +kernel
theorem dX1_holder_108 : decode cX1_holder 108 = .ok (.iaload, 1) := by decide +kernel
theorem dX1_holder_109 : decode cX1_holder 109 = .ok (.lload 5, 2) := by decide +kernel
theorem dX1_holder_111 : decode cX1_holder 111 = .ok (.lload 7, 2) := by decide +kernel
theorem dX1_holder_113 : decode cX1_holder 113 = .ok (.invokevirtual 143, 3) := by decide +kernel
theorem dX1_holder_116 : decode cX1_holder 116 = .ok (.iload 10, 2) := by decide +kernel
theorem dX1_holder_118 : decode cX1_holder 118 = .ok (.imul, 1) := by decide +kernel
theorem dX1_holder_119 : decode cX1_holder 119 = .ok (.istore 12, 2) := by decide +kernel
theorem dX1_holder_121 : decode cX1_holder 121 = .ok (.aload_n 0, 1) := by decide +kernel
theorem dX1_holder_122 : decode cX1_holder 122 = .ok (.aload_n 0, 1) := by decide +kernel
theorem dX1_holder_123 : decode cX1_holder 123 = .ok (.getfield 23, 3) := by decide +kernel
theorem dX1_holder_126 : decode cX1_holder 126 = .ok (.iload 9, 2) := by decide +kernel
theorem dX1_holder_128 : decode cX1_holder 128 = .ok (.iaload, 1) := by decide +kernel
theorem dX1_holder_129 : decode cX1_holder 129 = .ok (.aload_n 0, 1) := by decide +kernel
theorem dX1_holder_130 : decode cX1_holder 130 = .ok (.getfield 16, 3) := by decide +kernel
theorem dX1_holder_133 : decode cX1_holder 133 = .ok (.iload 9, 2) := by decide +kernel
theorem dX1_holder_135 : decode cX1_holder 135 = .ok (.iaload, 1) := by decide +kernel
theorem dX1_holder_136 : decode cX1_holder 136 = .ok (.lload 5, 2) := by decide +kernel
theorem dX1_holder_138 : decode cX1_holder 138 = .ok (.lload 7, 2) := by decide +kernel
theorem dX1_holder_140 : decode cX1_holder 140 = .ok (.invokevirtual 143, 3) := by decide +kernel
theorem dX1_holder_143 : decode cX1_holder 143 = .ok (.iload 10, 2) := by decide +kernel
theorem dX1_holder_145 : decode cX1_holder 145 = .ok (.imul, 1) := by decide +kernel
theorem dX1_holder_146 : decode cX1_holder 146 = .ok (.istore 13, 2) := by decide +kernel
theorem dX1_holder_148 : decode cX1_holder 148 = .ok (.iload 11, 2) := by decide +kernel
theorem dX1_holder_150 : decode cX1_holder 150 = .ok (.ifCond .lt 16, 3) := by decide +kernel
theorem dX1_holder_153 : decode cX1_holder 153 = .ok (.iload 12, 2) := by decide +kernel
theorem dX1_holder_155 : decode cX1_holder 155 = .ok (.ifCond .lt 11, 3) := by decide +kernel
theorem dX1_holder_158 : decode cX1_holder 158 = .ok (.iload 13, 2) := by decide +kernel
theorem dX1_holder_160 : decode cX1_holder 160 = .ok (.ifCond .lt 6, 3) := by decide +kernel
theorem dX1_holder_163 : decode cX1_holder 163 = .ok (.iload 9, 2) := by decide +kernel
theorem dX1_holder_165 : decode cX1_holder 165 = .ok (.ireturn, 1) := by decide +kernel
theorem dX1_holder_166 : decode cX1_holder 166 = .ok (.iinc 9 1, 3) := by decide +kernel
theorem dX1_holder_169 : decode cX1_holder 169 = .ok (.goto (-138), 3) := by decide +kernel
theorem dX1_holder_172 : decode cX1_holder 172 = .ok (.iconst (-1), 1) := by decide +kernel
theorem dX1_holder_173 : decode cX1_holder 173 = .ok (.ireturn, 1) := by decide +kernel
set_option maxRecDepth 20000 in
theorem ggX1_square_X1_refused : GoodIn wsX1_square wsX1_refused := goodIn_r _ [9, 10, 11] (by decide +kernel) (by decide +kernel)
set_option maxRecDepth 20000 in
theorem gX1_square_X1_refused : GoodIn wsX1_square (wsV RX1 133 RX1 yX1_refused wsX1_refused) := goodIn_app (goodIn_of _ (by decide +kernel)) ggX1_square_X1_refused
set_option maxRecDepth 20000 in
theorem ggX1_square_X1_noSite : GoodIn wsX1_square wsX1_noSite := goodIn_r _ [15, 16, 24, 25, 26, 27, 28, 29, 30, 31, 32, 33, 34, 35, 36, 37] (by decide +kernel) (by decide +kernel)
set_option maxRecDepth 20000 in
theorem gX1_square_X1_noSite : GoodIn wsX1_square (wsV RX1 124 RX1 yX1_noSite wsX1_noSite) := goodIn_app (goodIn_of _ (by decide +kernel)) ggX1_square_X1_noSite
set_option maxRecDepth 20000 in
theorem ggX1_square_X1_far : GoodIn wsX1_square wsX1_far := goodIn_r _ [20, 21, 22, 23, 24, 25, 26, 27, 28, 29, 30, 31, 32, 33, 34, 35, 36, 37] (by decide +kernel) (by decide +kernel)
set_option maxRecDepth 20000 in
theorem gX1_square_X1_far : GoodIn wsX1_square (wsV RX1 139 RX1 yX1_far wsX1_far) := goodIn_app (goodIn_of _ (by decide +kernel)) ggX1_square_X1_far
theorem dX1_square_0 : decode cX1_square 0 = .ok (.aload_n 0, 1) := by decide +kernel
theorem dX1_square_1 : decode cX1_square 1 = .ok (.dload_n 2, 1) := by decide +kernel
theorem dX1_square_2 : decode cX1_square 2 = .ok (.dload 4, 2) := by decide +kernel
theorem dX1_square_4 : decode cX1_square 4 = .ok (.invokevirtual 133, 3) := by decide +kernel
theorem dX1_square_7 : decode cX1_square 7 = .ok (.ifCond .eq 7, 3) := by decide +kernel
theorem dX1_square_10 : decode cX1_square 10 = .ok (.ldc2_w 147, 3) := by decide +kernel
theorem dX1_square_13 : decode cX1_square 13 = .ok (.dreturn, 1) := by decide +kernel
theorem dX1_square_14 : decode cX1_square 14 = .ok (.aload_n 0, 1) := by decide +kernel
theorem dX1_square_15 : decode cX1_square 15 = .ok (.iload_n 1, 1) := by decide +kernel
theorem dX1_square_16 : decode cX1_square 16 = .ok (.invokevirtual 124, 3) := by decide +kernel
theorem dX1_square_19 : decode cX1_square 19 = .ok (.ifCond .eq 9, 3) := by decide +kernel
theorem dX1_square_22 : decode cX1_square 22 = .ok (.ldc2_w 149, 3) := by decide +kernel
theorem dX1_square_25 : decode cX1_square 25 = .ok (.goto 26, 3) := by decide +kernel
theorem dX1_square_28 : decode cX1_square 28 = .ok (.aload_n 0, 1) := by decide +kernel
theorem dX1_square_29 : decode cX1_square 29 = .ok (.iload_n 1, 1) := by decide +kernel
theorem dX1_square_30 : decode cX1_square 30 = .ok (.dload_n 2, 1) := by decide +kernel
theorem dX1_square_31 : decode cX1_square 31 = .ok (.ldc2_w 137, 3) := by decide +kernel
theorem dX1_square_34 : decode cX1_square 34 = .ok (.dmul, 1) := by decide +kernel
theorem dX1_square_35 : decode cX1_square 35 = .ok (.d2l, 1) := by decide +kernel
theorem dX1_square_36 : decode cX1_square 36 = .ok (.dload 4, 2) := by decide +kernel
theorem dX1_square_38 : decode cX1_square 38 = .ok (.ldc2_w 137, 3) := by decide +kernel
theorem dX1_square_41 : decode cX1_square 41 = .ok (.dmul, 1) := by decide +kernel
theorem dX1_square_42 : decode cX1_square 42 = .ok (.d2l, 1) := by decide +kernel
theorem dX1_square_43 : decode cX1_square 43 = .ok (.invokevirtual 139, 3) := by decide +kernel
theorem dX1_square_46 : decode cX1_square 46 = .ok (.l2d, 1) := by decide +kernel
theorem dX1_square_47 : decode cX1_square 47 = .ok (.ldc2_w 151, 3) := by decide +kernel
theorem dX1_square_50 : decode cX1_square 50 = .ok (.ddiv, 1) := by decide +kernel
theorem dX1_square_51 : decode cX1_square 51 = .ok (.dreturn, 1) := by decide +kernel
theorem dX1_tree_0 : decode cX1_tree 0 = .ok (.iload_n 1, 1) := by decide +kernel
theorem dX1_tree_1 : decode cX1_tree 1 = .ok (.ifCond .lt 11, 3) := by decide +kernel
theorem dX1_tree_4 : decode cX1_tree 4 = .ok (.iload_n 1, 1) := by decide +kernel
theorem dX1_tree_5 : decode cX1_tree 5 = .ok (.aload_n 0, 1) := by decide +kernel
theorem dX1_tree_6 : decode cX1_tree 6 = .ok (.getfield 93, 3) := by decide +kernel
theorem dX1_tree_9 : decode cX1_tree 9 = .ok (.if_icmp .lt 7, 3) := by decide +kernel
theorem dX1_tree_12 : decode cX1_tree 12 = .ok (.iconst (-1), 1) := by decide +kernel
theorem dX1_tree_13 : decode cX1_tree 13 = .ok (.goto 19, 3) := by decide +kernel
theorem dX1_tree_16 : decode cX1_tree 16 = .ok (.aload_n 0, 1) := by decide +kernel
theorem dX1_tree_17 : decode cX1_tree 17 = .ok (.getfield 29, 3) := by decide +kernel
theorem dX1_tree_20 : decode cX1_tree 20 = .ok (.iload_n 1, 1) := by decide +kernel
theorem dX1_tree_21 : decode cX1_tree 21 = .ok (.iaload, 1) := by decide +kernel
theorem dX1_tree_22 : decode cX1_tree 22 = .ok (.bipush 16, 2) := by decide +kernel
theorem dX1_tree_24 : decode cX1_tree 24 = .ok (.aload_n 0, 1) := by decide +kernel
theorem dX1_tree_25 : decode cX1_tree 25 = .ok (.getfield 32, 3) := by decide +kernel
theorem dX1_tree_28 : decode cX1_tree 28 = .ok (.iload_n 1, 1) := by decide +kernel
theorem dX1_tree_29 : decode cX1_tree 29 = .ok (.iaload, 1) := by decide +kernel
theorem dX1_tree_30 : decode cX1_tree 30 = .ok (.imul, 1) := by decide +kernel
theorem dX1_tree_31 : decode cX1_tree 31 = .ok (.iadd, 1) := by decide +kernel
theorem dX1_tree_32 : decode cX1_tree 32 = .ok (.ireturn, 1) := by decide +kernel
theorem dX1_total_0 : decode cX1_total 0 = .ok (.aload_n 0, 1) := by decide +kernel
theorem dX1_total_1 : decode cX1_total 1 = .ok (.getfield 96, 3) := by decide +kernel
theorem dX1_total_4 : decode cX1_total 4 = .ok (.lreturn, 1) := by decide +kernel
set_option maxRecDepth 20000 in
theorem ggX1_bounded_X1_noSite : GoodIn wsX1_bounded wsX1_noSite := goodIn_r _ [6, 1, 17, 18, 19, 20, 21, 22, 23, 24, 25, 26, 27, 28, 29, 30] (by decide +kernel) (by decide +kernel)
set_option maxRecDepth 20000 in
theorem gX1_bounded_X1_noSite : GoodIn wsX1_bounded (wsV RX1 124 RX1 yX1_noSite wsX1_noSite) := goodIn_app (goodIn_of _ (by decide +kernel)) ggX1_bounded_X1_noSite
set_option maxRecDepth 20000 in
theorem ggX1_bounded_X1_turn : GoodIn wsX1_bounded wsX1_turn := goodIn_r _ [10, 11, 12, 13, 14, 15, 5, 16, 17, 18, 19, 20, 21, 22, 23, 24, 25, 26, 27, 28, 29, 30] (by decide +kernel) (by decide +kernel)
set_option maxRecDepth 20000 in
theorem gX1_bounded_X1_turn : GoodIn wsX1_bounded (wsV RX1 52 RX1 yX1_turn wsX1_turn) := goodIn_app (goodIn_of _ (by decide +kernel)) ggX1_bounded_X1_turn
theorem dX1_bounded_0 : decode cX1_bounded 0 = .ok (.aload_n 0, 1) := by decide +kernel
theorem dX1_bounded_1 : decode cX1_bounded 1 = .ok (.iload_n 1, 1) := by decide +kernel
theorem dX1_bounded_2 : decode cX1_bounded 2 = .ok (.invokevirtual 124, 3) := by decide +kernel
theorem dX1_bounded_5 : decode cX1_bounded 5 = .ok (.ifCond .ne 15, 3) := by decide +kernel
theorem dX1_bounded_8 : decode cX1_bounded 8 = .ok (.aload_n 0, 1) := by decide +kernel
theorem dX1_bounded_9 : decode cX1_bounded 9 = .ok (.getfield 56, 3) := by decide +kernel
theorem dX1_bounded_12 : decode cX1_bounded 12 = .ok (.iconst 1, 1) := by decide +kernel
theorem dX1_bounded_13 : decode cX1_bounded 13 = .ok (.if_icmp .le 7, 3) := by decide +kernel
theorem dX1_bounded_16 : decode cX1_bounded 16 = .ok (.iconst 1, 1) := by decide +kernel
theorem dX1_bounded_17 : decode cX1_bounded 17 = .ok (.goto 4, 3) := by decide +kernel
theorem dX1_bounded_20 : decode cX1_bounded 20 = .ok (.iconst 0, 1) := by decide +kernel
theorem dX1_bounded_21 : decode cX1_bounded 21 = .ok (.istore_n 2, 1) := by decide +kernel
theorem dX1_bounded_22 : decode cX1_bounded 22 = .ok (.iconst 0, 1) := by decide +kernel
theorem dX1_bounded_23 : decode cX1_bounded 23 = .ok (.istore_n 3, 1) := by decide +kernel
theorem dX1_bounded_24 : decode cX1_bounded 24 = .ok (.iload_n 3, 1) := by decide +kernel
theorem dX1_bounded_25 : decode cX1_bounded 25 = .ok (.aload_n 0, 1) := by decide +kernel
theorem dX1_bounded_26 : decode cX1_bounded 26 = .ok (.getfield 56, 3) := by decide +kernel
theorem dX1_bounded_29 : decode cX1_bounded 29 = .ok (.if_icmp .ge 77, 3) := by decide +kernel
theorem dX1_bounded_32 : decode cX1_bounded 32 = .ok (.iload_n 2, 1) := by decide +kernel
theorem dX1_bounded_33 : decode cX1_bounded 33 = .ok (.ifCond .eq 73, 3) := by decide +kernel
theorem dX1_bounded_36 : decode cX1_bounded 36 = .ok (.iload_n 3, 1) := by decide +kernel
theorem dX1_bounded_37 : decode cX1_bounded 37 = .ok (.iload_n 1, 1) := by decide +kernel
theorem dX1_bounded_38 : decode cX1_bounded 38 = .ok (.if_icmp .eq 7, 3) := by decide +kernel
theorem dX1_bounded_41 : decode cX1_bounded 41 = .ok (.iconst 1, 1) := by decide +kernel
theorem dX1_bounded_42 : decode cX1_bounded 42 = .ok (.goto 4, 3) := by decide +kernel
theorem dX1_bounded_45 : decode cX1_bounded 45 = .ok (.iconst 0, 1) := by decide +kernel
theorem dX1_bounded_46 : decode cX1_bounded 46 = .ok (.istore 4, 2) := by decide +kernel
theorem dX1_bounded_48 : decode cX1_bounded 48 = .ok (.iconst 0, 1) := by decide +kernel
theorem dX1_bounded_49 : decode cX1_bounded 49 = .ok (.istore 5, 2) := by decide +kernel
theorem dX1_bounded_51 : decode cX1_bounded 51 = .ok (.iload 5, 2) := by decide +kernel
theorem dX1_bounded_53 : decode cX1_bounded 53 = .ok (.aload_n 0, 1) := by decide +kernel
theorem dX1_bounded_54 : decode cX1_bounded 54 = .ok (.getfield 56, 3) := by decide +kernel
theorem dX1_bounded_57 : decode cX1_bounded 57 = .ok (.if_icmp .ge 32, 3) := by decide +kernel
theorem dX1_bounded_60 : decode cX1_bounded 60 = .ok (.iload 4, 2) := by decide +kernel
theorem dX1_bounded_62 : decode cX1_bounded 62 = .ok (.ifCond .eq 27, 3) := by decide +kernel
theorem dX1_bounded_65 : decode cX1_bounded 65 = .ok (.aload_n 0, 1) := by decide +kernel
theorem dX1_bounded_66 : decode cX1_bounded 66 = .ok (.iload_n 1, 1) := by decide +kernel
theorem dX1_bounded_67 : decode cX1_bounded 67 = .ok (.iload_n 3, 1) := by decide +kernel
theorem dX1_bounded_68 : decode cX1_bounded 68 = .ok (.iload 5, 2) := by decide +kernel
theorem dX1_bounded_70 : decode cX1_bounded 70 = .ok (.invokevirtual 52, 3) := by decide +kernel
theorem dX1_bounded_73 : decode cX1_bounded 73 = .ok (.ifCond .lt 7, 3) := by decide +kernel
theorem dX1_bounded_76 : decode cX1_bounded 76 = .ok (.iconst 1, 1) := by decide +kernel
theorem dX1_bounded_77 : decode cX1_bounded 77 = .ok (.goto 4, 3) := by decide +kernel
theorem dX1_bounded_80 : decode cX1_bounded 80 = .ok (.iconst 0, 1) := by decide +kernel
theorem dX1_bounded_81 : decode cX1_bounded 81 = .ok (.istore 4, 2) := by decide +kernel
theorem dX1_bounded_83 : decode cX1_bounded 83 = .ok (.iinc 5 1, 3) := by decide +kernel
theorem dX1_bounded_86 : decode cX1_bounded 86 = .ok (.goto (-35), 3) := by decide +kernel
theorem dX1_bounded_89 : decode cX1_bounded 89 = .ok (.iload 4, 2) := by decide +kernel
theorem dX1_bounded_91 : decode cX1_bounded 91 = .ok (.ifCond .ne 7, 3) := by decide +kernel
theorem dX1_bounded_94 : decode cX1_bounded 94 = .ok (.iconst 1, 1) := by decide +kernel
theorem dX1_bounded_95 : decode cX1_bounded 95 = .ok (.goto 4, 3) := by decide +kernel
theorem dX1_bounded_98 : decode cX1_bounded 98 = .ok (.iconst 0, 1) := by decide +kernel
theorem dX1_bounded_99 : decode cX1_bounded 99 = .ok (.istore_n 2, 1) := by decide +kernel
theorem dX1_bounded_100 : decode cX1_bounded 100 = .ok (.iinc 3 1, 3) := by decide +kernel
theorem dX1_bounded_103 : decode cX1_bounded 103 = .ok (.goto (-79), 3) := by decide +kernel
theorem dX1_bounded_106 : decode cX1_bounded 106 = .ok (.iload_n 2, 1) := by decide +kernel
theorem dX1_bounded_107 : decode cX1_bounded 107 = .ok (.ireturn, 1) := by decide +kernel
theorem dJ6_bitCount_0f7a4_0 : decode cJ6_bitCount_0f7a4 0 = .ok (.iload_n 0, 1) := by decide +kernel
theorem dJ6_bitCount_0f7a4_1 : decode cJ6_bitCount_0f7a4 1 = .ok (.iload_n 0, 1) := by decide +kernel
theorem dJ6_bitCount_0f7a4_2 : decode cJ6_bitCount_0f7a4 2 = .ok (.iconst 1, 1) := by decide +kernel
theorem dJ6_bitCount_0f7a4_3 : decode cJ6_bitCount_0f7a4 3 = .ok (.iushr, 1) := by decide +kernel
theorem dJ6_bitCount_0f7a4_4 : decode cJ6_bitCount_0f7a4 4 = .ok (.ldc_w 265, 3) := by decide +kernel
theorem dJ6_bitCount_0f7a4_7 : decode cJ6_bitCount_0f7a4 7 = .ok (.iand, 1) := by decide +kernel
theorem dJ6_bitCount_0f7a4_8 : decode cJ6_bitCount_0f7a4 8 = .ok (.isub, 1) := by decide +kernel
theorem dJ6_bitCount_0f7a4_9 : decode cJ6_bitCount_0f7a4 9 = .ok (.istore_n 0, 1) := by decide +kernel
theorem dJ6_bitCount_0f7a4_10 : decode cJ6_bitCount_0f7a4 10 = .ok (.iload_n 0, 1) := by decide +kernel
theorem dJ6_bitCount_0f7a4_11 : decode cJ6_bitCount_0f7a4 11 = .ok (.ldc_w 266, 3) := by decide +kernel
theorem dJ6_bitCount_0f7a4_14 : decode cJ6_bitCount_0f7a4 14 = .ok (.iand, 1) := by decide +kernel
theorem dJ6_bitCount_0f7a4_15 : decode cJ6_bitCount_0f7a4 15 = .ok (.iload_n 0, 1) := by decide +kernel
theorem dJ6_bitCount_0f7a4_16 : decode cJ6_bitCount_0f7a4 16 = .ok (.iconst 2, 1) := by decide +kernel
theorem dJ6_bitCount_0f7a4_17 : decode cJ6_bitCount_0f7a4 17 = .ok (.iushr, 1) := by decide +kernel
theorem dJ6_bitCount_0f7a4_18 : decode cJ6_bitCount_0f7a4 18 = .ok (.ldc_w 266, 3) := by decide +kernel
theorem dJ6_bitCount_0f7a4_21 : decode cJ6_bitCount_0f7a4 21 = .ok (.iand, 1) := by decide +kernel
theorem dJ6_bitCount_0f7a4_22 : decode cJ6_bitCount_0f7a4 22 = .ok (.iadd, 1) := by decide +kernel
theorem dJ6_bitCount_0f7a4_23 : decode cJ6_bitCount_0f7a4 23 = .ok (.istore_n 0, 1) := by decide +kernel
theorem dJ6_bitCount_0f7a4_24 : decode cJ6_bitCount_0f7a4 24 = .ok (.iload_n 0, 1) := by decide +kernel
theorem dJ6_bitCount_0f7a4_25 : decode cJ6_bitCount_0f7a4 25 = .ok (.iload_n 0, 1) := by decide +kernel
theorem dJ6_bitCount_0f7a4_26 : decode cJ6_bitCount_0f7a4 26 = .ok (.iconst 4, 1) := by decide +kernel
theorem dJ6_bitCount_0f7a4_27 : decode cJ6_bitCount_0f7a4 27 = .ok (.iushr, 1) := by decide +kernel
theorem dJ6_bitCount_0f7a4_28 : decode cJ6_bitCount_0f7a4 28 = .ok (.iadd, 1) := by decide +kernel
theorem dJ6_bitCount_0f7a4_29 : decode cJ6_bitCount_0f7a4 29 = .ok (.ldc_w 267, 3) := by decide +kernel
theorem dJ6_bitCount_0f7a4_32 : decode cJ6_bitCount_0f7a4 32 = .ok (.iand, 1) := by decide +kernel
theorem dJ6_bitCount_0f7a4_33 : decode cJ6_bitCount_0f7a4 33 = .ok (.istore_n 0, 1) := by decide +kernel
theorem dJ6_bitCount_0f7a4_34 : decode cJ6_bitCount_0f7a4 34 = .ok (.iload_n 0, 1) := by decide +kernel
theorem dJ6_bitCount_0f7a4_35 : decode cJ6_bitCount_0f7a4 35 = .ok (.iload_n 0, 1) := by decide +kernel
theorem dJ6_bitCount_0f7a4_36 : decode cJ6_bitCount_0f7a4 36 = .ok (.bipush 8, 2) := by decide +kernel
theorem dJ6_bitCount_0f7a4_38 : decode cJ6_bitCount_0f7a4 38 = .ok (.iushr, 1) := by decide +kernel
theorem dJ6_bitCount_0f7a4_39 : decode cJ6_bitCount_0f7a4 39 = .ok (.iadd, 1) := by decide +kernel
theorem dJ6_bitCount_0f7a4_40 : decode cJ6_bitCount_0f7a4 40 = .ok (.istore_n 0, 1) := by decide +kernel
theorem dJ6_bitCount_0f7a4_41 : decode cJ6_bitCount_0f7a4 41 = .ok (.iload_n 0, 1) := by decide +kernel
theorem dJ6_bitCount_0f7a4_42 : decode cJ6_bitCount_0f7a4 42 = .ok (.iload_n 0, 1) := by decide +kernel
theorem dJ6_bitCount_0f7a4_43 : decode cJ6_bitCount_0f7a4 43 = .ok (.bipush 16, 2) := by decide +kernel
theorem dJ6_bitCount_0f7a4_45 : decode cJ6_bitCount_0f7a4 45 = .ok (.iushr, 1) := by decide +kernel
theorem dJ6_bitCount_0f7a4_46 : decode cJ6_bitCount_0f7a4 46 = .ok (.iadd, 1) := by decide +kernel
theorem dJ6_bitCount_0f7a4_47 : decode cJ6_bitCount_0f7a4 47 = .ok (.istore_n 0, 1) := by decide +kernel
theorem dJ6_bitCount_0f7a4_48 : decode cJ6_bitCount_0f7a4 48 = .ok (.iload_n 0, 1) := by decide +kernel
theorem dJ6_bitCount_0f7a4_49 : decode cJ6_bitCount_0f7a4 49 = .ok (.bipush 63, 2) := by decide +kernel
theorem dJ6_bitCount_0f7a4_51 : decode cJ6_bitCount_0f7a4 51 = .ok (.iand, 1) := by decide +kernel
theorem dJ6_bitCount_0f7a4_52 : decode cJ6_bitCount_0f7a4 52 = .ok (.ireturn, 1) := by decide +kernel
theorem dJ9_abs_067f4_0 : decode cJ9_abs_067f4 0 = .ok (.lload_n 0, 1) := by decide +kernel
theorem dJ9_abs_067f4_1 : decode cJ9_abs_067f4 1 = .ok (.lconst 0, 1) := by decide +kernel
theorem dJ9_abs_067f4_2 : decode cJ9_abs_067f4 2 = .ok (.lcmp, 1) := by decide +kernel
theorem dJ9_abs_067f4_3 : decode cJ9_abs_067f4 3 = .ok (.ifCond .ge 8, 3) := by decide +kernel
theorem dJ9_abs_067f4_6 : decode cJ9_abs_067f4 6 = .ok (.lload_n 0, 1) := by decide +kernel
theorem dJ9_abs_067f4_7 : decode cJ9_abs_067f4 7 = .ok (.lneg, 1) := by decide +kernel
theorem dJ9_abs_067f4_8 : decode cJ9_abs_067f4 8 = .ok (.goto 4, 3) := by decide +kernel
theorem dJ9_abs_067f4_11 : decode cJ9_abs_067f4 11 = .ok (.lload_n 0, 1) := by decide +kernel
theorem dJ9_abs_067f4_12 : decode cJ9_abs_067f4 12 = .ok (.lreturn, 1) := by decide +kernel
set_option maxRecDepth 20000 in
theorem ggL_law_X0_init : GoodIn wsL_law wsX0_init := goodIn_r _ [9, 10, 11, 12, 13, 14, 15, 16, 17, 18, 19, 20, 21, 22, 23, 24, 25, 420, 421, 422, 423, 424, 425, 426, 427, 428, 429, 430, 431] (by decide +kernel) (by decide +kernel)
set_option maxRecDepth 20000 in
theorem gL_law_X0_init : GoodIn wsL_law (wsX0_init) := ggL_law_X0_init
set_option maxRecDepth 20000 in
theorem ggL_law_X1_init : GoodIn wsL_law wsX1_init := goodIn_r _ [28, 29, 11, 12, 30, 31, 32, 13, 33, 34, 35, 36, 37, 38, 39, 432, 433, 434, 435, 436, 437, 438, 439, 440, 441, 442, 443, 444, 445] (by decide +kernel) (by decide +kernel)
set_option maxRecDepth 20000 in
theorem gL_law_X1_init : GoodIn wsL_law (wsX1_init) := ggL_law_X1_init
set_option maxRecDepth 20000 in
theorem ggL_law_X0_add : GoodIn wsL_law wsX0_add := goodIn_r _ [43, 16, 14, 15, 44, 45, 2, 46, 47, 48, 49, 50, 51, 52, 53, 54, 55, 56, 57, 58, 18, 59, 60, 61, 62, 63, 64, 65, 66, 67, 68, 69, 70, 71, 72, 73, 74, 75, 76, 77, 78, 79, 80, 81, 82, 83, 84, 85, 86, 87, 17, 88, 89, 90, 91, 19, 92, 93, 94, 95, 96, 97, 98, 99, 100, 101, 102, 103, 104, 105, 106, 107, 108, 109, 110, 111, 112, 113, 114, 115, 116, 117, 118, 119, 120, 121, 122, 123, 124, 125, 126, 127, 128, 129, 130, 131, 132, 133, 134, 135, 21, 20, 136, 137, 138, 139, 23, 24, 25, 140, 141, 142, 143, 144, 145, 146, 147, 148, 149, 150, 151, 22, 420, 421, 422, 423, 424, 425, 426, 427, 428, 429, 430, 431] (by decide +kernel) (by decide +kernel)
set_option maxRecDepth 20000 in
theorem gL_law_X0_add : GoodIn wsL_law (wsV RL 13 RX0 yX0_add wsX0_add) := goodIn_app (goodIn_of _ (by decide +kernel)) ggL_law_X0_add
set_option maxRecDepth 20000 in
theorem ggL_law_X1_add : GoodIn wsL_law wsX1_add := goodIn_r _ [155, 156, 31, 32, 157, 158, 159, 5, 160, 161, 33, 34, 35, 162, 163, 164, 165, 166, 167, 168, 169, 170, 171, 172, 173, 174, 175, 176, 177, 178, 179, 180, 181, 182, 183, 184, 185, 186, 187, 188, 189, 190, 191, 36, 192, 193, 194, 195, 196, 197, 198, 199, 200, 201, 202, 203, 204, 205, 206, 207, 208, 209, 210, 211, 212, 213, 39, 37, 38, 214, 215, 216, 217, 218, 219, 220, 221, 222, 223, 224, 225, 432, 433, 434, 435, 436, 437, 438, 439, 440, 441, 442, 443, 444, 445] (by decide +kernel) (by decide +kernel)
set_option maxRecDepth 20000 in
theorem gL_law_X1_add : GoodIn wsL_law (wsV RL 17 RX1 yX1_add wsX1_add) := goodIn_app (goodIn_of _ (by decide +kernel)) ggL_law_X1_add
set_option maxRecDepth 20000 in
theorem ggL_law_X0_sites : GoodIn wsL_law wsX0_sites := goodIn_r _ [229, 16, 420, 421, 422, 423, 424, 425, 426, 427, 428, 429, 430, 431] (by decide +kernel) (by decide +kernel)
set_option maxRecDepth 20000 in
theorem gL_law_X0_sites : GoodIn wsL_law (wsV RL 18 RX0 yX0_sites wsX0_sites) := goodIn_app (goodIn_of _ (by decide +kernel)) ggL_law_X0_sites
set_option maxRecDepth 20000 in
theorem ggL_law_X1_sites : GoodIn wsL_law wsX1_sites := goodIn_r _ [233, 156, 432, 433, 434, 435, 436, 437, 438, 439, 440, 441, 442, 443, 444, 445] (by decide +kernel) (by decide +kernel)
set_option maxRecDepth 20000 in
theorem gL_law_X1_sites : GoodIn wsL_law (wsV RL 22 RX1 yX1_sites wsX1_sites) := goodIn_app (goodIn_of _ (by decide +kernel)) ggL_law_X1_sites
set_option maxRecDepth 20000 in
theorem ggL_law_X0_triangles : GoodIn wsL_law wsX0_triangles := goodIn_r _ [237, 18, 420, 421, 422, 423, 424, 425, 426, 427, 428, 429, 430, 431] (by decide +kernel) (by decide +kernel)
set_option maxRecDepth 20000 in
theorem gL_law_X0_triangles : GoodIn wsL_law (wsV RL 23 RX0 yX0_triangles wsX0_triangles) := goodIn_app (goodIn_of _ (by decide +kernel)) ggL_law_X0_triangles
set_option maxRecDepth 20000 in
theorem ggL_law_X1_triangles : GoodIn wsL_law wsX1_triangles := goodIn_r _ [241, 161, 432, 433, 434, 435, 436, 437, 438, 439, 440, 441, 442, 443, 444, 445] (by decide +kernel) (by decide +kernel)
set_option maxRecDepth 20000 in
theorem gL_law_X1_triangles : GoodIn wsL_law (wsV RL 26 RX1 yX1_triangles wsX1_triangles) := goodIn_app (goodIn_of _ (by decide +kernel)) ggL_law_X1_triangles
set_option maxRecDepth 20000 in
theorem ggL_law_X0_triangle : GoodIn wsL_law wsX0_triangle := goodIn_r _ [245, 17, 96, 97, 98, 2, 99, 18, 420, 421, 422, 423, 424, 425, 426, 427, 428, 429, 430, 431] (by decide +kernel) (by decide +kernel)
set_option maxRecDepth 20000 in
theorem gL_law_X0_triangle : GoodIn wsL_law (wsV RL 27 RX0 yX0_triangle wsX0_triangle) := goodIn_app (goodIn_of _ (by decide +kernel)) ggL_law_X0_triangle
set_option maxRecDepth 20000 in
theorem ggL_law_X1_triangle : GoodIn wsL_law wsX1_triangle := goodIn_r _ [249, 33, 34, 35, 250, 251, 252, 5, 253, 161, 432, 433, 434, 435, 436, 437, 438, 439, 440, 441, 442, 443, 444, 445] (by decide +kernel) (by decide +kernel)
set_option maxRecDepth 20000 in
theorem gL_law_X1_triangle : GoodIn wsL_law (wsV RL 31 RX1 yX1_triangle wsX1_triangle) := goodIn_app (goodIn_of _ (by decide +kernel)) ggL_law_X1_triangle
set_option maxRecDepth 20000 in
theorem ggL_law_X0_beyond : GoodIn wsL_law wsX0_beyond := goodIn_r _ [257, 18, 96, 97, 98, 2, 99, 92, 93, 94, 95, 17, 258, 259, 260, 261, 420, 421, 422, 423, 424, 425, 426, 427, 428, 429, 430, 431] (by decide +kernel) (by decide +kernel)
set_option maxRecDepth 20000 in
theorem gL_law_X0_beyond : GoodIn wsL_law (wsV RL 32 RX0 yX0_beyond wsX0_beyond) := goodIn_app (goodIn_of _ (by decide +kernel)) ggL_law_X0_beyond
set_option maxRecDepth 20000 in
theorem ggL_law_X1_beyond : GoodIn wsL_law wsX1_beyond := goodIn_r _ [265, 34, 33, 35, 161, 250, 251, 252, 5, 253, 222, 223, 224, 225, 432, 433, 434, 435, 436, 437, 438, 439, 440, 441, 442, 443, 444, 445] (by decide +kernel) (by decide +kernel)
set_option maxRecDepth 20000 in
theorem gL_law_X1_beyond : GoodIn wsL_law (wsV RL 35 RX1 yX1_beyond wsX1_beyond) := goodIn_app (goodIn_of _ (by decide +kernel)) ggL_law_X1_beyond
set_option maxRecDepth 20000 in
theorem ggL_law_X0_centre : GoodIn wsL_law wsX0_centre := goodIn_r _ [269, 270, 96, 97, 98, 2, 99, 18, 92, 93, 94, 95, 17, 63, 64, 65, 66, 67, 68, 69, 70, 16, 14, 71, 72, 73, 74, 15, 80, 81, 82, 83, 271, 272, 273, 274, 275, 276, 277, 420, 421, 422, 423, 424, 425, 426, 427, 428, 429, 430, 431] (by decide +kernel) (by decide +kernel)
set_option maxRecDepth 20000 in
theorem gL_law_X0_centre : GoodIn wsL_law (wsV RL 36 RX0 yX0_centre wsX0_centre) := goodIn_app (goodIn_of _ (by decide +kernel)) ggL_law_X0_centre
set_option maxRecDepth 20000 in
theorem ggL_law_X1_centre : GoodIn wsL_law wsX1_centre := goodIn_r _ [281, 33, 34, 35, 282, 31, 32, 250, 251, 252, 5, 253, 161, 183, 184, 185, 186, 179, 180, 181, 182, 283, 284, 285, 286, 432, 433, 434, 435, 436, 437, 438, 439, 440, 441, 442, 443, 444, 445] (by decide +kernel) (by decide +kernel)
set_option maxRecDepth 20000 in
theorem gL_law_X1_centre : GoodIn wsL_law (wsV RL 40 RX1 yX1_centre wsX1_centre) := goodIn_app (goodIn_of _ (by decide +kernel)) ggL_law_X1_centre
set_option maxRecDepth 20000 in
theorem ggL_law_X0_joined : GoodIn wsL_law wsX0_joined := goodIn_r _ [290, 144, 145, 146, 2, 147, 19, 104, 105, 106, 107, 16, 420, 421, 422, 423, 424, 425, 426, 427, 428, 429, 430, 431] (by decide +kernel) (by decide +kernel)
set_option maxRecDepth 20000 in
theorem gL_law_X0_joined : GoodIn wsL_law (wsV RL 41 RX0 yX0_joined wsX0_joined) := goodIn_app (goodIn_of _ (by decide +kernel)) ggL_law_X0_joined
set_option maxRecDepth 20000 in
theorem ggL_law_X1_joined : GoodIn wsL_law wsX1_joined := goodIn_r _ [294, 295, 296, 297, 5, 298, 156, 218, 219, 220, 221, 161, 222, 223, 224, 225, 33, 34, 35, 196, 197, 198, 199, 31, 32, 166, 167, 168, 169, 170, 171, 172, 173, 432, 433, 434, 435, 436, 437, 438, 439, 440, 441, 442, 443, 444, 445] (by decide +kernel) (by decide +kernel)
set_option maxRecDepth 20000 in
theorem gL_law_X1_joined : GoodIn wsL_law (wsV RL 45 RX1 yX1_joined wsX1_joined) := goodIn_app (goodIn_of _ (by decide +kernel)) ggL_law_X1_joined
set_option maxRecDepth 20000 in
theorem ggL_law_X0_degree : GoodIn wsL_law wsX0_degree := goodIn_r _ [302, 19, 104, 105, 106, 2, 107, 16, 303, 304, 305, 306, 307, 308, 309, 420, 421, 422, 423, 424, 425, 426, 427, 428, 429, 430, 431] (by decide +kernel) (by decide +kernel)
set_option maxRecDepth 20000 in
theorem gL_law_X0_degree : GoodIn wsL_law (wsV RL 46 RX0 yX0_degree wsX0_degree) := goodIn_app (goodIn_of _ (by decide +kernel)) ggL_law_X0_degree
set_option maxRecDepth 20000 in
theorem ggL_law_X1_degree : GoodIn wsL_law wsX1_degree := goodIn_r _ [313, 156, 295, 296, 297, 5, 298, 218, 219, 220, 221, 161, 222, 223, 224, 225, 33, 34, 35, 196, 197, 198, 199, 31, 32, 166, 167, 168, 169, 170, 171, 172, 173, 432, 433, 434, 435, 436, 437, 438, 439, 440, 441, 442, 443, 444, 445] (by decide +kernel) (by decide +kernel)
set_option maxRecDepth 20000 in
theorem gL_law_X1_degree : GoodIn wsL_law (wsV RL 49 RX1 yX1_degree wsX1_degree) := goodIn_app (goodIn_of _ (by decide +kernel)) ggL_law_X1_degree
set_option maxRecDepth 20000 in
theorem ggL_law_X0_corners : GoodIn wsL_law wsX0_corners := goodIn_r _ [317, 21, 420, 421, 422, 423, 424, 425, 426, 427, 428, 429, 430, 431] (by decide +kernel) (by decide +kernel)
set_option maxRecDepth 20000 in
theorem gL_law_X0_corners : GoodIn wsL_law (wsV RL 50 RX0 yX0_corners wsX0_corners) := goodIn_app (goodIn_of _ (by decide +kernel)) ggL_law_X0_corners
set_option maxRecDepth 20000 in
theorem ggL_law_X1_corners : GoodIn wsL_law wsX1_corners := goodIn_r _ [321, 191, 432, 433, 434, 435, 436, 437, 438, 439, 440, 441, 442, 443, 444, 445] (by decide +kernel) (by decide +kernel)
set_option maxRecDepth 20000 in
theorem gL_law_X1_corners : GoodIn wsL_law (wsV RL 53 RX1 yX1_corners wsX1_corners) := goodIn_app (goodIn_of _ (by decide +kernel)) ggL_law_X1_corners
set_option maxRecDepth 20000 in
theorem ggL_law_X0_corner : GoodIn wsL_law wsX0_corner := goodIn_r _ [325, 21, 20, 420, 421, 422, 423, 424, 425, 426, 427, 428, 429, 430, 431] (by decide +kernel) (by decide +kernel)
set_option maxRecDepth 20000 in
theorem gL_law_X0_corner : GoodIn wsL_law (wsV RL 54 RX0 yX0_corner wsX0_corner) := goodIn_app (goodIn_of _ (by decide +kernel)) ggL_law_X0_corner
set_option maxRecDepth 20000 in
theorem ggL_law_X1_corner : GoodIn wsL_law wsX1_corner := goodIn_r _ [329, 191, 36, 432, 433, 434, 435, 436, 437, 438, 439, 440, 441, 442, 443, 444, 445] (by decide +kernel) (by decide +kernel)
set_option maxRecDepth 20000 in
theorem gL_law_X1_corner : GoodIn wsL_law (wsV RL 57 RX1 yX1_corner wsX1_corner) := goodIn_app (goodIn_of _ (by decide +kernel)) ggL_law_X1_corner
set_option maxRecDepth 20000 in
theorem ggL_law_X0_nearest : GoodIn wsL_law wsX0_nearest := goodIn_r _ [333, 16, 334, 335, 2, 336, 337, 338, 339, 340, 341, 342, 67, 68, 69, 70, 14, 71, 72, 73, 74, 15, 420, 421, 422, 423, 424, 425, 426, 427, 428, 429, 430, 431] (by decide +kernel) (by decide +kernel)
set_option maxRecDepth 20000 in
theorem gL_law_X0_nearest : GoodIn wsL_law (wsV RL 60 RX0 yX0_nearest wsX0_nearest) := goodIn_app (goodIn_of _ (by decide +kernel)) ggL_law_X0_nearest
set_option maxRecDepth 20000 in
theorem ggL_law_X1_nearest : GoodIn wsL_law wsX1_nearest := goodIn_r _ [346, 347, 156, 348, 349, 350, 5, 351, 352, 353, 354, 355, 356, 357, 358, 31, 32, 432, 433, 434, 435, 436, 437, 438, 439, 440, 441, 442, 443, 444, 445] (by decide +kernel) (by decide +kernel)
set_option maxRecDepth 20000 in
theorem gL_law_X1_nearest : GoodIn wsL_law (wsV RL 64 RX1 yX1_nearest wsX1_nearest) := goodIn_app (goodIn_of _ (by decide +kernel)) ggL_law_X1_nearest
set_option maxRecDepth 20000 in
theorem ggL_law_X0_holder : GoodIn wsL_law wsX0_holder := goodIn_r _ [362, 18, 334, 335, 2, 336, 337, 338, 363, 364, 365, 366, 92, 93, 94, 95, 17, 96, 97, 98, 99, 367, 368, 369, 370, 67, 68, 69, 70, 16, 14, 71, 72, 73, 74, 15, 420, 421, 422, 423, 424, 425, 426, 427, 428, 429, 430, 431] (by decide +kernel) (by decide +kernel)
set_option maxRecDepth 20000 in
theorem gL_law_X0_holder : GoodIn wsL_law (wsV RL 65 RX0 yX0_holder wsX0_holder) := goodIn_app (goodIn_of _ (by decide +kernel)) ggL_law_X0_holder
set_option maxRecDepth 20000 in
theorem ggL_law_X1_holder : GoodIn wsL_law wsX1_holder := goodIn_r _ [374, 347, 161, 33, 34, 35, 348, 349, 350, 5, 351, 352, 353, 166, 167, 168, 169, 31, 32, 170, 171, 172, 173, 375, 376, 377, 378, 358, 432, 433, 434, 435, 436, 437, 438, 439, 440, 441, 442, 443, 444, 445] (by decide +kernel) (by decide +kernel)
set_option maxRecDepth 20000 in
theorem gL_law_X1_holder : GoodIn wsL_law (wsV RL 68 RX1 yX1_holder wsX1_holder) := goodIn_app (goodIn_of _ (by decide +kernel)) ggL_law_X1_holder
set_option maxRecDepth 20000 in
theorem ggL_law_X0_square : GoodIn wsL_law wsX0_square := goodIn_r _ [382, 383, 384, 334, 335, 2, 336, 337, 338, 104, 105, 106, 107, 16, 339, 340, 341, 342, 67, 68, 69, 70, 14, 71, 72, 73, 74, 15, 420, 421, 422, 423, 424, 425, 426, 427, 428, 429, 430, 431] (by decide +kernel) (by decide +kernel)
set_option maxRecDepth 20000 in
theorem gL_law_X0_square : GoodIn wsL_law (wsV RL 69 RX0 yX0_square wsX0_square) := goodIn_app (goodIn_of _ (by decide +kernel)) ggL_law_X0_square
set_option maxRecDepth 20000 in
theorem ggL_law_X1_square : GoodIn wsL_law wsX1_square := goodIn_r _ [388, 389, 390, 347, 391, 348, 349, 350, 5, 351, 352, 353, 295, 296, 297, 298, 156, 354, 355, 356, 357, 358, 31, 32, 432, 433, 434, 435, 436, 437, 438, 439, 440, 441, 442, 443, 444, 445] (by decide +kernel) (by decide +kernel)
set_option maxRecDepth 20000 in
theorem gL_law_X1_square : GoodIn wsL_law (wsV RL 73 RX1 yX1_square wsX1_square) := goodIn_app (goodIn_of _ (by decide +kernel)) ggL_law_X1_square
set_option maxRecDepth 20000 in
theorem ggL_law_X0_tree : GoodIn wsL_law wsX0_tree := goodIn_r _ [395, 23, 22, 420, 421, 422, 423, 424, 425, 426, 427, 428, 429, 430, 431] (by decide +kernel) (by decide +kernel)
set_option maxRecDepth 20000 in
theorem gL_law_X0_tree : GoodIn wsL_law (wsV RL 74 RX0 yX0_tree wsX0_tree) := goodIn_app (goodIn_of _ (by decide +kernel)) ggL_law_X0_tree
set_option maxRecDepth 20000 in
theorem ggL_law_X1_tree : GoodIn wsL_law wsX1_tree := goodIn_r _ [399, 212, 37, 38, 432, 433, 434, 435, 436, 437, 438, 439, 440, 441, 442, 443, 444, 445] (by decide +kernel) (by decide +kernel)
set_option maxRecDepth 20000 in
theorem gL_law_X1_tree : GoodIn wsL_law (wsV RL 77 RX1 yX1_tree wsX1_tree) := goodIn_app (goodIn_of _ (by decide +kernel)) ggL_law_X1_tree
set_option maxRecDepth 20000 in
theorem ggL_law_X0_total : GoodIn wsL_law wsX0_total := goodIn_r _ [403, 24, 420, 421, 422, 423, 424, 425, 426, 427, 428, 429, 430, 431] (by decide +kernel) (by decide +kernel)
set_option maxRecDepth 20000 in
theorem gL_law_X0_total : GoodIn wsL_law (wsV RL 78 RX0 yX0_total wsX0_total) := goodIn_app (goodIn_of _ (by decide +kernel)) ggL_law_X0_total
set_option maxRecDepth 20000 in
theorem ggL_law_X1_total : GoodIn wsL_law wsX1_total := goodIn_r _ [407, 213, 432, 433, 434, 435, 436, 437, 438, 439, 440, 441, 442, 443, 444, 445] (by decide +kernel) (by decide +kernel)
set_option maxRecDepth 20000 in
theorem gL_law_X1_total : GoodIn wsL_law (wsV RL 82 RX1 yX1_total wsX1_total) := goodIn_app (goodIn_of _ (by decide +kernel)) ggL_law_X1_total
set_option maxRecDepth 20000 in
theorem ggL_law_X0_bounded : GoodIn wsL_law wsX0_bounded := goodIn_r _ [411, 16, 104, 105, 106, 2, 107, 412, 413, 414, 415, 63, 64, 65, 66, 67, 68, 69, 70, 14, 71, 72, 73, 74, 15, 420, 421, 422, 423, 424, 425, 426, 427, 428, 429, 430, 431] (by decide +kernel) (by decide +kernel)
set_option maxRecDepth 20000 in
theorem gL_law_X0_bounded : GoodIn wsL_law (wsV RL 83 RX0 yX0_bounded wsX0_bounded) := goodIn_app (goodIn_of _ (by decide +kernel)) ggL_law_X0_bounded
set_option maxRecDepth 20000 in
theorem ggL_law_X1_bounded : GoodIn wsL_law wsX1_bounded := goodIn_r _ [419, 156, 295, 296, 297, 5, 298, 166, 167, 168, 169, 31, 32, 170, 171, 172, 173, 432, 433, 434, 435, 436, 437, 438, 439, 440, 441, 442, 443, 444, 445] (by decide +kernel) (by decide +kernel)
set_option maxRecDepth 20000 in
theorem gL_law_X1_bounded : GoodIn wsL_law (wsV RL 87 RX1 yX1_bounded wsX1_bounded) := goodIn_app (goodIn_of _ (by decide +kernel)) ggL_law_X1_bounded
theorem dL_law_0 : decode cL_law 0 = .ok (.new 7, 3) := by decide +kernel
theorem dL_law_3 : decode cL_law 3 = .ok (.dup, 1) := by decide +kernel
theorem dL_law_4 : decode cL_law 4 = .ok (.invokespecial 9, 3) := by decide +kernel
theorem dL_law_7 : decode cL_law 7 = .ok (.astore_n 1, 1) := by decide +kernel
theorem dL_law_8 : decode cL_law 8 = .ok (.new 10, 3) := by decide +kernel
theorem dL_law_11 : decode cL_law 11 = .ok (.dup, 1) := by decide +kernel
theorem dL_law_12 : decode cL_law 12 = .ok (.invokespecial 12, 3) := by decide +kernel
theorem dL_law_15 : decode cL_law 15 = .ok (.astore_n 2, 1) := by decide +kernel
theorem dL_law_16 : decode cL_law 16 = .ok (.iconst 0, 1) := by decide +kernel
theorem dL_law_17 : decode cL_law 17 = .ok (.istore_n 3, 1) := by decide +kernel
theorem dL_law_18 : decode cL_law 18 = .ok (.iload_n 3, 1) := by decide +kernel
theorem dL_law_19 : decode cL_law 19 = .ok (.aload_n 0, 1) := by decide +kernel
theorem dL_law_20 : decode cL_law 20 = .ok (.arraylength, 1) := by decide +kernel
theorem dL_law_21 : decode cL_law 21 = .ok (.iconst 4, 1) := by decide +kernel
theorem dL_law_22 : decode cL_law 22 = .ok (.isub, 1) := by decide +kernel
theorem dL_law_23 : decode cL_law 23 = .ok (.if_icmp .gt 593, 3) := by decide +kernel
theorem dL_law_26 : decode cL_law 26 = .ok (.aload_n 0, 1) := by decide +kernel
theorem dL_law_27 : decode cL_law 27 = .ok (.iload_n 3, 1) := by decide +kernel
theorem dL_law_28 : decode cL_law 28 = .ok (.iaload, 1) := by decide +kernel
theorem dL_law_29 : decode cL_law 29 = .ok (.bipush 15, 2) := by decide +kernel
theorem dL_law_31 : decode cL_law 31 = .ok (.iand, 1) := by decide +kernel
theorem dL_law_32 : decode cL_law 32 = .ok (.tableswitch 578 0 15 #[80, 113, 126, 139, 162, 195, 229, 262, 285, 298, 321, 374, 427, 518, 541, 555], 80) := by decide +kernel
theorem dL_law_112 : decode cL_law 112 = .ok (.aload_n 1, 1) := by decide +kernel
theorem dL_law_113 : decode cL_law 113 = .ok (.aload_n 0, 1) := by decide +kernel
theorem dL_law_114 : decode cL_law 114 = .ok (.iload_n 3, 1) := by decide +kernel
theorem dL_law_115 : decode cL_law 115 = .ok (.iconst 1, 1) := by decide +kernel
theorem dL_law_116 : decode cL_law 116 = .ok (.iadd, 1) := by decide +kernel
theorem dL_law_117 : decode cL_law 117 = .ok (.iaload, 1) := by decide +kernel
theorem dL_law_118 : decode cL_law 118 = .ok (.aload_n 0, 1) := by decide +kernel
theorem dL_law_119 : decode cL_law 119 = .ok (.iload_n 3, 1) := by decide +kernel
theorem dL_law_120 : decode cL_law 120 = .ok (.iconst 2, 1) := by decide +kernel
theorem dL_law_121 : decode cL_law 121 = .ok (.iadd, 1) := by decide +kernel
theorem dL_law_122 : decode cL_law 122 = .ok (.iaload, 1) := by decide +kernel
theorem dL_law_123 : decode cL_law 123 = .ok (.invokevirtual 13, 3) := by decide +kernel
theorem dL_law_126 : decode cL_law 126 = .ok (.aload_n 2, 1) := by decide +kernel
theorem dL_law_127 : decode cL_law 127 = .ok (.aload_n 0, 1) := by decide +kernel
theorem dL_law_128 : decode cL_law 128 = .ok (.iload_n 3, 1) := by decide +kernel
theorem dL_law_129 : decode cL_law 129 = .ok (.iconst 1, 1) := by decide +kernel
theorem dL_law_130 : decode cL_law 130 = .ok (.iadd, 1) := by decide +kernel
theorem dL_law_131 : decode cL_law 131 = .ok (.iaload, 1) := by decide +kernel
theorem dL_law_132 : decode cL_law 132 = .ok (.aload_n 0, 1) := by decide +kernel
theorem dL_law_133 : decode cL_law 133 = .ok (.iload_n 3, 1) := by decide +kernel
theorem dL_law_134 : decode cL_law 134 = .ok (.iconst 2, 1) := by decide +kernel
theorem dL_law_135 : decode cL_law 135 = .ok (.iadd, 1) := by decide +kernel
theorem dL_law_136 : decode cL_law 136 = .ok (.iaload, 1) := by decide +kernel
theorem dL_law_137 : decode cL_law 137 = .ok (.invokevirtual 17, 3) := by decide +kernel
theorem dL_law_140 : decode cL_law 140 = .ok (.if_icmp .eq 470, 3) := by decide +kernel
theorem dL_law_143 : decode cL_law 143 = .ok (.iconst 0, 1) := by decide +kernel
theorem dL_law_144 : decode cL_law 144 = .ok (.ireturn, 1) := by decide +kernel
theorem dL_law_145 : decode cL_law 145 = .ok (.aload_n 1, 1) := by decide +kernel
theorem dL_law_146 : decode cL_law 146 = .ok (.invokevirtual 18, 3) := by decide +kernel
theorem dL_law_149 : decode cL_law 149 = .ok (.aload_n 2, 1) := by decide +kernel
theorem dL_law_150 : decode cL_law 150 = .ok (.invokevirtual 22, 3) := by decide +kernel
theorem dL_law_153 : decode cL_law 153 = .ok (.if_icmp .eq 457, 3) := by decide +kernel
theorem dL_law_156 : decode cL_law 156 = .ok (.iconst 0, 1) := by decide +kernel
theorem dL_law_157 : decode cL_law 157 = .ok (.ireturn, 1) := by decide +kernel
theorem dL_law_158 : decode cL_law 158 = .ok (.aload_n 1, 1) := by decide +kernel
theorem dL_law_159 : decode cL_law 159 = .ok (.invokevirtual 23, 3) := by decide +kernel
theorem dL_law_162 : decode cL_law 162 = .ok (.aload_n 2, 1) := by decide +kernel
theorem dL_law_163 : decode cL_law 163 = .ok (.invokevirtual 26, 3) := by decide +kernel
theorem dL_law_166 : decode cL_law 166 = .ok (.if_icmp .eq 444, 3) := by decide +kernel
theorem dL_law_169 : decode cL_law 169 = .ok (.iconst 0, 1) := by decide +kernel
theorem dL_law_170 : decode cL_law 170 = .ok (.ireturn, 1) := by decide +kernel
theorem dL_law_171 : decode cL_law 171 = .ok (.aload_n 1, 1) := by decide +kernel
theorem dL_law_172 : decode cL_law 172 = .ok (.aload_n 0, 1) := by decide +kernel
theorem dL_law_173 : decode cL_law 173 = .ok (.iload_n 3, 1) := by decide +kernel
theorem dL_law_174 : decode cL_law 174 = .ok (.iconst 1, 1) := by decide +kernel
theorem dL_law_175 : decode cL_law 175 = .ok (.iadd, 1) := by decide +kernel
theorem dL_law_176 : decode cL_law 176 = .ok (.iaload, 1) := by decide +kernel
theorem dL_law_177 : decode cL_law 177 = .ok (.invokevirtual 27, 3) := by decide +kernel
theorem dL_law_180 : decode cL_law 180 = .ok (.aload_n 2, 1) := by decide +kernel
theorem dL_law_181 : decode cL_law 181 = .ok (.aload_n 0, 1) := by decide +kernel
theorem dL_law_182 : decode cL_law 182 = .ok (.iload_n 3, 1) := by decide +kernel
theorem dL_law_183 : decode cL_law 183 = .ok (.iconst 1, 1) := by decide +kernel
theorem dL_law_184 : decode cL_law 184 = .ok (.iadd, 1) := by decide +kernel
theorem dL_law_185 : decode cL_law 185 = .ok (.iaload, 1) := by decide +kernel
theorem dL_law_186 : decode cL_law 186 = .ok (.invokevirtual 31, 3) := by decide +kernel
theorem dL_law_189 : decode cL_law 189 = .ok (.if_icmp .eq 421, 3) := by decide +kernel
theorem dL_law_192 : decode cL_law 192 = .ok (.iconst 0, 1) := by decide +kernel
theorem dL_law_193 : decode cL_law 193 = .ok (.ireturn, 1) := by decide +kernel
theorem dL_law_194 : decode cL_law 194 = .ok (.aload_n 1, 1) := by decide +kernel
theorem dL_law_195 : decode cL_law 195 = .ok (.aload_n 0, 1) := by decide +kernel
theorem dL_law_196 : decode cL_law 196 = .ok (.iload_n 3, 1) := by decide +kernel
theorem dL_law_197 : decode cL_law 197 = .ok (.iconst 1, 1) := by decide +kernel
theorem dL_law_198 : decode cL_law 198 = .ok (.iadd, 1) := by decide +kernel
theorem dL_law_199 : decode cL_law 199 = .ok (.iaload, 1) := by decide +kernel
theorem dL_law_200 : decode cL_law 200 = .ok (.aload_n 0, 1) := by decide +kernel
theorem dL_law_201 : decode cL_law 201 = .ok (.iload_n 3, 1) := by decide +kernel
theorem dL_law_202 : decode cL_law 202 = .ok (.iconst 2, 1) := by decide +kernel
theorem dL_law_203 : decode cL_law 203 = .ok (.iadd, 1) := by decide +kernel
theorem dL_law_204 : decode cL_law 204 = .ok (.iaload, 1) := by decide +kernel
theorem dL_law_205 : decode cL_law 205 = .ok (.invokevirtual 32, 3) := by decide +kernel
theorem dL_law_208 : decode cL_law 208 = .ok (.aload_n 2, 1) := by decide +kernel
theorem dL_law_209 : decode cL_law 209 = .ok (.aload_n 0, 1) := by decide +kernel
theorem dL_law_210 : decode cL_law 210 = .ok (.iload_n 3, 1) := by decide +kernel
theorem dL_law_211 : decode cL_law 211 = .ok (.iconst 1, 1) := by decide +kernel
theorem dL_law_212 : decode cL_law 212 = .ok (.iadd, 1) := by decide +kernel
theorem dL_law_213 : decode cL_law 213 = .ok (.iaload, 1) := by decide +kernel
theorem dL_law_214 : decode cL_law 214 = .ok (.aload_n 0, 1) := by decide +kernel
theorem dL_law_215 : decode cL_law 215 = .ok (.iload_n 3, 1) := by decide +kernel
theorem dL_law_216 : decode cL_law 216 = .ok (.iconst 2, 1) := by decide +kernel
theorem dL_law_217 : decode cL_law 217 = .ok (.iadd, 1) := by decide +kernel
theorem dL_law_218 : decode cL_law 218 = .ok (.iaload, 1) := by decide +kernel
theorem dL_law_219 : decode cL_law 219 = .ok (.invokevirtual 35, 3) := by decide +kernel
theorem dL_law_222 : decode cL_law 222 = .ok (.if_icmp .eq 388, 3) := by decide +kernel
theorem dL_law_225 : decode cL_law 225 = .ok (.iconst 0, 1) := by decide +kernel
theorem dL_law_226 : decode cL_law 226 = .ok (.ireturn, 1) := by decide +kernel
theorem dL_law_227 : decode cL_law 227 = .ok (.aload_n 1, 1) := by decide +kernel
theorem dL_law_228 : decode cL_law 228 = .ok (.aload_n 0, 1) := by decide +kernel
theorem dL_law_229 : decode cL_law 229 = .ok (.iload_n 3, 1) := by decide +kernel
theorem dL_law_230 : decode cL_law 230 = .ok (.iconst 1, 1) := by decide +kernel
theorem dL_law_231 : decode cL_law 231 = .ok (.iadd, 1) := by decide +kernel
theorem dL_law_232 : decode cL_law 232 = .ok (.iaload, 1) := by decide +kernel
theorem dL_law_233 : decode cL_law 233 = .ok (.aload_n 0, 1) := by decide +kernel
theorem dL_law_234 : decode cL_law 234 = .ok (.iload_n 3, 1) := by decide +kernel
theorem dL_law_235 : decode cL_law 235 = .ok (.iconst 2, 1) := by decide +kernel
theorem dL_law_236 : decode cL_law 236 = .ok (.iadd, 1) := by decide +kernel
theorem dL_law_237 : decode cL_law 237 = .ok (.iaload, 1) := by decide +kernel
theorem dL_law_238 : decode cL_law 238 = .ok (.invokevirtual 36, 3) := by decide +kernel
theorem dL_law_241 : decode cL_law 241 = .ok (.aload_n 2, 1) := by decide +kernel
theorem dL_law_242 : decode cL_law 242 = .ok (.aload_n 0, 1) := by decide +kernel
theorem dL_law_243 : decode cL_law 243 = .ok (.iload_n 3, 1) := by decide +kernel
theorem dL_law_244 : decode cL_law 244 = .ok (.iconst 1, 1) := by decide +kernel
theorem dL_law_245 : decode cL_law 245 = .ok (.iadd, 1) := by decide +kernel
theorem dL_law_246 : decode cL_law 246 = .ok (.iaload, 1) := by decide +kernel
theorem dL_law_247 : decode cL_law 247 = .ok (.aload_n 0, 1) := by decide +kernel
theorem dL_law_248 : decode cL_law 248 = .ok (.iload_n 3, 1) := by decide +kernel
theorem dL_law_249 : decode cL_law 249 = .ok (.iconst 2, 1) := by decide +kernel
theorem dL_law_250 : decode cL_law 250 = .ok (.iadd, 1) := by decide +kernel
theorem dL_law_251 : decode cL_law 251 = .ok (.iaload, 1) := by decide +kernel
theorem dL_law_252 : decode cL_law 252 = .ok (.invokevirtual 40, 3) := by decide +kernel
theorem dL_law_255 : decode cL_law 255 = .ok (.lcmp, 1) := by decide +kernel
theorem dL_law_256 : decode cL_law 256 = .ok (.ifCond .eq 354, 3) := by decide +kernel
theorem dL_law_259 : decode cL_law 259 = .ok (.iconst 0, 1) := by decide +kernel
theorem dL_law_260 : decode cL_law 260 = .ok (.ireturn, 1) := by decide +kernel
theorem dL_law_261 : decode cL_law 261 = .ok (.aload_n 1, 1) := by decide +kernel
theorem dL_law_262 : decode cL_law 262 = .ok (.aload_n 0, 1) := by decide +kernel
theorem dL_law_263 : decode cL_law 263 = .ok (.iload_n 3, 1) := by decide +kernel
theorem dL_law_264 : decode cL_law 264 = .ok (.iconst 1, 1) := by decide +kernel
theorem dL_law_265 : decode cL_law 265 = .ok (.iadd, 1) := by decide +kernel
theorem dL_law_266 : decode cL_law 266 = .ok (.iaload, 1) := by decide +kernel
theorem dL_law_267 : decode cL_law 267 = .ok (.aload_n 0, 1) := by decide +kernel
theorem dL_law_268 : decode cL_law 268 = .ok (.iload_n 3, 1) := by decide +kernel
theorem dL_law_269 : decode cL_law 269 = .ok (.iconst 2, 1) := by decide +kernel
theorem dL_law_270 : decode cL_law 270 = .ok (.iadd, 1) := by decide +kernel
theorem dL_law_271 : decode cL_law 271 = .ok (.iaload, 1) := by decide +kernel
theorem dL_law_272 : decode cL_law 272 = .ok (.invokevirtual 41, 3) := by decide +kernel
theorem dL_law_275 : decode cL_law 275 = .ok (.aload_n 2, 1) := by decide +kernel
theorem dL_law_276 : decode cL_law 276 = .ok (.aload_n 0, 1) := by decide +kernel
theorem dL_law_277 : decode cL_law 277 = .ok (.iload_n 3, 1) := by decide +kernel
theorem dL_law_278 : decode cL_law 278 = .ok (.iconst 1, 1) := by decide +kernel
theorem dL_law_279 : decode cL_law 279 = .ok (.iadd, 1) := by decide +kernel
theorem dL_law_280 : decode cL_law 280 = .ok (.iaload, 1) := by decide +kernel
theorem dL_law_281 : decode cL_law 281 = .ok (.aload_n 0, 1) := by decide +kernel
theorem dL_law_282 : decode cL_law 282 = .ok (.iload_n 3, 1) := by decide +kernel
theorem dL_law_283 : decode cL_law 283 = .ok (.iconst 2, 1) := by decide +kernel
theorem dL_law_284 : decode cL_law 284 = .ok (.iadd, 1) := by decide +kernel
theorem dL_law_285 : decode cL_law 285 = .ok (.iaload, 1) := by decide +kernel
theorem dL_law_286 : decode cL_law 286 = .ok (.invokevirtual 45, 3) := by decide +kernel
theorem dL_law_289 : decode cL_law 289 = .ok (.if_icmp .eq 321, 3) := by decide +kernel
theorem dL_law_292 : decode cL_law 292 = .ok (.iconst 0, 1) := by decide +kernel
theorem dL_law_293 : decode cL_law 293 = .ok (.ireturn, 1) := by decide +kernel
theorem dL_law_294 : decode cL_law 294 = .ok (.aload_n 1, 1) := by decide +kernel
theorem dL_law_295 : decode cL_law 295 = .ok (.aload_n 0, 1) := by decide +kernel
theorem dL_law_296 : decode cL_law 296 = .ok (.iload_n 3, 1) := by decide +kernel
theorem dL_law_297 : decode cL_law 297 = .ok (.iconst 1, 1) := by decide +kernel
theorem dL_law_298 : decode cL_law 298 = .ok (.iadd, 1) := by decide +kernel
theorem dL_law_299 : decode cL_law 299 = .ok (.iaload, 1) := by decide +kernel
theorem dL_law_300 : decode cL_law 300 = .ok (.invokevirtual 46, 3) := by decide +kernel
theorem dL_law_303 : decode cL_law 303 = .ok (.aload_n 2, 1) := by decide +kernel
theorem dL_law_304 : decode cL_law 304 = .ok (.aload_n 0, 1) := by decide +kernel
theorem dL_law_305 : decode cL_law 305 = .ok (.iload_n 3, 1) := by decide +kernel
theorem dL_law_306 : decode cL_law 306 = .ok (.iconst 1, 1) := by decide +kernel
theorem dL_law_307 : decode cL_law 307 = .ok (.iadd, 1) := by decide +kernel
theorem dL_law_308 : decode cL_law 308 = .ok (.iaload, 1) := by decide +kernel
theorem dL_law_309 : decode cL_law 309 = .ok (.invokevirtual 49, 3) := by decide +kernel
theorem dL_law_312 : decode cL_law 312 = .ok (.if_icmp .eq 298, 3) := by decide +kernel
theorem dL_law_315 : decode cL_law 315 = .ok (.iconst 0, 1) := by decide +kernel
theorem dL_law_316 : decode cL_law 316 = .ok (.ireturn, 1) := by decide +kernel
theorem dL_law_317 : decode cL_law 317 = .ok (.aload_n 1, 1) := by decide +kernel
theorem dL_law_318 : decode cL_law 318 = .ok (.invokevirtual 50, 3) := by decide +kernel
theorem dL_law_321 : decode cL_law 321 = .ok (.aload_n 2, 1) := by decide +kernel
theorem dL_law_322 : decode cL_law 322 = .ok (.invokevirtual 53, 3) := by decide +kernel
theorem dL_law_325 : decode cL_law 325 = .ok (.if_icmp .eq 285, 3) := by decide +kernel
theorem dL_law_328 : decode cL_law 328 = .ok (.iconst 0, 1) := by decide +kernel
theorem dL_law_329 : decode cL_law 329 = .ok (.ireturn, 1) := by decide +kernel
theorem dL_law_330 : decode cL_law 330 = .ok (.aload_n 1, 1) := by decide +kernel
theorem dL_law_331 : decode cL_law 331 = .ok (.aload_n 0, 1) := by decide +kernel
theorem dL_law_332 : decode cL_law 332 = .ok (.iload_n 3, 1) := by decide +kernel
theorem dL_law_333 : decode cL_law 333 = .ok (.iconst 1, 1) := by decide +kernel
theorem dL_law_334 : decode cL_law 334 = .ok (.iadd, 1) := by decide +kernel
theorem dL_law_335 : decode cL_law 335 = .ok (.iaload, 1) := by decide +kernel
theorem dL_law_336 : decode cL_law 336 = .ok (.invokevirtual 54, 3) := by decide +kernel
theorem dL_law_339 : decode cL_law 339 = .ok (.aload_n 2, 1) := by decide +kernel
theorem dL_law_340 : decode cL_law 340 = .ok (.aload_n 0, 1) := by decide +kernel
theorem dL_law_341 : decode cL_law 341 = .ok (.iload_n 3, 1) := by decide +kernel
theorem dL_law_342 : decode cL_law 342 = .ok (.iconst 1, 1) := by decide +kernel
theorem dL_law_343 : decode cL_law 343 = .ok (.iadd, 1) := by decide +kernel
theorem dL_law_344 : decode cL_law 344 = .ok (.iaload, 1) := by decide +kernel
theorem dL_law_345 : decode cL_law 345 = .ok (.invokevirtual 57, 3) := by decide +kernel
theorem dL_law_348 : decode cL_law 348 = .ok (.if_icmp .eq 262, 3) := by decide +kernel
theorem dL_law_351 : decode cL_law 351 = .ok (.iconst 0, 1) := by decide +kernel
theorem dL_law_352 : decode cL_law 352 = .ok (.ireturn, 1) := by decide +kernel
theorem dL_law_353 : decode cL_law 353 = .ok (.aload_n 1, 1) := by decide +kernel
theorem dL_law_354 : decode cL_law 354 = .ok (.aload_n 0, 1) := by decide +kernel
theorem dL_law_355 : decode cL_law 355 = .ok (.iload_n 3, 1) := by decide +kernel
theorem dL_law_356 : decode cL_law 356 = .ok (.iconst 1, 1) := by decide +kernel
theorem dL_law_357 : decode cL_law 357 = .ok (.iadd, 1) := by decide +kernel
theorem dL_law_358 : decode cL_law 358 = .ok (.iaload, 1) := by decide +kernel
theorem dL_law_359 : decode cL_law 359 = .ok (.i2d, 1) := by decide +kernel
theorem dL_law_360 : decode cL_law 360 = .ok (.ldc2_w 58, 3) := by decide +kernel
theorem dL_law_363 : decode cL_law 363 = .ok (.dmul, 1) := by decide +kernel
theorem dL_law_364 : decode cL_law 364 = .ok (.aload_n 0, 1) := by decide +kernel
theorem dL_law_365 : decode cL_law 365 = .ok (.iload_n 3, 1) := by decide +kernel
theorem dL_law_366 : decode cL_law 366 = .ok (.iconst 2, 1) := by decide +kernel
theorem dL_law_367 : decode cL_law 367 = .ok (.iadd, 1) := by decide +kernel
theorem dL_law_368 : decode cL_law 368 = .ok (.iaload, 1) := by decide +kernel
theorem dL_law_369 : decode cL_law 369 = .ok (.i2d, 1) := by decide +kernel
theorem dL_law_370 : decode cL_law 370 = .ok (.ldc2_w 58, 3) := by decide +kernel
theorem dL_law_373 : decode cL_law 373 = .ok (.dmul, 1) := by decide +kernel
theorem dL_law_374 : decode cL_law 374 = .ok (.invokevirtual 60, 3) := by decide +kernel
theorem dL_law_377 : decode cL_law 377 = .ok (.aload_n 2, 1) := by decide +kernel
theorem dL_law_378 : decode cL_law 378 = .ok (.aload_n 0, 1) := by decide +kernel
theorem dL_law_379 : decode cL_law 379 = .ok (.iload_n 3, 1) := by decide +kernel
theorem dL_law_380 : decode cL_law 380 = .ok (.iconst 1, 1) := by decide +kernel
theorem dL_law_381 : decode cL_law 381 = .ok (.iadd, 1) := by decide +kernel
theorem dL_law_382 : decode cL_law 382 = .ok (.iaload, 1) := by decide +kernel
theorem dL_law_383 : decode cL_law 383 = .ok (.i2d, 1) := by decide +kernel
theorem dL_law_384 : decode cL_law 384 = .ok (.ldc2_w 58, 3) := by decide +kernel
theorem dL_law_387 : decode cL_law 387 = .ok (.dmul, 1) := by decide +kernel
theorem dL_law_388 : decode cL_law 388 = .ok (.aload_n 0, 1) := by decide +kernel
theorem dL_law_389 : decode cL_law 389 = .ok (.iload_n 3, 1) := by decide +kernel
theorem dL_law_390 : decode cL_law 390 = .ok (.iconst 2, 1) := by decide +kernel
theorem dL_law_391 : decode cL_law 391 = .ok (.iadd, 1) := by decide +kernel
theorem dL_law_392 : decode cL_law 392 = .ok (.iaload, 1) := by decide +kernel
theorem dL_law_393 : decode cL_law 393 = .ok (.i2d, 1) := by decide +kernel
theorem dL_law_394 : decode cL_law 394 = .ok (.ldc2_w 58, 3) := by decide +kernel
theorem dL_law_397 : decode cL_law 397 = .ok (.dmul, 1) := by decide +kernel
theorem dL_law_398 : decode cL_law 398 = .ok (.invokevirtual 64, 3) := by decide +kernel
theorem dL_law_401 : decode cL_law 401 = .ok (.if_icmp .eq 209, 3) := by decide +kernel
theorem dL_law_404 : decode cL_law 404 = .ok (.iconst 0, 1) := by decide +kernel
theorem dL_law_405 : decode cL_law 405 = .ok (.ireturn, 1) := by decide +kernel
theorem dL_law_406 : decode cL_law 406 = .ok (.aload_n 1, 1) := by decide +kernel
theorem dL_law_407 : decode cL_law 407 = .ok (.aload_n 0, 1) := by decide +kernel
theorem dL_law_408 : decode cL_law 408 = .ok (.iload_n 3, 1) := by decide +kernel
theorem dL_law_409 : decode cL_law 409 = .ok (.iconst 1, 1) := by decide +kernel
theorem dL_law_410 : decode cL_law 410 = .ok (.iadd, 1) := by decide +kernel
theorem dL_law_411 : decode cL_law 411 = .ok (.iaload, 1) := by decide +kernel
theorem dL_law_412 : decode cL_law 412 = .ok (.i2d, 1) := by decide +kernel
theorem dL_law_413 : decode cL_law 413 = .ok (.ldc2_w 58, 3) := by decide +kernel
theorem dL_law_416 : decode cL_law 416 = .ok (.dmul, 1) := by decide +kernel
theorem dL_law_417 : decode cL_law 417 = .ok (.aload_n 0, 1) := by decide +kernel
theorem dL_law_418 : decode cL_law 418 = .ok (.iload_n 3, 1) := by decide +kernel
theorem dL_law_419 : decode cL_law 419 = .ok (.iconst 2, 1) := by decide +kernel
theorem dL_law_420 : decode cL_law 420 = .ok (.iadd, 1) := by decide +kernel
theorem dL_law_421 : decode cL_law 421 = .ok (.iaload, 1) := by decide +kernel
theorem dL_law_422 : decode cL_law 422 = .ok (.i2d, 1) := by decide +kernel
theorem dL_law_423 : decode cL_law 423 = .ok (.ldc2_w 58, 3) := by decide +kernel
theorem dL_law_426 : decode cL_law 426 = .ok (.dmul, 1) := by decide +kernel
theorem dL_law_427 : decode cL_law 427 = .ok (.invokevirtual 65, 3) := by decide +kernel
theorem dL_law_430 : decode cL_law 430 = .ok (.aload_n 2, 1) := by decide +kernel
theorem dL_law_431 : decode cL_law 431 = .ok (.aload_n 0, 1) := by decide +kernel
theorem dL_law_432 : decode cL_law 432 = .ok (.iload_n 3, 1) := by decide +kernel
theorem dL_law_433 : decode cL_law 433 = .ok (.iconst 1, 1) := by decide +kernel
theorem dL_law_434 : decode cL_law 434 = .ok (.iadd, 1) := by decide +kernel
theorem dL_law_435 : decode cL_law 435 = .ok (.iaload, 1) := by decide +kernel
theorem dL_law_436 : decode cL_law 436 = .ok (.i2d, 1) := by decide +kernel
theorem dL_law_437 : decode cL_law 437 = .ok (.ldc2_w 58, 3) := by decide +kernel
theorem dL_law_440 : decode cL_law 440 = .ok (.dmul, 1) := by decide +kernel
theorem dL_law_441 : decode cL_law 441 = .ok (.aload_n 0, 1) := by decide +kernel
theorem dL_law_442 : decode cL_law 442 = .ok (.iload_n 3, 1) := by decide +kernel
theorem dL_law_443 : decode cL_law 443 = .ok (.iconst 2, 1) := by decide +kernel
theorem dL_law_444 : decode cL_law 444 = .ok (.iadd, 1) := by decide +kernel
theorem dL_law_445 : decode cL_law 445 = .ok (.iaload, 1) := by decide +kernel
theorem dL_law_446 : decode cL_law 446 = .ok (.i2d, 1) := by decide +kernel
theorem dL_law_447 : decode cL_law 447 = .ok (.ldc2_w 58, 3) := by decide +kernel
theorem dL_law_450 : decode cL_law 450 = .ok (.dmul, 1) := by decide +kernel
theorem dL_law_451 : decode cL_law 451 = .ok (.invokevirtual 68, 3) := by decide +kernel
theorem dL_law_454 : decode cL_law 454 = .ok (.if_icmp .eq 156, 3) := by decide +kernel
theorem dL_law_457 : decode cL_law 457 = .ok (.iconst 0, 1) := by decide +kernel
theorem dL_law_458 : decode cL_law 458 = .ok (.ireturn, 1) := by decide +kernel
theorem dL_law_459 : decode cL_law 459 = .ok (.aload_n 1, 1) := by decide +kernel
theorem dL_law_460 : decode cL_law 460 = .ok (.aload_n 0, 1) := by decide +kernel
theorem dL_law_461 : decode cL_law 461 = .ok (.iload_n 3, 1) := by decide +kernel
theorem dL_law_462 : decode cL_law 462 = .ok (.iconst 1, 1) := by decide +kernel
theorem dL_law_463 : decode cL_law 463 = .ok (.iadd, 1) := by decide +kernel
theorem dL_law_464 : decode cL_law 464 = .ok (.iaload, 1) := by decide +kernel
theorem dL_law_465 : decode cL_law 465 = .ok (.aload_n 0, 1) := by decide +kernel
theorem dL_law_466 : decode cL_law 466 = .ok (.iload_n 3, 1) := by decide +kernel
theorem dL_law_467 : decode cL_law 467 = .ok (.iconst 2, 1) := by decide +kernel
theorem dL_law_468 : decode cL_law 468 = .ok (.iadd, 1) := by decide +kernel
theorem dL_law_469 : decode cL_law 469 = .ok (.iaload, 1) := by decide +kernel
theorem dL_law_470 : decode cL_law 470 = .ok (.i2d, 1) := by decide +kernel
theorem dL_law_471 : decode cL_law 471 = .ok (.ldc2_w 58, 3) := by decide +kernel
theorem dL_law_474 : decode cL_law 474 = .ok (.dmul, 1) := by decide +kernel
theorem dL_law_475 : decode cL_law 475 = .ok (.aload_n 0, 1) := by decide +kernel
theorem dL_law_476 : decode cL_law 476 = .ok (.iload_n 3, 1) := by decide +kernel
theorem dL_law_477 : decode cL_law 477 = .ok (.iconst 3, 1) := by decide +kernel
theorem dL_law_478 : decode cL_law 478 = .ok (.iadd, 1) := by decide +kernel
theorem dL_law_479 : decode cL_law 479 = .ok (.iaload, 1) := by decide +kernel
theorem dL_law_480 : decode cL_law 480 = .ok (.i2d, 1) := by decide +kernel
theorem dL_law_481 : decode cL_law 481 = .ok (.ldc2_w 58, 3) := by decide +kernel
theorem dL_law_484 : decode cL_law 484 = .ok (.dmul, 1) := by decide +kernel
theorem dL_law_485 : decode cL_law 485 = .ok (.invokevirtual 69, 3) := by decide +kernel
theorem dL_law_488 : decode cL_law 488 = .ok (.dstore 4, 2) := by decide +kernel
theorem dL_law_490 : decode cL_law 490 = .ok (.aload_n 2, 1) := by decide +kernel
theorem dL_law_491 : decode cL_law 491 = .ok (.aload_n 0, 1) := by decide +kernel
theorem dL_law_492 : decode cL_law 492 = .ok (.iload_n 3, 1) := by decide +kernel
theorem dL_law_493 : decode cL_law 493 = .ok (.iconst 1, 1) := by decide +kernel
theorem dL_law_494 : decode cL_law 494 = .ok (.iadd, 1) := by decide +kernel
theorem dL_law_495 : decode cL_law 495 = .ok (.iaload, 1) := by decide +kernel
theorem dL_law_496 : decode cL_law 496 = .ok (.aload_n 0, 1) := by decide +kernel
theorem dL_law_497 : decode cL_law 497 = .ok (.iload_n 3, 1) := by decide +kernel
theorem dL_law_498 : decode cL_law 498 = .ok (.iconst 2, 1) := by decide +kernel
theorem dL_law_499 : decode cL_law 499 = .ok (.iadd, 1) := by decide +kernel
theorem dL_law_500 : decode cL_law 500 = .ok (.iaload, 1) := by decide +kernel
theorem dL_law_501 : decode cL_law 501 = .ok (.i2d, 1) := by decide +kernel
theorem dL_law_502 : decode cL_law 502 = .ok (.ldc2_w 58, 3) := by decide +kernel
theorem dL_law_505 : decode cL_law 505 = .ok (.dmul, 1) := by decide +kernel
theorem dL_law_506 : decode cL_law 506 = .ok (.aload_n 0, 1) := by decide +kernel
theorem dL_law_507 : decode cL_law 507 = .ok (.iload_n 3, 1) := by decide +kernel
theorem dL_law_508 : decode cL_law 508 = .ok (.iconst 3, 1) := by decide +kernel
theorem dL_law_509 : decode cL_law 509 = .ok (.iadd, 1) := by decide +kernel
theorem dL_law_510 : decode cL_law 510 = .ok (.iaload, 1) := by decide +kernel
theorem dL_law_511 : decode cL_law 511 = .ok (.i2d, 1) := by decide +kernel
theorem dL_law_512 : decode cL_law 512 = .ok (.ldc2_w 58, 3) := by decide +kernel
theorem dL_law_515 : decode cL_law 515 = .ok (.dmul, 1) := by decide +kernel
theorem dL_law_516 : decode cL_law 516 = .ok (.invokevirtual 73, 3) := by decide +kernel
theorem dL_law_519 : decode cL_law 519 = .ok (.dstore 6, 2) := by decide +kernel
theorem dL_law_521 : decode cL_law 521 = .ok (.dload 4, 2) := by decide +kernel
theorem dL_law_523 : decode cL_law 523 = .ok (.dload 6, 2) := by decide +kernel
theorem dL_law_525 : decode cL_law 525 = .ok (.dcmp .l, 1) := by decide +kernel
theorem dL_law_526 : decode cL_law 526 = .ok (.ifCond .eq 21, 3) := by decide +kernel
theorem dL_law_529 : decode cL_law 529 = .ok (.dload 4, 2) := by decide +kernel
theorem dL_law_531 : decode cL_law 531 = .ok (.dload 4, 2) := by decide +kernel
theorem dL_law_533 : decode cL_law 533 = .ok (.dcmp .l, 1) := by decide +kernel
theorem dL_law_534 : decode cL_law 534 = .ok (.ifCond .eq 11, 3) := by decide +kernel
theorem dL_law_537 : decode cL_law 537 = .ok (.dload 6, 2) := by decide +kernel
theorem dL_law_539 : decode cL_law 539 = .ok (.dload 6, 2) := by decide +kernel
theorem dL_law_541 : decode cL_law 541 = .ok (.dcmp .l, 1) := by decide +kernel
theorem dL_law_542 : decode cL_law 542 = .ok (.ifCond .ne 5, 3) := by decide +kernel
theorem dL_law_545 : decode cL_law 545 = .ok (.iconst 0, 1) := by decide +kernel
theorem dL_law_546 : decode cL_law 546 = .ok (.ireturn, 1) := by decide +kernel
theorem dL_law_547 : decode cL_law 547 = .ok (.goto 63, 3) := by decide +kernel
theorem dL_law_550 : decode cL_law 550 = .ok (.aload_n 1, 1) := by decide +kernel
theorem dL_law_551 : decode cL_law 551 = .ok (.aload_n 0, 1) := by decide +kernel
theorem dL_law_552 : decode cL_law 552 = .ok (.iload_n 3, 1) := by decide +kernel
theorem dL_law_553 : decode cL_law 553 = .ok (.iconst 1, 1) := by decide +kernel
theorem dL_law_554 : decode cL_law 554 = .ok (.iadd, 1) := by decide +kernel
theorem dL_law_555 : decode cL_law 555 = .ok (.iaload, 1) := by decide +kernel
theorem dL_law_556 : decode cL_law 556 = .ok (.invokevirtual 74, 3) := by decide +kernel
theorem dL_law_559 : decode cL_law 559 = .ok (.aload_n 2, 1) := by decide +kernel
theorem dL_law_560 : decode cL_law 560 = .ok (.aload_n 0, 1) := by decide +kernel
theorem dL_law_561 : decode cL_law 561 = .ok (.iload_n 3, 1) := by decide +kernel
theorem dL_law_562 : decode cL_law 562 = .ok (.iconst 1, 1) := by decide +kernel
theorem dL_law_563 : decode cL_law 563 = .ok (.iadd, 1) := by decide +kernel
theorem dL_law_564 : decode cL_law 564 = .ok (.iaload, 1) := by decide +kernel
theorem dL_law_565 : decode cL_law 565 = .ok (.invokevirtual 77, 3) := by decide +kernel
theorem dL_law_568 : decode cL_law 568 = .ok (.if_icmp .eq 42, 3) := by decide +kernel
theorem dL_law_571 : decode cL_law 571 = .ok (.iconst 0, 1) := by decide +kernel
theorem dL_law_572 : decode cL_law 572 = .ok (.ireturn, 1) := by decide +kernel
theorem dL_law_573 : decode cL_law 573 = .ok (.aload_n 1, 1) := by decide +kernel
theorem dL_law_574 : decode cL_law 574 = .ok (.invokevirtual 78, 3) := by decide +kernel
theorem dL_law_577 : decode cL_law 577 = .ok (.aload_n 2, 1) := by decide +kernel
theorem dL_law_578 : decode cL_law 578 = .ok (.invokevirtual 82, 3) := by decide +kernel
theorem dL_law_581 : decode cL_law 581 = .ok (.lcmp, 1) := by decide +kernel
theorem dL_law_582 : decode cL_law 582 = .ok (.ifCond .eq 28, 3) := by decide +kernel
theorem dL_law_585 : decode cL_law 585 = .ok (.iconst 0, 1) := by decide +kernel
theorem dL_law_586 : decode cL_law 586 = .ok (.ireturn, 1) := by decide +kernel
theorem dL_law_587 : decode cL_law 587 = .ok (.aload_n 1, 1) := by decide +kernel
theorem dL_law_588 : decode cL_law 588 = .ok (.aload_n 0, 1) := by decide +kernel
theorem dL_law_589 : decode cL_law 589 = .ok (.iload_n 3, 1) := by decide +kernel
theorem dL_law_590 : decode cL_law 590 = .ok (.iconst 1, 1) := by decide +kernel
theorem dL_law_591 : decode cL_law 591 = .ok (.iadd, 1) := by decide +kernel
theorem dL_law_592 : decode cL_law 592 = .ok (.iaload, 1) := by decide +kernel
theorem dL_law_593 : decode cL_law 593 = .ok (.invokevirtual 83, 3) := by decide +kernel
theorem dL_law_596 : decode cL_law 596 = .ok (.aload_n 2, 1) := by decide +kernel
theorem dL_law_597 : decode cL_law 597 = .ok (.aload_n 0, 1) := by decide +kernel
theorem dL_law_598 : decode cL_law 598 = .ok (.iload_n 3, 1) := by decide +kernel
theorem dL_law_599 : decode cL_law 599 = .ok (.iconst 1, 1) := by decide +kernel
theorem dL_law_600 : decode cL_law 600 = .ok (.iadd, 1) := by decide +kernel
theorem dL_law_601 : decode cL_law 601 = .ok (.iaload, 1) := by decide +kernel
theorem dL_law_602 : decode cL_law 602 = .ok (.invokevirtual 87, 3) := by decide +kernel
theorem dL_law_605 : decode cL_law 605 = .ok (.if_icmp .eq 5, 3) := by decide +kernel
theorem dL_law_608 : decode cL_law 608 = .ok (.iconst 0, 1) := by decide +kernel
theorem dL_law_609 : decode cL_law 609 = .ok (.ireturn, 1) := by decide +kernel
theorem dL_law_610 : decode cL_law 610 = .ok (.iinc 3 4, 3) := by decide +kernel
theorem dL_law_613 : decode cL_law 613 = .ok (.goto (-595), 3) := by decide +kernel
theorem dL_law_616 : decode cL_law 616 = .ok (.iconst 1, 1) := by decide +kernel
theorem dL_law_617 : decode cL_law 617 = .ok (.ireturn, 1) := by decide +kernel
abbrev vwCl : List vw_C := [(RX0, TX0, 12), (RX1, TX1, 14)]
end
section
/-! gz_G: the walk with the world, the locals and the stack alone in sight; gz_E: what stays fixed in a method -/
section GZ
abbrev gz_Z : Type := Program × Launch × Jvm.Env × Room × State × MethodId × Array Value × List Frame × Method × Code × va_G × List (ClassId × FieldType) × (Nat → Prop) × Nat × Nat × Nat × (State → Prop)
def gz_G (z : gz_Z) (ws : va_W) (pc : Nat) (lv : List (Nat × Value)) (st : List Value) : Prop :=
  match z with
  | (p, l, e, R, s, m, args, below, meth, c, D, _, A, nL, cells, slots, Q) => ∀ (H : Heap) (locs : List Loc) (ls : Array Slot), va_P D vwCl ws H → va_D A ws → va_S A s.heap H locs → lv_has ls nL lv → W p l e R s m args below meth c H locs cells slots Q (F0 m pc ls st)
def gz_E (z : gz_Z) (l' : Launch) (D' : va_G) (tys' : List (ClassId × FieldType)) (cc : ByteArray) (own : String) (Ts : List Cond) (nL' : Nat) (R' : Room) (kb : Bool) : Prop :=
  match z with
  | (p, l, _, R, s, m, args, _, _, c, D, tys, A, nL, cells, slots, _) => p.tables.exec = Jvm.exec ∧ c.code = cc ∧ c.maxLocals = nL ∧ s.vm.findClass own = some m.cls ∧ (∀ w ∈ Ts, w.before args s = true) ∧ (kb = true → va_K D vwCl tys s) ∧ (kb = true → ∀ q : Nat, s.heap.size ≤ q → A q) ∧ l = l' ∧ D = D' ∧ tys = tys' ∧ nL = nL' ∧ R = R' ∧ cells ≤ R.cells ∧ slots ≤ R.slots
/-- a local by its slot -/
def gz_at : List (Nat × Value) → Nat → Option Value
  | [], _ => none
  | q :: r, i => bif Nat.beq q.1 i then some q.2 else gz_at r i
theorem gz_at_mem : ∀ {lv : List (Nat × Value)} {i : Nat} {v : Value}, gz_at lv i = some v → (i, v) ∈ lv
  | q :: r, i, v, h => by
    unfold gz_at at h
    cases hq : Nat.beq q.1 i with
    | true =>
      rw [hq] at h
      have h1 : q.2 = v := Option.some.inj h
      have h2 : q.1 = i := Nat.eq_of_beq_eq_true hq
      rw [← h1, ← h2]
      exact List.mem_cons_self
    | false =>
      rw [hq] at h
      exact List.mem_cons_of_mem _ (gz_at_mem h)
theorem gz_at_ok {ls : Array Slot} {nL : Nat} {lv : List (Nat × Value)} (h : lv_has ls nL lv) {i : Nat} {v : Value} (hg : gz_at lv i = some v) : ls[i]? = some (.val v) := h.2.2 (i, v) (gz_at_mem hg)
theorem gz_at_ix {lv : List (Nat × Value)} {i : Nat} {v : Value} (hg : gz_at lv i = some v) : ∃ k : Nat, lv[k]? = some (i, v) := List.mem_iff_getElem?.mp (gz_at_mem hg)
def gz_ins : List (Nat × Value) → Nat → Value → List (Nat × Value)
  | [], i, v => [(i, v)]
  | q :: r, i, v => bif Nat.blt q.1 i then q :: gz_ins r i v else (i, v) :: q :: r
theorem gz_ins_mem : ∀ {l : List (Nat × Value)} {i : Nat} {v : Value} {x : Nat × Value}, x ∈ gz_ins l i v → x ∈ (i, v) :: l
  | [], _, _, _, h => h
  | q :: r, i, v, x, h => by
    unfold gz_ins at h
    cases hq : Nat.blt q.1 i with
    | true =>
      rw [hq] at h
      rcases List.mem_cons.mp h with h | h
      · exact List.mem_cons_of_mem _ (List.mem_cons.mpr (Or.inl h))
      · rcases List.mem_cons.mp (gz_ins_mem h) with h | h
        · exact List.mem_cons.mpr (Or.inl h)
        · exact List.mem_cons_of_mem _ (List.mem_cons_of_mem _ h)
    | false =>
      rw [hq] at h
      exact h
def gz_st1 (lv : List (Nat × Value)) (i : Nat) (v : Value) : List (Nat × Value) := gz_ins (lv.filter (fun q => !(q.1 == i) && !(q.1 + 1 == i && q.2.category == 2))) i v
def gz_st2 (lv : List (Nat × Value)) (i : Nat) (v : Value) : List (Nat × Value) := gz_ins (lv.filter (fun q => !(q.1 == i) && (!(q.1 == i + 1) && !(q.1 + 1 == i && q.2.category == 2)))) i v
theorem gz_has1 {ls : Array Slot} {nL i : Nat} {lv lv' : List (Nat × Value)} {v : Value} (h : lv_has ls nL ((i, v) :: lv.filter (fun q => !(q.1 == i) && !(q.1 + 1 == i && q.2.category == 2)))) (e : gz_st1 lv i v = lv') : lv_has ls nL lv' := by
  subst e
  exact ⟨h.1, h.2.1, fun q hq => h.2.2 q (gz_ins_mem hq)⟩
theorem gz_has2 {ls : Array Slot} {nL i : Nat} {lv lv' : List (Nat × Value)} {v : Value} (h : lv_has ls nL ((i, v) :: lv.filter (fun q => !(q.1 == i) && (!(q.1 == i + 1) && !(q.1 + 1 == i && q.2.category == 2))))) (e : gz_st2 lv i v = lv') : lv_has ls nL lv' := by
  subst e
  exact ⟨h.1, h.2.1, fun q hq => h.2.2 q (gz_ins_mem hq)⟩
variable {z : gz_Z} {l' : Launch} {D' : va_G} {tys' : List (ClassId × FieldType)} {cc : ByteArray} {own : String} {Ts : List Cond} {nL' : Nat} {R' : Room} {kb : Bool}
variable {ws : va_W} {pc : Nat} {lv lv' : List (Nat × Value)} {rest st : List Value}
/-- fewer locals -/
theorem gz_sub (ks : List Nat) (hl : lv_pick lv ks = lv') (k : gz_G z ws pc lv' st) : gz_G z ws pc lv st := by
  obtain ⟨p, l, e, R, s, m, args, below, meth, c, D, tys, A, nL, cells, slots, Q⟩ := z
  intro H locs ls hP hD hS h
  exact k H locs ls hP hD hS (lv_sub h ks hl)
theorem gz_w {ws' : va_W} (e : ws = ws') (k : gz_G z ws' pc lv st) : gz_G z ws pc lv st := by rw [e]; exact k
theorem gz_s {st' : List Value} (e : st = st') (k : gz_G z ws pc lv st') : gz_G z ws pc lv st := by rw [e]; exact k
theorem gz_iconst (E : gz_E z l' D' tys' cc own Ts nL' R' kb) {n : Int} {v : Int32} (hd : decode cc pc = .ok (.iconst n, 1)) (hv : Int32.ofInt n = v) (k : gz_G z ws (pc + 1) lv (.int v :: rest)) : gz_G z ws pc lv (rest) := by
  obtain ⟨p, l, e, R, s, m, args, below, meth, c, D, tys, A, nL, cells, slots, Q⟩ := z
  obtain ⟨hx, hb, hml, hown, hts, hK, hA, rfl, rfl, rfl, rfl, rfl, hcs, hss⟩ := E
  intro H locs ls hP hD hS h
  exact lv_iconst hx hb hd hv (k H locs ls hP hD hS h)
theorem gz_bipush (E : gz_E z l' D' tys' cc own Ts nL' R' kb) {n : Int} {v : Int32} (hd : decode cc pc = .ok (.bipush n, 2)) (hv : (Int8.ofInt n).toInt32 = v) (k : gz_G z ws (pc + 2) lv (.int v :: rest)) : gz_G z ws pc lv (rest) := by
  obtain ⟨p, l, e, R, s, m, args, below, meth, c, D, tys, A, nL, cells, slots, Q⟩ := z
  obtain ⟨hx, hb, hml, hown, hts, hK, hA, rfl, rfl, rfl, rfl, rfl, hcs, hss⟩ := E
  intro H locs ls hP hD hS h
  exact lv_bipush hx hb hd hv (k H locs ls hP hD hS h)
theorem gz_sipush (E : gz_E z l' D' tys' cc own Ts nL' R' kb) {n : Int} {v : Int32} (hd : decode cc pc = .ok (.sipush n, 3)) (hv : (Int16.ofInt n).toInt32 = v) (k : gz_G z ws (pc + 3) lv (.int v :: rest)) : gz_G z ws pc lv (rest) := by
  obtain ⟨p, l, e, R, s, m, args, below, meth, c, D, tys, A, nL, cells, slots, Q⟩ := z
  obtain ⟨hx, hb, hml, hown, hts, hK, hA, rfl, rfl, rfl, rfl, rfl, hcs, hss⟩ := E
  intro H locs ls hP hD hS h
  exact lv_sipush hx hb hd hv (k H locs ls hP hD hS h)
theorem gz_lconst (E : gz_E z l' D' tys' cc own Ts nL' R' kb) {n : Fin 2} {v : Int64} (hd : decode cc pc = .ok (.lconst n, 1)) (hv : Int64.ofNat (n : Nat) = v) (k : gz_G z ws (pc + 1) lv (.long v :: rest)) : gz_G z ws pc lv (rest) := by
  obtain ⟨p, l, e, R, s, m, args, below, meth, c, D, tys, A, nL, cells, slots, Q⟩ := z
  obtain ⟨hx, hb, hml, hown, hts, hK, hA, rfl, rfl, rfl, rfl, rfl, hcs, hss⟩ := E
  intro H locs ls hP hD hS h
  exact lv_lconst hx hb hd hv (k H locs ls hP hD hS h)
theorem gz_dconst0 (E : gz_E z l' D' tys' cc own Ts nL' R' kb)  (hd : decode cc pc = .ok (.dconst 0, 1))  (k : gz_G z ws (pc + 1) lv (.double FP.dconst0 :: rest)) : gz_G z ws pc lv (rest) := by
  obtain ⟨p, l, e, R, s, m, args, below, meth, c, D, tys, A, nL, cells, slots, Q⟩ := z
  obtain ⟨hx, hb, hml, hown, hts, hK, hA, rfl, rfl, rfl, rfl, rfl, hcs, hss⟩ := E
  intro H locs ls hP hD hS h
  exact lv_dconst0 hx hb hd (k H locs ls hP hD hS h)
theorem gz_ldc2 (E : gz_E z l' D' tys' cc own Ts nL' R' kb) {index : Nat} {v : Int64} (hd : decode cc pc = .ok (.ldc2_w index, 3)) (hc : Jvm.Cond.constantLong own index v ∈ Ts) (k : gz_G z ws (pc + 3) lv (.long v :: rest)) : gz_G z ws pc lv (rest) := by
  obtain ⟨p, l, e, R, s, m, args, below, meth, c, D, tys, A, nL, cells, slots, Q⟩ := z
  obtain ⟨hx, hb, hml, hown, hts, hK, hA, rfl, rfl, rfl, rfl, rfl, hcs, hss⟩ := E
  intro H locs ls hP hD hS h
  exact lv_ldc2 hx hb hown (hts _ hc) hd (k H locs ls hP hD hS h)
theorem gz_ldc2d (E : gz_E z l' D' tys' cc own Ts nL' R' kb) {index : Nat} {v : UInt64} (hd : decode cc pc = .ok (.ldc2_w index, 3)) (hc : Jvm.Cond.constantDouble own index v ∈ Ts) (k : gz_G z ws (pc + 3) lv (.double v :: rest)) : gz_G z ws pc lv (rest) := by
  obtain ⟨p, l, e, R, s, m, args, below, meth, c, D, tys, A, nL, cells, slots, Q⟩ := z
  obtain ⟨hx, hb, hml, hown, hts, hK, hA, rfl, rfl, rfl, rfl, rfl, hcs, hss⟩ := E
  intro H locs ls hP hD hS h
  exact lv_ldc2d hx hb hown (hts _ hc) hd (k H locs ls hP hD hS h)
theorem gz_ldc (E : gz_E z l' D' tys' cc own Ts nL' R' kb) {index : Nat} {v : Int32} (hd : decode cc pc = .ok (.ldc index, 2)) (hc : Jvm.Cond.constant own index v ∈ Ts) (k : gz_G z ws (pc + 2) lv (.int v :: rest)) : gz_G z ws pc lv (rest) := by
  obtain ⟨p, l, e, R, s, m, args, below, meth, c, D, tys, A, nL, cells, slots, Q⟩ := z
  obtain ⟨hx, hb, hml, hown, hts, hK, hA, rfl, rfl, rfl, rfl, rfl, hcs, hss⟩ := E
  intro H locs ls hP hD hS h
  exact lv_ldc hx hb hown (hts _ hc) hd (k H locs ls hP hD hS h)
theorem gz_iload_n (E : gz_E z l' D' tys' cc own Ts nL' R' kb) {j : Fin 4} {i : Nat} {x : Int32} (hd : decode cc pc = .ok (.iload_n j, 1)) (hi : (j : Nat) = i) (hg : gz_at lv i = some (.int x)) (k : gz_G z ws (pc + 1) lv (.int x :: rest)) : gz_G z ws pc lv (rest) := by
  obtain ⟨p, l, e, R, s, m, args, below, meth, c, D, tys, A, nL, cells, slots, Q⟩ := z
  obtain ⟨hx, hb, hml, hown, hts, hK, hA, rfl, rfl, rfl, rfl, rfl, hcs, hss⟩ := E
  intro H locs ls hP hD hS h
  exact lv_iload_n hx hb hd hi (gz_at_ok h hg) (k H locs ls hP hD hS h)
theorem gz_iload (E : gz_E z l' D' tys' cc own Ts nL' R' kb) {i : Nat} {x : Int32} (hd : decode cc pc = .ok (.iload i, 2)) (hg : gz_at lv i = some (.int x)) (k : gz_G z ws (pc + 2) lv (.int x :: rest)) : gz_G z ws pc lv (rest) := by
  obtain ⟨p, l, e, R, s, m, args, below, meth, c, D, tys, A, nL, cells, slots, Q⟩ := z
  obtain ⟨hx, hb, hml, hown, hts, hK, hA, rfl, rfl, rfl, rfl, rfl, hcs, hss⟩ := E
  intro H locs ls hP hD hS h
  exact lv_iload hx hb hd (gz_at_ok h hg) (k H locs ls hP hD hS h)
theorem gz_istore_n (E : gz_E z l' D' tys' cc own Ts nL' R' kb) {j : Fin 4} {i : Nat} {x : Int32} (hd : decode cc pc = .ok (.istore_n j, 1)) (hi : (j : Nat) = i) (hn : i < nL') (hl : gz_st1 lv i (.int x) = lv') (k : gz_G z ws (pc + 1) lv' rest) : gz_G z ws pc lv (.int x :: rest) := by
  obtain ⟨p, l, e, R, s, m, args, below, meth, c, D, tys, A, nL, cells, slots, Q⟩ := z
  obtain ⟨hx, hb, hml, hown, hts, hK, hA, rfl, rfl, rfl, rfl, rfl, hcs, hss⟩ := E
  intro H locs ls hP hD hS h
  exact lv_istore_n hx hb hd hi h hn rfl (fun ls' h' => k H locs ls' hP hD hS (gz_has1 h' hl))
theorem gz_istore (E : gz_E z l' D' tys' cc own Ts nL' R' kb) {i : Nat} {x : Int32} (hd : decode cc pc = .ok (.istore i, 2)) (hn : i < nL') (hl : gz_st1 lv i (.int x) = lv') (k : gz_G z ws (pc + 2) lv' rest) : gz_G z ws pc lv (.int x :: rest) := by
  obtain ⟨p, l, e, R, s, m, args, below, meth, c, D, tys, A, nL, cells, slots, Q⟩ := z
  obtain ⟨hx, hb, hml, hown, hts, hK, hA, rfl, rfl, rfl, rfl, rfl, hcs, hss⟩ := E
  intro H locs ls hP hD hS h
  exact lv_istore hx hb hd h hn rfl (fun ls' h' => k H locs ls' hP hD hS (gz_has1 h' hl))
theorem gz_lload_n (E : gz_E z l' D' tys' cc own Ts nL' R' kb) {j : Fin 4} {i : Nat} {x : Int64} (hd : decode cc pc = .ok (.lload_n j, 1)) (hi : (j : Nat) = i) (hg : gz_at lv i = some (.long x)) (k : gz_G z ws (pc + 1) lv (.long x :: rest)) : gz_G z ws pc lv (rest) := by
  obtain ⟨p, l, e, R, s, m, args, below, meth, c, D, tys, A, nL, cells, slots, Q⟩ := z
  obtain ⟨hx, hb, hml, hown, hts, hK, hA, rfl, rfl, rfl, rfl, rfl, hcs, hss⟩ := E
  intro H locs ls hP hD hS h
  exact lv_lload_n hx hb hd hi (gz_at_ok h hg) (k H locs ls hP hD hS h)
theorem gz_lload (E : gz_E z l' D' tys' cc own Ts nL' R' kb) {i : Nat} {x : Int64} (hd : decode cc pc = .ok (.lload i, 2)) (hg : gz_at lv i = some (.long x)) (k : gz_G z ws (pc + 2) lv (.long x :: rest)) : gz_G z ws pc lv (rest) := by
  obtain ⟨p, l, e, R, s, m, args, below, meth, c, D, tys, A, nL, cells, slots, Q⟩ := z
  obtain ⟨hx, hb, hml, hown, hts, hK, hA, rfl, rfl, rfl, rfl, rfl, hcs, hss⟩ := E
  intro H locs ls hP hD hS h
  exact lv_lload hx hb hd (gz_at_ok h hg) (k H locs ls hP hD hS h)
theorem gz_lstore_n (E : gz_E z l' D' tys' cc own Ts nL' R' kb) {j : Fin 4} {i : Nat} {x : Int64} (hd : decode cc pc = .ok (.lstore_n j, 1)) (hi : (j : Nat) = i) (hn : i + 1 < nL') (hl : gz_st2 lv i (.long x) = lv') (k : gz_G z ws (pc + 1) lv' rest) : gz_G z ws pc lv (.long x :: rest) := by
  obtain ⟨p, l, e, R, s, m, args, below, meth, c, D, tys, A, nL, cells, slots, Q⟩ := z
  obtain ⟨hx, hb, hml, hown, hts, hK, hA, rfl, rfl, rfl, rfl, rfl, hcs, hss⟩ := E
  intro H locs ls hP hD hS h
  exact lv_lstore_n hx hb hd hi h hn rfl (fun ls' h' => k H locs ls' hP hD hS (gz_has2 h' hl))
theorem gz_lstore (E : gz_E z l' D' tys' cc own Ts nL' R' kb) {i : Nat} {x : Int64} (hd : decode cc pc = .ok (.lstore i, 2)) (hn : i + 1 < nL') (hl : gz_st2 lv i (.long x) = lv') (k : gz_G z ws (pc + 2) lv' rest) : gz_G z ws pc lv (.long x :: rest) := by
  obtain ⟨p, l, e, R, s, m, args, below, meth, c, D, tys, A, nL, cells, slots, Q⟩ := z
  obtain ⟨hx, hb, hml, hown, hts, hK, hA, rfl, rfl, rfl, rfl, rfl, hcs, hss⟩ := E
  intro H locs ls hP hD hS h
  exact lv_lstore hx hb hd h hn rfl (fun ls' h' => k H locs ls' hP hD hS (gz_has2 h' hl))
theorem gz_aload_n (E : gz_E z l' D' tys' cc own Ts nL' R' kb) {j : Fin 4} {i : Nat} {x : Nat} (hd : decode cc pc = .ok (.aload_n j, 1)) (hi : (j : Nat) = i) (hg : gz_at lv i = some (.ref x)) (k : gz_G z ws (pc + 1) lv (.ref x :: rest)) : gz_G z ws pc lv (rest) := by
  obtain ⟨p, l, e, R, s, m, args, below, meth, c, D, tys, A, nL, cells, slots, Q⟩ := z
  obtain ⟨hx, hb, hml, hown, hts, hK, hA, rfl, rfl, rfl, rfl, rfl, hcs, hss⟩ := E
  intro H locs ls hP hD hS h
  exact lv_aload_n hx hb hd hi (gz_at_ok h hg) (k H locs ls hP hD hS h)
theorem gz_aload (E : gz_E z l' D' tys' cc own Ts nL' R' kb) {i : Nat} {x : Nat} (hd : decode cc pc = .ok (.aload i, 2)) (hg : gz_at lv i = some (.ref x)) (k : gz_G z ws (pc + 2) lv (.ref x :: rest)) : gz_G z ws pc lv (rest) := by
  obtain ⟨p, l, e, R, s, m, args, below, meth, c, D, tys, A, nL, cells, slots, Q⟩ := z
  obtain ⟨hx, hb, hml, hown, hts, hK, hA, rfl, rfl, rfl, rfl, rfl, hcs, hss⟩ := E
  intro H locs ls hP hD hS h
  exact lv_aload hx hb hd (gz_at_ok h hg) (k H locs ls hP hD hS h)
theorem gz_astore_n (E : gz_E z l' D' tys' cc own Ts nL' R' kb) {j : Fin 4} {i : Nat} {x : Nat} (hd : decode cc pc = .ok (.astore_n j, 1)) (hi : (j : Nat) = i) (hn : i < nL') (hl : gz_st1 lv i (.ref x) = lv') (k : gz_G z ws (pc + 1) lv' rest) : gz_G z ws pc lv (.ref x :: rest) := by
  obtain ⟨p, l, e, R, s, m, args, below, meth, c, D, tys, A, nL, cells, slots, Q⟩ := z
  obtain ⟨hx, hb, hml, hown, hts, hK, hA, rfl, rfl, rfl, rfl, rfl, hcs, hss⟩ := E
  intro H locs ls hP hD hS h
  exact lv_astore_n hx hb hd hi h hn rfl (fun ls' h' => k H locs ls' hP hD hS (gz_has1 h' hl))
theorem gz_astore (E : gz_E z l' D' tys' cc own Ts nL' R' kb) {i : Nat} {x : Nat} (hd : decode cc pc = .ok (.astore i, 2)) (hn : i < nL') (hl : gz_st1 lv i (.ref x) = lv') (k : gz_G z ws (pc + 2) lv' rest) : gz_G z ws pc lv (.ref x :: rest) := by
  obtain ⟨p, l, e, R, s, m, args, below, meth, c, D, tys, A, nL, cells, slots, Q⟩ := z
  obtain ⟨hx, hb, hml, hown, hts, hK, hA, rfl, rfl, rfl, rfl, rfl, hcs, hss⟩ := E
  intro H locs ls hP hD hS h
  exact lv_astore hx hb hd h hn rfl (fun ls' h' => k H locs ls' hP hD hS (gz_has1 h' hl))
theorem gz_dload_n (E : gz_E z l' D' tys' cc own Ts nL' R' kb) {j : Fin 4} {i : Nat} {x : UInt64} (hd : decode cc pc = .ok (.dload_n j, 1)) (hi : (j : Nat) = i) (hg : gz_at lv i = some (.double x)) (k : gz_G z ws (pc + 1) lv (.double x :: rest)) : gz_G z ws pc lv (rest) := by
  obtain ⟨p, l, e, R, s, m, args, below, meth, c, D, tys, A, nL, cells, slots, Q⟩ := z
  obtain ⟨hx, hb, hml, hown, hts, hK, hA, rfl, rfl, rfl, rfl, rfl, hcs, hss⟩ := E
  intro H locs ls hP hD hS h
  exact lv_dload_n hx hb hd hi (gz_at_ok h hg) (k H locs ls hP hD hS h)
theorem gz_dload (E : gz_E z l' D' tys' cc own Ts nL' R' kb) {i : Nat} {x : UInt64} (hd : decode cc pc = .ok (.dload i, 2)) (hg : gz_at lv i = some (.double x)) (k : gz_G z ws (pc + 2) lv (.double x :: rest)) : gz_G z ws pc lv (rest) := by
  obtain ⟨p, l, e, R, s, m, args, below, meth, c, D, tys, A, nL, cells, slots, Q⟩ := z
  obtain ⟨hx, hb, hml, hown, hts, hK, hA, rfl, rfl, rfl, rfl, rfl, hcs, hss⟩ := E
  intro H locs ls hP hD hS h
  exact lv_dload hx hb hd (gz_at_ok h hg) (k H locs ls hP hD hS h)
theorem gz_dstore_n (E : gz_E z l' D' tys' cc own Ts nL' R' kb) {j : Fin 4} {i : Nat} {x : UInt64} (hd : decode cc pc = .ok (.dstore_n j, 1)) (hi : (j : Nat) = i) (hn : i + 1 < nL') (hl : gz_st2 lv i (.double x) = lv') (k : gz_G z ws (pc + 1) lv' rest) : gz_G z ws pc lv (.double x :: rest) := by
  obtain ⟨p, l, e, R, s, m, args, below, meth, c, D, tys, A, nL, cells, slots, Q⟩ := z
  obtain ⟨hx, hb, hml, hown, hts, hK, hA, rfl, rfl, rfl, rfl, rfl, hcs, hss⟩ := E
  intro H locs ls hP hD hS h
  exact lv_dstore_n hx hb hd hi h hn rfl (fun ls' h' => k H locs ls' hP hD hS (gz_has2 h' hl))
theorem gz_dstore (E : gz_E z l' D' tys' cc own Ts nL' R' kb) {i : Nat} {x : UInt64} (hd : decode cc pc = .ok (.dstore i, 2)) (hn : i + 1 < nL') (hl : gz_st2 lv i (.double x) = lv') (k : gz_G z ws (pc + 2) lv' rest) : gz_G z ws pc lv (.double x :: rest) := by
  obtain ⟨p, l, e, R, s, m, args, below, meth, c, D, tys, A, nL, cells, slots, Q⟩ := z
  obtain ⟨hx, hb, hml, hown, hts, hK, hA, rfl, rfl, rfl, rfl, rfl, hcs, hss⟩ := E
  intro H locs ls hP hD hS h
  exact lv_dstore hx hb hd h hn rfl (fun ls' h' => k H locs ls' hP hD hS (gz_has2 h' hl))
theorem gz_iinc (E : gz_E z l' D' tys' cc own Ts nL' R' kb) {i : Nat} {n : Int} {x v : Int32} (hd : decode cc pc = .ok (.iinc i n, 3)) (hg : gz_at lv i = some (.int x)) (hv : x + Int32.ofInt n = v) (hn : i < nL') (hl : gz_st1 lv i (.int v) = lv') (k : gz_G z ws (pc + 3) lv' rest) : gz_G z ws pc lv rest := by
  obtain ⟨p, l, e, R, s, m, args, below, meth, c, D, tys, A, nL, cells, slots, Q⟩ := z
  obtain ⟨hx, hb, hml, hown, hts, hK, hA, rfl, rfl, rfl, rfl, rfl, hcs, hss⟩ := E
  intro H locs ls hP hD hS h
  obtain ⟨j, hj⟩ := gz_at_ix hg
  exact lv_iinc hx hb hd h hj hv hn rfl (fun ls' h' => k H locs ls' hP hD hS (gz_has1 h' hl))
theorem gz_iadd (E : gz_E z l' D' tys' cc own Ts nL' R' kb) {x y : Int32} (hd : decode cc pc = .ok (.iadd, 1))  (k : gz_G z ws (pc + 1) lv (.int (x + y) :: rest)) : gz_G z ws pc lv (.int y :: .int x :: rest) := by
  obtain ⟨p, l, e, R, s, m, args, below, meth, c, D, tys, A, nL, cells, slots, Q⟩ := z
  obtain ⟨hx, hb, hml, hown, hts, hK, hA, rfl, rfl, rfl, rfl, rfl, hcs, hss⟩ := E
  intro H locs ls hP hD hS h
  exact lv_iadd hx hb hd (k H locs ls hP hD hS h)
theorem gz_isub (E : gz_E z l' D' tys' cc own Ts nL' R' kb) {x y : Int32} (hd : decode cc pc = .ok (.isub, 1))  (k : gz_G z ws (pc + 1) lv (.int (x - y) :: rest)) : gz_G z ws pc lv (.int y :: .int x :: rest) := by
  obtain ⟨p, l, e, R, s, m, args, below, meth, c, D, tys, A, nL, cells, slots, Q⟩ := z
  obtain ⟨hx, hb, hml, hown, hts, hK, hA, rfl, rfl, rfl, rfl, rfl, hcs, hss⟩ := E
  intro H locs ls hP hD hS h
  exact lv_isub hx hb hd (k H locs ls hP hD hS h)
theorem gz_imul (E : gz_E z l' D' tys' cc own Ts nL' R' kb) {x y : Int32} (hd : decode cc pc = .ok (.imul, 1))  (k : gz_G z ws (pc + 1) lv (.int (x * y) :: rest)) : gz_G z ws pc lv (.int y :: .int x :: rest) := by
  obtain ⟨p, l, e, R, s, m, args, below, meth, c, D, tys, A, nL, cells, slots, Q⟩ := z
  obtain ⟨hx, hb, hml, hown, hts, hK, hA, rfl, rfl, rfl, rfl, rfl, hcs, hss⟩ := E
  intro H locs ls hP hD hS h
  exact lv_imul hx hb hd (k H locs ls hP hD hS h)
theorem gz_iand (E : gz_E z l' D' tys' cc own Ts nL' R' kb) {x y : Int32} (hd : decode cc pc = .ok (.iand, 1))  (k : gz_G z ws (pc + 1) lv (.int (x &&& y) :: rest)) : gz_G z ws pc lv (.int y :: .int x :: rest) := by
  obtain ⟨p, l, e, R, s, m, args, below, meth, c, D, tys, A, nL, cells, slots, Q⟩ := z
  obtain ⟨hx, hb, hml, hown, hts, hK, hA, rfl, rfl, rfl, rfl, rfl, hcs, hss⟩ := E
  intro H locs ls hP hD hS h
  exact lv_iand hx hb hd (k H locs ls hP hD hS h)
theorem gz_ior (E : gz_E z l' D' tys' cc own Ts nL' R' kb) {x y : Int32} (hd : decode cc pc = .ok (.ior, 1))  (k : gz_G z ws (pc + 1) lv (.int (x ||| y) :: rest)) : gz_G z ws pc lv (.int y :: .int x :: rest) := by
  obtain ⟨p, l, e, R, s, m, args, below, meth, c, D, tys, A, nL, cells, slots, Q⟩ := z
  obtain ⟨hx, hb, hml, hown, hts, hK, hA, rfl, rfl, rfl, rfl, rfl, hcs, hss⟩ := E
  intro H locs ls hP hD hS h
  exact lv_ior hx hb hd (k H locs ls hP hD hS h)
theorem gz_ishl (E : gz_E z l' D' tys' cc own Ts nL' R' kb) {x y : Int32} (hd : decode cc pc = .ok (.ishl, 1))  (k : gz_G z ws (pc + 1) lv (.int (x <<< (y &&& 31)) :: rest)) : gz_G z ws pc lv (.int y :: .int x :: rest) := by
  obtain ⟨p, l, e, R, s, m, args, below, meth, c, D, tys, A, nL, cells, slots, Q⟩ := z
  obtain ⟨hx, hb, hml, hown, hts, hK, hA, rfl, rfl, rfl, rfl, rfl, hcs, hss⟩ := E
  intro H locs ls hP hD hS h
  exact lv_ishl hx hb hd (k H locs ls hP hD hS h)
theorem gz_ishr (E : gz_E z l' D' tys' cc own Ts nL' R' kb) {x y : Int32} (hd : decode cc pc = .ok (.ishr, 1))  (k : gz_G z ws (pc + 1) lv (.int (x >>> (y &&& 31)) :: rest)) : gz_G z ws pc lv (.int y :: .int x :: rest) := by
  obtain ⟨p, l, e, R, s, m, args, below, meth, c, D, tys, A, nL, cells, slots, Q⟩ := z
  obtain ⟨hx, hb, hml, hown, hts, hK, hA, rfl, rfl, rfl, rfl, rfl, hcs, hss⟩ := E
  intro H locs ls hP hD hS h
  exact lv_ishr hx hb hd (k H locs ls hP hD hS h)
theorem gz_iushr (E : gz_E z l' D' tys' cc own Ts nL' R' kb) {x y : Int32} (hd : decode cc pc = .ok (.iushr, 1))  (k : gz_G z ws (pc + 1) lv (.int ((x.toUInt32 >>> (y.toUInt32 &&& Int32.toUInt32 31)).toInt32) :: rest)) : gz_G z ws pc lv (.int y :: .int x :: rest) := by
  obtain ⟨p, l, e, R, s, m, args, below, meth, c, D, tys, A, nL, cells, slots, Q⟩ := z
  obtain ⟨hx, hb, hml, hown, hts, hK, hA, rfl, rfl, rfl, rfl, rfl, hcs, hss⟩ := E
  intro H locs ls hP hD hS h
  exact lv_iushr hx hb hd rfl (k H locs ls hP hD hS h)
theorem gz_ladd (E : gz_E z l' D' tys' cc own Ts nL' R' kb) {x y : Int64} (hd : decode cc pc = .ok (.ladd, 1))  (k : gz_G z ws (pc + 1) lv (.long (x + y) :: rest)) : gz_G z ws pc lv (.long y :: .long x :: rest) := by
  obtain ⟨p, l, e, R, s, m, args, below, meth, c, D, tys, A, nL, cells, slots, Q⟩ := z
  obtain ⟨hx, hb, hml, hown, hts, hK, hA, rfl, rfl, rfl, rfl, rfl, hcs, hss⟩ := E
  intro H locs ls hP hD hS h
  exact lv_ladd hx hb hd (k H locs ls hP hD hS h)
theorem gz_lsub (E : gz_E z l' D' tys' cc own Ts nL' R' kb) {x y : Int64} (hd : decode cc pc = .ok (.lsub, 1))  (k : gz_G z ws (pc + 1) lv (.long (x - y) :: rest)) : gz_G z ws pc lv (.long y :: .long x :: rest) := by
  obtain ⟨p, l, e, R, s, m, args, below, meth, c, D, tys, A, nL, cells, slots, Q⟩ := z
  obtain ⟨hx, hb, hml, hown, hts, hK, hA, rfl, rfl, rfl, rfl, rfl, hcs, hss⟩ := E
  intro H locs ls hP hD hS h
  exact lv_lsub hx hb hd (k H locs ls hP hD hS h)
theorem gz_lmul (E : gz_E z l' D' tys' cc own Ts nL' R' kb) {x y : Int64} (hd : decode cc pc = .ok (.lmul, 1))  (k : gz_G z ws (pc + 1) lv (.long (x * y) :: rest)) : gz_G z ws pc lv (.long y :: .long x :: rest) := by
  obtain ⟨p, l, e, R, s, m, args, below, meth, c, D, tys, A, nL, cells, slots, Q⟩ := z
  obtain ⟨hx, hb, hml, hown, hts, hK, hA, rfl, rfl, rfl, rfl, rfl, hcs, hss⟩ := E
  intro H locs ls hP hD hS h
  exact lv_lmul hx hb hd (k H locs ls hP hD hS h)
theorem gz_land (E : gz_E z l' D' tys' cc own Ts nL' R' kb) {x y : Int64} (hd : decode cc pc = .ok (.land, 1))  (k : gz_G z ws (pc + 1) lv (.long (x &&& y) :: rest)) : gz_G z ws pc lv (.long y :: .long x :: rest) := by
  obtain ⟨p, l, e, R, s, m, args, below, meth, c, D, tys, A, nL, cells, slots, Q⟩ := z
  obtain ⟨hx, hb, hml, hown, hts, hK, hA, rfl, rfl, rfl, rfl, rfl, hcs, hss⟩ := E
  intro H locs ls hP hD hS h
  exact lv_land hx hb hd (k H locs ls hP hD hS h)
theorem gz_ldiv (E : gz_E z l' D' tys' cc own Ts nL' R' kb) {x y : Int64} (hd : decode cc pc = .ok (.ldiv, 1)) (hne : ¬ y = 0) (k : gz_G z ws (pc + 1) lv (.long (x / y) :: rest)) : gz_G z ws pc lv (.long y :: .long x :: rest) := by
  obtain ⟨p, l, e, R, s, m, args, below, meth, c, D, tys, A, nL, cells, slots, Q⟩ := z
  obtain ⟨hx, hb, hml, hown, hts, hK, hA, rfl, rfl, rfl, rfl, rfl, hcs, hss⟩ := E
  intro H locs ls hP hD hS h
  exact lv_ldiv hx hb hd hne (k H locs ls hP hD hS h)
theorem gz_lrem (E : gz_E z l' D' tys' cc own Ts nL' R' kb) {x y : Int64} (hd : decode cc pc = .ok (.lrem, 1)) (hne : ¬ y = 0) (k : gz_G z ws (pc + 1) lv (.long (x - x / y * y) :: rest)) : gz_G z ws pc lv (.long y :: .long x :: rest) := by
  obtain ⟨p, l, e, R, s, m, args, below, meth, c, D, tys, A, nL, cells, slots, Q⟩ := z
  obtain ⟨hx, hb, hml, hown, hts, hK, hA, rfl, rfl, rfl, rfl, rfl, hcs, hss⟩ := E
  intro H locs ls hP hD hS h
  exact lv_lrem hx hb hd hne (k H locs ls hP hD hS h)
theorem gz_lneg (E : gz_E z l' D' tys' cc own Ts nL' R' kb) {x : Int64} (hd : decode cc pc = .ok (.lneg, 1))  (k : gz_G z ws (pc + 1) lv (.long (-x) :: rest)) : gz_G z ws pc lv (.long x :: rest) := by
  obtain ⟨p, l, e, R, s, m, args, below, meth, c, D, tys, A, nL, cells, slots, Q⟩ := z
  obtain ⟨hx, hb, hml, hown, hts, hK, hA, rfl, rfl, rfl, rfl, rfl, hcs, hss⟩ := E
  intro H locs ls hP hD hS h
  exact lv_lneg hx hb hd (k H locs ls hP hD hS h)
theorem gz_lshr (E : gz_E z l' D' tys' cc own Ts nL' R' kb) {x : Int64} {y : Int32} (hd : decode cc pc = .ok (.lshr, 1))  (k : gz_G z ws (pc + 1) lv (.long (x >>> (y.toInt64 &&& 63)) :: rest)) : gz_G z ws pc lv (.int y :: .long x :: rest) := by
  obtain ⟨p, l, e, R, s, m, args, below, meth, c, D, tys, A, nL, cells, slots, Q⟩ := z
  obtain ⟨hx, hb, hml, hown, hts, hK, hA, rfl, rfl, rfl, rfl, rfl, hcs, hss⟩ := E
  intro H locs ls hP hD hS h
  exact lv_lshr hx hb hd rfl (k H locs ls hP hD hS h)
theorem gz_i2l (E : gz_E z l' D' tys' cc own Ts nL' R' kb) {x : Int32} (hd : decode cc pc = .ok (.i2l, 1))  (k : gz_G z ws (pc + 1) lv (.long x.toInt64 :: rest)) : gz_G z ws pc lv (.int x :: rest) := by
  obtain ⟨p, l, e, R, s, m, args, below, meth, c, D, tys, A, nL, cells, slots, Q⟩ := z
  obtain ⟨hx, hb, hml, hown, hts, hK, hA, rfl, rfl, rfl, rfl, rfl, hcs, hss⟩ := E
  intro H locs ls hP hD hS h
  exact lv_i2l hx hb hd rfl (k H locs ls hP hD hS h)
theorem gz_i2d (E : gz_E z l' D' tys' cc own Ts nL' R' kb) {x : Int32} (hd : decode cc pc = .ok (.i2d, 1))  (k : gz_G z ws (pc + 1) lv (.double (FP.i2d x) :: rest)) : gz_G z ws pc lv (.int x :: rest) := by
  obtain ⟨p, l, e, R, s, m, args, below, meth, c, D, tys, A, nL, cells, slots, Q⟩ := z
  obtain ⟨hx, hb, hml, hown, hts, hK, hA, rfl, rfl, rfl, rfl, rfl, hcs, hss⟩ := E
  intro H locs ls hP hD hS h
  exact lv_i2d hx hb hd (k H locs ls hP hD hS h)
theorem gz_l2d (E : gz_E z l' D' tys' cc own Ts nL' R' kb) {x : Int64} (hd : decode cc pc = .ok (.l2d, 1))  (k : gz_G z ws (pc + 1) lv (.double (FP.l2d x) :: rest)) : gz_G z ws pc lv (.long x :: rest) := by
  obtain ⟨p, l, e, R, s, m, args, below, meth, c, D, tys, A, nL, cells, slots, Q⟩ := z
  obtain ⟨hx, hb, hml, hown, hts, hK, hA, rfl, rfl, rfl, rfl, rfl, hcs, hss⟩ := E
  intro H locs ls hP hD hS h
  exact lv_l2d hx hb hd (k H locs ls hP hD hS h)
theorem gz_d2l (E : gz_E z l' D' tys' cc own Ts nL' R' kb) {x : UInt64} (hd : decode cc pc = .ok (.d2l, 1))  (k : gz_G z ws (pc + 1) lv (.long (FP.d2l x) :: rest)) : gz_G z ws pc lv (.double x :: rest) := by
  obtain ⟨p, l, e, R, s, m, args, below, meth, c, D, tys, A, nL, cells, slots, Q⟩ := z
  obtain ⟨hx, hb, hml, hown, hts, hK, hA, rfl, rfl, rfl, rfl, rfl, hcs, hss⟩ := E
  intro H locs ls hP hD hS h
  exact lv_d2l hx hb hd (k H locs ls hP hD hS h)
theorem gz_dadd (E : gz_E z l' D' tys' cc own Ts nL' R' kb) {x y v : UInt64} (hd : decode cc pc = .ok (.dadd, 1)) (hv : FP.dadd x y = v) (hne : vf_n64 v) (k : gz_G z ws (pc + 1) lv (.double v :: rest)) : gz_G z ws pc lv (.double y :: .double x :: rest) := by
  obtain ⟨p, l, e, R, s, m, args, below, meth, c, D, tys, A, nL, cells, slots, Q⟩ := z
  obtain ⟨hx, hb, hml, hown, hts, hK, hA, rfl, rfl, rfl, rfl, rfl, hcs, hss⟩ := E
  intro H locs ls hP hD hS h
  subst hv
  exact lv_dadd hx hb hd hne (k H locs ls hP hD hS h)
theorem gz_dsub (E : gz_E z l' D' tys' cc own Ts nL' R' kb) {x y v : UInt64} (hd : decode cc pc = .ok (.dsub, 1)) (hv : FP.dsub x y = v) (hne : vf_n64 v) (k : gz_G z ws (pc + 1) lv (.double v :: rest)) : gz_G z ws pc lv (.double y :: .double x :: rest) := by
  obtain ⟨p, l, e, R, s, m, args, below, meth, c, D, tys, A, nL, cells, slots, Q⟩ := z
  obtain ⟨hx, hb, hml, hown, hts, hK, hA, rfl, rfl, rfl, rfl, rfl, hcs, hss⟩ := E
  intro H locs ls hP hD hS h
  subst hv
  exact lv_dsub hx hb hd hne (k H locs ls hP hD hS h)
theorem gz_dmul (E : gz_E z l' D' tys' cc own Ts nL' R' kb) {x y v : UInt64} (hd : decode cc pc = .ok (.dmul, 1)) (hv : FP.dmul x y = v) (hne : vf_n64 v) (k : gz_G z ws (pc + 1) lv (.double v :: rest)) : gz_G z ws pc lv (.double y :: .double x :: rest) := by
  obtain ⟨p, l, e, R, s, m, args, below, meth, c, D, tys, A, nL, cells, slots, Q⟩ := z
  obtain ⟨hx, hb, hml, hown, hts, hK, hA, rfl, rfl, rfl, rfl, rfl, hcs, hss⟩ := E
  intro H locs ls hP hD hS h
  subst hv
  exact lv_dmul hx hb hd hne (k H locs ls hP hD hS h)
theorem gz_ddiv (E : gz_E z l' D' tys' cc own Ts nL' R' kb) {x y v : UInt64} (hd : decode cc pc = .ok (.ddiv, 1)) (hv : FP.ddiv x y = v) (hne : vf_n64 v) (k : gz_G z ws (pc + 1) lv (.double v :: rest)) : gz_G z ws pc lv (.double y :: .double x :: rest) := by
  obtain ⟨p, l, e, R, s, m, args, below, meth, c, D, tys, A, nL, cells, slots, Q⟩ := z
  obtain ⟨hx, hb, hml, hown, hts, hK, hA, rfl, rfl, rfl, rfl, rfl, hcs, hss⟩ := E
  intro H locs ls hP hD hS h
  subst hv
  exact lv_ddiv hx hb hd hne (k H locs ls hP hD hS h)
theorem gz_dup (E : gz_E z l' D' tys' cc own Ts nL' R' kb) {va : Value} (hd : decode cc pc = .ok (.dup, 1)) (hva : va.category = 1) (k : gz_G z ws (pc + 1) lv (va :: va :: rest)) : gz_G z ws pc lv (va :: rest) := by
  obtain ⟨p, l, e, R, s, m, args, below, meth, c, D, tys, A, nL, cells, slots, Q⟩ := z
  obtain ⟨hx, hb, hml, hown, hts, hK, hA, rfl, rfl, rfl, rfl, rfl, hcs, hss⟩ := E
  intro H locs ls hP hD hS h
  exact lv_dup hx hb hd hva (k H locs ls hP hD hS h)
theorem gz_dup2_11 (E : gz_E z l' D' tys' cc own Ts nL' R' kb) {va vb : Value} (hd : decode cc pc = .ok (.dup2, 1)) (hva : va.category = 1) (hvb : vb.category = 1) (k : gz_G z ws (pc + 1) lv (va :: vb :: va :: vb :: rest)) : gz_G z ws pc lv (va :: vb :: rest) := by
  obtain ⟨p, l, e, R, s, m, args, below, meth, c, D, tys, A, nL, cells, slots, Q⟩ := z
  obtain ⟨hx, hb, hml, hown, hts, hK, hA, rfl, rfl, rfl, rfl, rfl, hcs, hss⟩ := E
  intro H locs ls hP hD hS h
  exact lv_dup2_11 hx hb hd hva hvb (k H locs ls hP hD hS h)
theorem gz_lcmp (E : gz_E z l' D' tys' cc own Ts nL' R' kb) {x y : Int64} (hd : decode cc pc = .ok (.lcmp, 1)) (k : gz_G z ws (pc + 1) lv (.int (lg_cmp x y) :: rest)) : gz_G z ws pc lv (.long y :: .long x :: rest) := by
  obtain ⟨p, l, e, R, s, m, args, below, meth, c, D, tys, A, nL, cells, slots, Q⟩ := z
  obtain ⟨hx, hb, hml, hown, hts, hK, hA, rfl, rfl, rfl, rfl, rfl, hcs, hss⟩ := E
  intro H locs ls hP hD hS h
  exact W.lcmp hx hb hd (k H locs ls hP hD hS h)
theorem gz_dcmp (E : gz_E z l' D' tys' cc own Ts nL' R' kb) {x y : UInt64} {op : CmpOp} {v : Int32} (hd : decode cc pc = .ok (.dcmp op, 1)) (hv : Op.cmpValue (FP.dcmp x y) op = v) (k : gz_G z ws (pc + 1) lv (.int v :: rest)) : gz_G z ws pc lv (.double y :: .double x :: rest) := by
  obtain ⟨p, l, e, R, s, m, args, below, meth, c, D, tys, A, nL, cells, slots, Q⟩ := z
  obtain ⟨hx, hb, hml, hown, hts, hK, hA, rfl, rfl, rfl, rfl, rfl, hcs, hss⟩ := E
  intro H locs ls hP hD hS h
  subst hv
  exact lv_dcmp hx hb hd (k H locs ls hP hD hS h)
theorem gz_if_eq (E : gz_E z l' D' tys' cc own Ts nL' R' kb) {x : Int32} {off : Int} {tgt : Nat} (hd : decode cc pc = .ok (.ifCond .eq off, 3)) (ht : (pc : Int) + off = (tgt : Int)) (kt : x = 0 → gz_G z ws tgt lv rest) (kf : ¬ x = 0 → gz_G z ws (pc + 3) lv rest) : gz_G z ws pc lv (.int x :: rest) := by
  obtain ⟨p, l, e, R, s, m, args, below, meth, c, D, tys, A, nL, cells, slots, Q⟩ := z
  obtain ⟨hx, hb, hml, hown, hts, hK, hA, rfl, rfl, rfl, rfl, rfl, hcs, hss⟩ := E
  intro H locs ls hP hD hS h
  exact lv_if_eq hx hb hd ht (fun q => kt q H locs ls hP hD hS h) (fun q => kf q H locs ls hP hD hS h)
theorem gz_icmp_eq (E : gz_E z l' D' tys' cc own Ts nL' R' kb) {x y : Int32} {off : Int} {tgt : Nat} (hd : decode cc pc = .ok (.if_icmp .eq off, 3)) (ht : (pc : Int) + off = (tgt : Int)) (kt : x = y → gz_G z ws tgt lv rest) (kf : ¬ x = y → gz_G z ws (pc + 3) lv rest) : gz_G z ws pc lv (.int y :: .int x :: rest) := by
  obtain ⟨p, l, e, R, s, m, args, below, meth, c, D, tys, A, nL, cells, slots, Q⟩ := z
  obtain ⟨hx, hb, hml, hown, hts, hK, hA, rfl, rfl, rfl, rfl, rfl, hcs, hss⟩ := E
  intro H locs ls hP hD hS h
  exact lv_icmp_eq hx hb hd ht (fun q => kt q H locs ls hP hD hS h) (fun q => kf q H locs ls hP hD hS h)
theorem gz_lc_eq (E : gz_E z l' D' tys' cc own Ts nL' R' kb) {x y : Int64} {off : Int} {tgt : Nat} (hd0 : decode cc pc = .ok (.lcmp, 1)) (hd : decode cc (pc + 1) = .ok (.ifCond .eq off, 3)) (ht : ((pc + 1 : Nat) : Int) + off = (tgt : Int)) (kt : x = y → gz_G z ws tgt lv rest) (kf : ¬ x = y → gz_G z ws (pc + 1 + 3) lv rest) : gz_G z ws pc lv (.long y :: .long x :: rest) := by
  refine gz_lcmp E hd0 (gz_if_eq E hd ht (fun q => kt ?_) (fun q => kf ?_))
  · exact (lg_cmp_eq x y).mp q
  · exact fun r => q ((lg_cmp_eq x y).mpr r)
theorem gz_if_ne (E : gz_E z l' D' tys' cc own Ts nL' R' kb) {x : Int32} {off : Int} {tgt : Nat} (hd : decode cc pc = .ok (.ifCond .ne off, 3)) (ht : (pc : Int) + off = (tgt : Int)) (kt : ¬ x = 0 → gz_G z ws tgt lv rest) (kf : x = 0 → gz_G z ws (pc + 3) lv rest) : gz_G z ws pc lv (.int x :: rest) := by
  obtain ⟨p, l, e, R, s, m, args, below, meth, c, D, tys, A, nL, cells, slots, Q⟩ := z
  obtain ⟨hx, hb, hml, hown, hts, hK, hA, rfl, rfl, rfl, rfl, rfl, hcs, hss⟩ := E
  intro H locs ls hP hD hS h
  exact lv_if_ne hx hb hd ht (fun q => kt q H locs ls hP hD hS h) (fun q => kf q H locs ls hP hD hS h)
theorem gz_icmp_ne (E : gz_E z l' D' tys' cc own Ts nL' R' kb) {x y : Int32} {off : Int} {tgt : Nat} (hd : decode cc pc = .ok (.if_icmp .ne off, 3)) (ht : (pc : Int) + off = (tgt : Int)) (kt : ¬ x = y → gz_G z ws tgt lv rest) (kf : x = y → gz_G z ws (pc + 3) lv rest) : gz_G z ws pc lv (.int y :: .int x :: rest) := by
  obtain ⟨p, l, e, R, s, m, args, below, meth, c, D, tys, A, nL, cells, slots, Q⟩ := z
  obtain ⟨hx, hb, hml, hown, hts, hK, hA, rfl, rfl, rfl, rfl, rfl, hcs, hss⟩ := E
  intro H locs ls hP hD hS h
  exact lv_icmp_ne hx hb hd ht (fun q => kt q H locs ls hP hD hS h) (fun q => kf q H locs ls hP hD hS h)
theorem gz_lc_ne (E : gz_E z l' D' tys' cc own Ts nL' R' kb) {x y : Int64} {off : Int} {tgt : Nat} (hd0 : decode cc pc = .ok (.lcmp, 1)) (hd : decode cc (pc + 1) = .ok (.ifCond .ne off, 3)) (ht : ((pc + 1 : Nat) : Int) + off = (tgt : Int)) (kt : ¬ x = y → gz_G z ws tgt lv rest) (kf : x = y → gz_G z ws (pc + 1 + 3) lv rest) : gz_G z ws pc lv (.long y :: .long x :: rest) := by
  refine gz_lcmp E hd0 (gz_if_ne E hd ht (fun q => kt ?_) (fun q => kf ?_))
  · exact fun r => q ((lg_cmp_eq x y).mpr r)
  · exact (lg_cmp_eq x y).mp q
theorem gz_if_lt (E : gz_E z l' D' tys' cc own Ts nL' R' kb) {x : Int32} {off : Int} {tgt : Nat} (hd : decode cc pc = .ok (.ifCond .lt off, 3)) (ht : (pc : Int) + off = (tgt : Int)) (kt : x < 0 → gz_G z ws tgt lv rest) (kf : ¬ x < 0 → gz_G z ws (pc + 3) lv rest) : gz_G z ws pc lv (.int x :: rest) := by
  obtain ⟨p, l, e, R, s, m, args, below, meth, c, D, tys, A, nL, cells, slots, Q⟩ := z
  obtain ⟨hx, hb, hml, hown, hts, hK, hA, rfl, rfl, rfl, rfl, rfl, hcs, hss⟩ := E
  intro H locs ls hP hD hS h
  exact lv_if_lt hx hb hd ht (fun q => kt q H locs ls hP hD hS h) (fun q => kf q H locs ls hP hD hS h)
theorem gz_icmp_lt (E : gz_E z l' D' tys' cc own Ts nL' R' kb) {x y : Int32} {off : Int} {tgt : Nat} (hd : decode cc pc = .ok (.if_icmp .lt off, 3)) (ht : (pc : Int) + off = (tgt : Int)) (kt : x < y → gz_G z ws tgt lv rest) (kf : ¬ x < y → gz_G z ws (pc + 3) lv rest) : gz_G z ws pc lv (.int y :: .int x :: rest) := by
  obtain ⟨p, l, e, R, s, m, args, below, meth, c, D, tys, A, nL, cells, slots, Q⟩ := z
  obtain ⟨hx, hb, hml, hown, hts, hK, hA, rfl, rfl, rfl, rfl, rfl, hcs, hss⟩ := E
  intro H locs ls hP hD hS h
  exact lv_icmp_lt hx hb hd ht (fun q => kt q H locs ls hP hD hS h) (fun q => kf q H locs ls hP hD hS h)
theorem gz_lc_lt (E : gz_E z l' D' tys' cc own Ts nL' R' kb) {x y : Int64} {off : Int} {tgt : Nat} (hd0 : decode cc pc = .ok (.lcmp, 1)) (hd : decode cc (pc + 1) = .ok (.ifCond .lt off, 3)) (ht : ((pc + 1 : Nat) : Int) + off = (tgt : Int)) (kt : x < y → gz_G z ws tgt lv rest) (kf : ¬ x < y → gz_G z ws (pc + 1 + 3) lv rest) : gz_G z ws pc lv (.long y :: .long x :: rest) := by
  refine gz_lcmp E hd0 (gz_if_lt E hd ht (fun q => kt ?_) (fun q => kf ?_))
  · exact (lg_cmp_lt x y).mp q
  · exact fun r => q ((lg_cmp_lt x y).mpr r)
theorem gz_if_ge (E : gz_E z l' D' tys' cc own Ts nL' R' kb) {x : Int32} {off : Int} {tgt : Nat} (hd : decode cc pc = .ok (.ifCond .ge off, 3)) (ht : (pc : Int) + off = (tgt : Int)) (kt : 0 ≤ x → gz_G z ws tgt lv rest) (kf : ¬ 0 ≤ x → gz_G z ws (pc + 3) lv rest) : gz_G z ws pc lv (.int x :: rest) := by
  obtain ⟨p, l, e, R, s, m, args, below, meth, c, D, tys, A, nL, cells, slots, Q⟩ := z
  obtain ⟨hx, hb, hml, hown, hts, hK, hA, rfl, rfl, rfl, rfl, rfl, hcs, hss⟩ := E
  intro H locs ls hP hD hS h
  exact lv_if_ge hx hb hd ht (fun q => kt q H locs ls hP hD hS h) (fun q => kf q H locs ls hP hD hS h)
theorem gz_icmp_ge (E : gz_E z l' D' tys' cc own Ts nL' R' kb) {x y : Int32} {off : Int} {tgt : Nat} (hd : decode cc pc = .ok (.if_icmp .ge off, 3)) (ht : (pc : Int) + off = (tgt : Int)) (kt : y ≤ x → gz_G z ws tgt lv rest) (kf : ¬ y ≤ x → gz_G z ws (pc + 3) lv rest) : gz_G z ws pc lv (.int y :: .int x :: rest) := by
  obtain ⟨p, l, e, R, s, m, args, below, meth, c, D, tys, A, nL, cells, slots, Q⟩ := z
  obtain ⟨hx, hb, hml, hown, hts, hK, hA, rfl, rfl, rfl, rfl, rfl, hcs, hss⟩ := E
  intro H locs ls hP hD hS h
  exact lv_icmp_ge hx hb hd ht (fun q => kt q H locs ls hP hD hS h) (fun q => kf q H locs ls hP hD hS h)
theorem gz_lc_ge (E : gz_E z l' D' tys' cc own Ts nL' R' kb) {x y : Int64} {off : Int} {tgt : Nat} (hd0 : decode cc pc = .ok (.lcmp, 1)) (hd : decode cc (pc + 1) = .ok (.ifCond .ge off, 3)) (ht : ((pc + 1 : Nat) : Int) + off = (tgt : Int)) (kt : y ≤ x → gz_G z ws tgt lv rest) (kf : ¬ y ≤ x → gz_G z ws (pc + 1 + 3) lv rest) : gz_G z ws pc lv (.long y :: .long x :: rest) := by
  refine gz_lcmp E hd0 (gz_if_ge E hd ht (fun q => kt ?_) (fun q => kf ?_))
  · exact (lg_cmp_ge x y).mp q
  · exact fun r => q ((lg_cmp_ge x y).mpr r)
theorem gz_if_gt (E : gz_E z l' D' tys' cc own Ts nL' R' kb) {x : Int32} {off : Int} {tgt : Nat} (hd : decode cc pc = .ok (.ifCond .gt off, 3)) (ht : (pc : Int) + off = (tgt : Int)) (kt : 0 < x → gz_G z ws tgt lv rest) (kf : ¬ 0 < x → gz_G z ws (pc + 3) lv rest) : gz_G z ws pc lv (.int x :: rest) := by
  obtain ⟨p, l, e, R, s, m, args, below, meth, c, D, tys, A, nL, cells, slots, Q⟩ := z
  obtain ⟨hx, hb, hml, hown, hts, hK, hA, rfl, rfl, rfl, rfl, rfl, hcs, hss⟩ := E
  intro H locs ls hP hD hS h
  exact lv_if_gt hx hb hd ht (fun q => kt q H locs ls hP hD hS h) (fun q => kf q H locs ls hP hD hS h)
theorem gz_icmp_gt (E : gz_E z l' D' tys' cc own Ts nL' R' kb) {x y : Int32} {off : Int} {tgt : Nat} (hd : decode cc pc = .ok (.if_icmp .gt off, 3)) (ht : (pc : Int) + off = (tgt : Int)) (kt : y < x → gz_G z ws tgt lv rest) (kf : ¬ y < x → gz_G z ws (pc + 3) lv rest) : gz_G z ws pc lv (.int y :: .int x :: rest) := by
  obtain ⟨p, l, e, R, s, m, args, below, meth, c, D, tys, A, nL, cells, slots, Q⟩ := z
  obtain ⟨hx, hb, hml, hown, hts, hK, hA, rfl, rfl, rfl, rfl, rfl, hcs, hss⟩ := E
  intro H locs ls hP hD hS h
  exact lv_icmp_gt hx hb hd ht (fun q => kt q H locs ls hP hD hS h) (fun q => kf q H locs ls hP hD hS h)
theorem gz_lc_gt (E : gz_E z l' D' tys' cc own Ts nL' R' kb) {x y : Int64} {off : Int} {tgt : Nat} (hd0 : decode cc pc = .ok (.lcmp, 1)) (hd : decode cc (pc + 1) = .ok (.ifCond .gt off, 3)) (ht : ((pc + 1 : Nat) : Int) + off = (tgt : Int)) (kt : y < x → gz_G z ws tgt lv rest) (kf : ¬ y < x → gz_G z ws (pc + 1 + 3) lv rest) : gz_G z ws pc lv (.long y :: .long x :: rest) := by
  refine gz_lcmp E hd0 (gz_if_gt E hd ht (fun q => kt ?_) (fun q => kf ?_))
  · exact (lg_cmp_gt x y).mp q
  · exact fun r => q ((lg_cmp_gt x y).mpr r)
theorem gz_if_le (E : gz_E z l' D' tys' cc own Ts nL' R' kb) {x : Int32} {off : Int} {tgt : Nat} (hd : decode cc pc = .ok (.ifCond .le off, 3)) (ht : (pc : Int) + off = (tgt : Int)) (kt : x ≤ 0 → gz_G z ws tgt lv rest) (kf : ¬ x ≤ 0 → gz_G z ws (pc + 3) lv rest) : gz_G z ws pc lv (.int x :: rest) := by
  obtain ⟨p, l, e, R, s, m, args, below, meth, c, D, tys, A, nL, cells, slots, Q⟩ := z
  obtain ⟨hx, hb, hml, hown, hts, hK, hA, rfl, rfl, rfl, rfl, rfl, hcs, hss⟩ := E
  intro H locs ls hP hD hS h
  exact lv_if_le hx hb hd ht (fun q => kt q H locs ls hP hD hS h) (fun q => kf q H locs ls hP hD hS h)
theorem gz_icmp_le (E : gz_E z l' D' tys' cc own Ts nL' R' kb) {x y : Int32} {off : Int} {tgt : Nat} (hd : decode cc pc = .ok (.if_icmp .le off, 3)) (ht : (pc : Int) + off = (tgt : Int)) (kt : x ≤ y → gz_G z ws tgt lv rest) (kf : ¬ x ≤ y → gz_G z ws (pc + 3) lv rest) : gz_G z ws pc lv (.int y :: .int x :: rest) := by
  obtain ⟨p, l, e, R, s, m, args, below, meth, c, D, tys, A, nL, cells, slots, Q⟩ := z
  obtain ⟨hx, hb, hml, hown, hts, hK, hA, rfl, rfl, rfl, rfl, rfl, hcs, hss⟩ := E
  intro H locs ls hP hD hS h
  exact lv_icmp_le hx hb hd ht (fun q => kt q H locs ls hP hD hS h) (fun q => kf q H locs ls hP hD hS h)
theorem gz_lc_le (E : gz_E z l' D' tys' cc own Ts nL' R' kb) {x y : Int64} {off : Int} {tgt : Nat} (hd0 : decode cc pc = .ok (.lcmp, 1)) (hd : decode cc (pc + 1) = .ok (.ifCond .le off, 3)) (ht : ((pc + 1 : Nat) : Int) + off = (tgt : Int)) (kt : x ≤ y → gz_G z ws tgt lv rest) (kf : ¬ x ≤ y → gz_G z ws (pc + 1 + 3) lv rest) : gz_G z ws pc lv (.long y :: .long x :: rest) := by
  refine gz_lcmp E hd0 (gz_if_le E hd ht (fun q => kt ?_) (fun q => kf ?_))
  · exact (lg_cmp_le x y).mp q
  · exact fun r => q ((lg_cmp_le x y).mpr r)
theorem gz_goto (E : gz_E z l' D' tys' cc own Ts nL' R' kb) {off : Int} {tgt : Nat} (hd : decode cc pc = .ok (.goto off, 3)) (ht : (pc : Int) + off = (tgt : Int)) (k : gz_G z ws tgt lv st) : gz_G z ws pc lv st := by
  obtain ⟨p, l, e, R, s, m, args, below, meth, c, D, tys, A, nL, cells, slots, Q⟩ := z
  obtain ⟨hx, hb, hml, hown, hts, hK, hA, rfl, rfl, rfl, rfl, rfl, hcs, hss⟩ := E
  intro H locs ls hP hD hS h
  exact lv_goto hx hb hd ht (k H locs ls hP hD hS h)
theorem gz_get (E : gz_E z l' D' tys' cc own Ts nL' R' true) {C : String} {T : u_T} {N ci index a : Nat} (hin : ∀ w ∈ u_ws C T N, w ∈ Ts) (q0 : Nat) (f0 : Nat) {fs : List Value} (hd : decode cc pc = .ok (.getfield index, 3)) (hlink : Cond.fieldLink own index C (T f0).2.1 (T f0).2.2.1 ∈ Ts) (he : ws[q0]? = some (a, .inr (ci, fs))) (hc : vwCl[ci]? = some (C, T, N)) (hk : f0 < N) (hC : (T f0).1 = C) {v : Value} (hv : fs[f0]? = some v) (k : gz_G z ws (pc + 3) lv (v :: rest)) : gz_G z ws pc lv (.ref a :: rest) := by
  obtain ⟨p, l, e, R, s, m, args, below, meth, c, D, tys, A, nL, cells, slots, Q⟩ := z
  obtain ⟨hx, hb, hml, hown, hts, hK, hA, rfl, rfl, rfl, rfl, rfl, hcs, hss⟩ := E
  have hK := hK rfl
  have hA := hA rfl
  intro H locs ls hP hD hS h
  exact va_get (D := D) (ci := ci) hx hb hts hin hown hK hP q0 he hc f0 hk (hts _ hlink) (fun x hx => by rw [← hC]; exact hx) hv hd (k H locs ls hP hD hS h)
theorem gz_put (E : gz_E z l' D' tys' cc own Ts nL' R' true) {C : String} {T : u_T} {N ci index a : Nat} (hin : ∀ w ∈ u_ws C T N, w ∈ Ts) (q0 : Nat) (f0 : Nat) {fs : List Value} (hd : decode cc pc = .ok (.putfield index, 3)) (hlink : Cond.fieldLink own index C (T f0).2.1 (T f0).2.2.1 ∈ Ts) (he : ws[q0]? = some (a, .inr (ci, fs))) (hc : vwCl[ci]? = some (C, T, N)) (hk : f0 < N) (hC : (T f0).1 = C) (ty0 : Nat → FieldType) (hty : ∀ k, k < N → parseFieldDescriptor (T k).2.2.1 = some (ty0 k)) (hnm : ∀ a, a < N → ∀ b, b < N → a ≠ b → (T a).2.1 ≠ (T b).2.1) (hfin : (T f0).2.2.2 = false) {v : Value} (hn : narrow (ty0 f0) v = v) (hfit : fits (ty0 f0) v = true) (hl : f0 < fs.length) (k : gz_G z (ws.set q0 (a, .inr (ci, fs.set f0 v))) (pc + 3) lv rest) : gz_G z ws pc lv (v :: .ref a :: rest) := by
  obtain ⟨p, l, e, R, s, m, args, below, meth, c, D, tys, A, nL, cells, slots, Q⟩ := z
  obtain ⟨hx, hb, hml, hown, hts, hK, hA, rfl, rfl, rfl, rfl, rfl, hcs, hss⟩ := E
  have hK := hK rfl
  have hA := hA rfl
  intro H locs ls hP hD hS h
  exact va_put (D := D) (ci := ci) (ty := ty0 f0) hx hb hts hin ty0 hty hnm hown hK hP hD hS q0 he hc f0 hk (hts _ hlink) (fun x hx => by rw [← hC]; exact hx) hfin (hty f0 hk) hn hfit hl hd (fun H1 locs1 hP hD hS => k H1 locs1 ls hP hD hS h)
theorem gz_iald (E : gz_E z l' D' tys' cc own Ts nL' R' true) (q0 t0 : Nat) {a : Nat} {cA : ClassId} {n : Nat} {f : Nat → Int32} {i : Int32} (hd : decode cc pc = .ok (.iaload, 1)) (ha : ws[q0]? = some (a, .inl (cA, n, .inl f))) (ht : tys'[t0]? = some (cA, .int)) (hin : vp_in i n) (k : gz_G z ws (pc + 1) lv (.int (f i.toNatClampNeg) :: rest)) : gz_G z ws pc lv (.int i :: .ref a :: rest) := by
  obtain ⟨p, l, e, R, s, m, args, below, meth, c, D, tys, A, nL, cells, slots, Q⟩ := z
  obtain ⟨hx, hb, hml, hown, hts, hK, hA, rfl, rfl, rfl, rfl, rfl, hcs, hss⟩ := E
  have hK := hK rfl
  have hA := hA rfl
  intro H locs ls hP hD hS h
  exact va_iald hx hb hK hP q0 t0 ha ht hin hd (k H locs ls hP hD hS h)
theorem gz_iast (E : gz_E z l' D' tys' cc own Ts nL' R' true) (q0 t0 : Nat) {a : Nat} {cA : ClassId} {n : Nat} {f : Nat → Int32} {i : Int32} {x : Int32} (hd : decode cc pc = .ok (.iastore, 1)) (ha : ws[q0]? = some (a, .inl (cA, n, .inl f))) (ht : tys'[t0]? = some (cA, .int)) (hin : vp_in i n) (k : gz_G z (ws.set q0 (a, .inl (cA, n, .inl (upd f i.toNatClampNeg x)))) (pc + 1) lv rest) : gz_G z ws pc lv (.int x :: .int i :: .ref a :: rest) := by
  obtain ⟨p, l, e, R, s, m, args, below, meth, c, D, tys, A, nL, cells, slots, Q⟩ := z
  obtain ⟨hx, hb, hml, hown, hts, hK, hA, rfl, rfl, rfl, rfl, rfl, hcs, hss⟩ := E
  have hK := hK rfl
  have hA := hA rfl
  intro H locs ls hP hD hS h
  exact va_iast hx hb hK hP hD hS q0 t0 ha ht hin hd (fun H1 locs1 hP hD hS => k H1 locs1 ls hP hD hS h)
theorem gz_lald (E : gz_E z l' D' tys' cc own Ts nL' R' true) (q0 t0 : Nat) {a : Nat} {cA : ClassId} {n : Nat} {f : Nat → Int64} {i : Int32} (hd : decode cc pc = .ok (.laload, 1)) (ha : ws[q0]? = some (a, .inl (cA, n, .inr (.inl f)))) (ht : tys'[t0]? = some (cA, .long)) (hin : vp_in i n) (k : gz_G z ws (pc + 1) lv (.long (f i.toNatClampNeg) :: rest)) : gz_G z ws pc lv (.int i :: .ref a :: rest) := by
  obtain ⟨p, l, e, R, s, m, args, below, meth, c, D, tys, A, nL, cells, slots, Q⟩ := z
  obtain ⟨hx, hb, hml, hown, hts, hK, hA, rfl, rfl, rfl, rfl, rfl, hcs, hss⟩ := E
  have hK := hK rfl
  have hA := hA rfl
  intro H locs ls hP hD hS h
  exact va_lald hx hb hK hP q0 t0 ha ht hin hd (k H locs ls hP hD hS h)
theorem gz_last (E : gz_E z l' D' tys' cc own Ts nL' R' true) (q0 t0 : Nat) {a : Nat} {cA : ClassId} {n : Nat} {f : Nat → Int64} {i : Int32} {x : Int64} (hd : decode cc pc = .ok (.lastore, 1)) (ha : ws[q0]? = some (a, .inl (cA, n, .inr (.inl f)))) (ht : tys'[t0]? = some (cA, .long)) (hin : vp_in i n) (k : gz_G z (ws.set q0 (a, .inl (cA, n, .inr (.inl (vp_updL f i.toNatClampNeg x))))) (pc + 1) lv rest) : gz_G z ws pc lv (.long x :: .int i :: .ref a :: rest) := by
  obtain ⟨p, l, e, R, s, m, args, below, meth, c, D, tys, A, nL, cells, slots, Q⟩ := z
  obtain ⟨hx, hb, hml, hown, hts, hK, hA, rfl, rfl, rfl, rfl, rfl, hcs, hss⟩ := E
  have hK := hK rfl
  have hA := hA rfl
  intro H locs ls hP hD hS h
  exact va_last hx hb hK hP hD hS q0 t0 ha ht hin hd (fun H1 locs1 hP hD hS => k H1 locs1 ls hP hD hS h)
/-- a contract: ar the arguments, w the world at the start, post: the answer and the world behind -/
def gz_Ki (l : Launch) (y : MethodName) (wl : List Cond) (rm : Room) (D : va_G) (tys : List (ClassId × FieldType)) (ar : List Value) (w : va_W) (post : Int32 → va_W → Prop) : Prop :=
  ∀ sz : Nat, Met l y wl rm (va_Pc ar (fun U => U.heap.size = sz ∧ va_P D vwCl w U.heap ∧ va_K D vwCl tys U ∧ va_D (fun _ => True) w)) (va_Qi post (fun w' t => va_P D vwCl w' t.heap ∧ va_K D vwCl tys t ∧ va_D (va_A w sz) w') (va_A w sz)) 0 0 (va_A w sz)
/-- a static method's contract: no world -/
def gz_Si (l : Launch) (y : MethodName) (wl : List Cond) (rm : Room) (ar : List Value) (post : Int32 → Prop) : Prop :=
  Met l y wl rm (va_Pc ar (fun _ => True)) (va_Qi (fun r (_ : Unit) => post r) (fun _ _ => True) (fun _ => False)) 0 0 (fun _ => False)
/-- a contract: ar the arguments, w the world at the start, post: the answer and the world behind -/
def gz_Kl (l : Launch) (y : MethodName) (wl : List Cond) (rm : Room) (D : va_G) (tys : List (ClassId × FieldType)) (ar : List Value) (w : va_W) (post : Int64 → va_W → Prop) : Prop :=
  ∀ sz : Nat, Met l y wl rm (va_Pc ar (fun U => U.heap.size = sz ∧ va_P D vwCl w U.heap ∧ va_K D vwCl tys U ∧ va_D (fun _ => True) w)) (va_Ql post (fun w' t => va_P D vwCl w' t.heap ∧ va_K D vwCl tys t ∧ va_D (va_A w sz) w') (va_A w sz)) 0 0 (va_A w sz)
/-- a static method's contract: no world -/
def gz_Sl (l : Launch) (y : MethodName) (wl : List Cond) (rm : Room) (ar : List Value) (post : Int64 → Prop) : Prop :=
  Met l y wl rm (va_Pc ar (fun _ => True)) (va_Ql (fun r (_ : Unit) => post r) (fun _ _ => True) (fun _ => False)) 0 0 (fun _ => False)
/-- a contract: ar the arguments, w the world at the start, post: the answer and the world behind -/
def gz_Kd (l : Launch) (y : MethodName) (wl : List Cond) (rm : Room) (D : va_G) (tys : List (ClassId × FieldType)) (ar : List Value) (w : va_W) (post : UInt64 → va_W → Prop) : Prop :=
  ∀ sz : Nat, Met l y wl rm (va_Pc ar (fun U => U.heap.size = sz ∧ va_P D vwCl w U.heap ∧ va_K D vwCl tys U ∧ va_D (fun _ => True) w)) (va_Qd post (fun w' t => va_P D vwCl w' t.heap ∧ va_K D vwCl tys t ∧ va_D (va_A w sz) w') (va_A w sz)) 0 0 (va_A w sz)
/-- a static method's contract: no world -/
def gz_Sd (l : Launch) (y : MethodName) (wl : List Cond) (rm : Room) (ar : List Value) (post : UInt64 → Prop) : Prop :=
  Met l y wl rm (va_Pc ar (fun _ => True)) (va_Qd (fun r (_ : Unit) => post r) (fun _ _ => True) (fun _ => False)) 0 0 (fun _ => False)
def gz_Kv (l : Launch) (y : MethodName) (wl : List Cond) (rm : Room) (D : va_G) (tys : List (ClassId × FieldType)) (ar : List Value) (w : va_W) (post : va_W → Prop) : Prop :=
  ∀ sz : Nat, Met l y wl rm (va_Pc ar (fun U => U.heap.size = sz ∧ va_P D vwCl w U.heap ∧ va_K D vwCl tys U ∧ va_D (fun _ => True) w)) (va_Qv post (fun w' t => va_P D vwCl w' t.heap ∧ va_K D vwCl tys t ∧ va_D (va_A w sz) w') (va_A w sz)) 0 0 (va_A w sz)
theorem gz_map_range : ∀ (w : va_W), (List.range w.length).map (fun i => w[i]?) = w.map some := by
  intro w
  apply List.ext_getElem?
  intro i
  rw [List.getElem?_map, List.getElem?_map]
  by_cases h : i < w.length
  · rw [List.getElem?_range h, List.getElem?_eq_getElem h]
    simp [h]
  · have h1 : (List.range w.length)[i]? = none := by rw [List.getElem?_eq_none_iff]; simp; omega
    have h2 : w[i]? = none := by rw [List.getElem?_eq_none_iff]; omega
    rw [h1, h2]; rfl
theorem gz_calli (E : gz_E z l' D' tys' cc own Ts nL' R' true) {y : MethodName} {wl wl' : List Cond} {rm : Room} {C : String} {T : u_T} {N ci index a n maxL : Nat} {fs : List Value} {bytes : ByteArray} {ret : Option FieldType} {As : List Value} {w wr : va_W} {post : Int32 → va_W → Prop} (q0 : Nat) (isC isR : List Nat) (hd : decode cc pc = .ok (.invokevirtual index, 3)) (hT : GoodIn Ts (wsV own index C y wl)) (hM : gz_Ki l' y wl rm D' tys' (.ref a :: As) w post) (hC : isC.map (fun i => ws[i]?) = w.map some) (hR : isR.map (fun i => ws[i]?) = wr.map some) (hn : va_nd isC = true ∧ va_nd isR = true) (hdis : ∀ i ∈ isR, i ∉ isC) (hw : wl = Cond.code y bytes maxL ret :: wl') (hrm : rm.cells = 0 ∧ rm.slots = 0) (hy : y.cls = C ∧ y.cls ≠ "java/lang/invoke/MethodHandle" ∧ y.cls ≠ "java/lang/invoke/VarHandle" ∧ (parseMethodDescriptor y.desc).map (fun d => d.parameters.length) = some n) (hRm : rm.frames + 1 ≤ R'.frames ∧ 8 + (maxL + 11) + rm.locals ≤ R'.locals) (he : w[q0]? = some (a, .inr (ci, fs))) (hc : vwCl[ci]? = some (C, T, N)) (hnA : As.length = n) (hst : st = As.reverse ++ .ref a :: rest) (hrest : (rest.map fun v => v.category).sum ≤ 8) (k : ∀ (r : Int32) (w1 : va_W), post r w1 → gz_G z (wr ++ w1) (pc + 3) lv (.int r :: rest)) : gz_G z ws pc lv st := by
  obtain ⟨p, l, e, R, s, m, args, below, meth, c, D, tys, A, nL, cells, slots, Q⟩ := z
  obtain ⟨hx, hb, hml, hown, hts, hK, hA, rfl, rfl, rfl, rfl, rfl, hcs, hss⟩ := E
  have hK := hK rfl
  have hA := hA rfl
  subst hst
  intro H locs ls hP hD hS h
  have hPc : va_P D vwCl w H := fun j q hj => by
    have h1 : (isC.map (fun i => ws[i]?))[j]? = some (some q) := by rw [hC, List.getElem?_map, hj]; rfl
    rw [List.getElem?_map] at h1
    cases hi : isC[j]? with
    | none => rw [hi] at h1; cases h1
    | some i => rw [hi] at h1; exact hP i q (Option.some.inj h1)
  have hDc : va_D A w := hD.sub isC hn.1 hC
  have hFc := va_free (wc := w) hD hS hA isC hC
  refine va_calli (va_runV (As := As) (rest := rest) ⟨hx, hb, hml, hown, hts⟩ (hM H.size) (cwV n hts hT hw hrm.1 hrm.2 hy hRm) ⟨fun a2 U g mk q => ?_, va_recv hK hPc hc he, fun U hU hW => ⟨rfl, by rw [hU], by rw [hU]; exact hPc, va_K.moved hW.alike hK, hDc.weaken (fun _ _ _ _ => trivial)⟩⟩ rfl hnA h.1 rfl (lv_room hrest) hd ⟨hcs, hss⟩) hS (fun q _ h => hFc q h) hFc (fun r u t H1 locs1 ht hvm hw hB hz1 hk1 hS => ?_)
  · obtain ⟨e0, e1, qP, qK, qD⟩ := q
    exact ⟨e0, e1, qP, va_K.moved (u := U) (U := U.calling g mk a2) (Vm.Alike.refl U.vm) qK, qD⟩
  · obtain ⟨hP1, hK1, hD1⟩ := hB
    rw [ht] at hP1
    obtain ⟨hP2, hD2⟩ := va_join (wr := wr) hP hD isC isR hC hR hn.2 hdis hk1 hFc hP1 hD1
    exact k r u hw H1 locs1 ls hP2 hD2 hS h
/-- the call that takes the whole world -/
theorem gz_cali (E : gz_E z l' D' tys' cc own Ts nL' R' true) {y : MethodName} {wl wl' : List Cond} {rm : Room} {C : String} {T : u_T} {N ci index a n maxL : Nat} {fs : List Value} {bytes : ByteArray} {ret : Option FieldType} {As : List Value} {post : Int32 → va_W → Prop} (q0 : Nat) (hd : decode cc pc = .ok (.invokevirtual index, 3)) (hT : GoodIn Ts (wsV own index C y wl)) (hM : gz_Ki l' y wl rm D' tys' (.ref a :: As) ws post) (hnd : va_nd (List.range ws.length) = true) (hw : wl = Cond.code y bytes maxL ret :: wl') (hrm : rm.cells = 0 ∧ rm.slots = 0) (hy : y.cls = C ∧ y.cls ≠ "java/lang/invoke/MethodHandle" ∧ y.cls ≠ "java/lang/invoke/VarHandle" ∧ (parseMethodDescriptor y.desc).map (fun d => d.parameters.length) = some n) (hRm : rm.frames + 1 ≤ R'.frames ∧ 8 + (maxL + 11) + rm.locals ≤ R'.locals) (he : ws[q0]? = some (a, .inr (ci, fs))) (hc : vwCl[ci]? = some (C, T, N)) (hnA : As.length = n) (hst : st = As.reverse ++ .ref a :: rest) (hrest : (rest.map fun v => v.category).sum ≤ 8) (k : ∀ (r : Int32) (w1 : va_W), post r w1 → gz_G z w1 (pc + 3) lv (.int r :: rest)) : gz_G z ws pc lv st :=
  gz_calli (wr := []) E q0 (List.range ws.length) [] hd hT hM (gz_map_range ws) rfl ⟨hnd, rfl⟩ (fun _ h => absurd h List.not_mem_nil) hw hrm hy hRm he hc hnA hst hrest k
theorem gz_calll (E : gz_E z l' D' tys' cc own Ts nL' R' true) {y : MethodName} {wl wl' : List Cond} {rm : Room} {C : String} {T : u_T} {N ci index a n maxL : Nat} {fs : List Value} {bytes : ByteArray} {ret : Option FieldType} {As : List Value} {w wr : va_W} {post : Int64 → va_W → Prop} (q0 : Nat) (isC isR : List Nat) (hd : decode cc pc = .ok (.invokevirtual index, 3)) (hT : GoodIn Ts (wsV own index C y wl)) (hM : gz_Kl l' y wl rm D' tys' (.ref a :: As) w post) (hC : isC.map (fun i => ws[i]?) = w.map some) (hR : isR.map (fun i => ws[i]?) = wr.map some) (hn : va_nd isC = true ∧ va_nd isR = true) (hdis : ∀ i ∈ isR, i ∉ isC) (hw : wl = Cond.code y bytes maxL ret :: wl') (hrm : rm.cells = 0 ∧ rm.slots = 0) (hy : y.cls = C ∧ y.cls ≠ "java/lang/invoke/MethodHandle" ∧ y.cls ≠ "java/lang/invoke/VarHandle" ∧ (parseMethodDescriptor y.desc).map (fun d => d.parameters.length) = some n) (hRm : rm.frames + 1 ≤ R'.frames ∧ 8 + (maxL + 11) + rm.locals ≤ R'.locals) (he : w[q0]? = some (a, .inr (ci, fs))) (hc : vwCl[ci]? = some (C, T, N)) (hnA : As.length = n) (hst : st = As.reverse ++ .ref a :: rest) (hrest : (rest.map fun v => v.category).sum ≤ 8) (k : ∀ (r : Int64) (w1 : va_W), post r w1 → gz_G z (wr ++ w1) (pc + 3) lv (.long r :: rest)) : gz_G z ws pc lv st := by
  obtain ⟨p, l, e, R, s, m, args, below, meth, c, D, tys, A, nL, cells, slots, Q⟩ := z
  obtain ⟨hx, hb, hml, hown, hts, hK, hA, rfl, rfl, rfl, rfl, rfl, hcs, hss⟩ := E
  have hK := hK rfl
  have hA := hA rfl
  subst hst
  intro H locs ls hP hD hS h
  have hPc : va_P D vwCl w H := fun j q hj => by
    have h1 : (isC.map (fun i => ws[i]?))[j]? = some (some q) := by rw [hC, List.getElem?_map, hj]; rfl
    rw [List.getElem?_map] at h1
    cases hi : isC[j]? with
    | none => rw [hi] at h1; cases h1
    | some i => rw [hi] at h1; exact hP i q (Option.some.inj h1)
  have hDc : va_D A w := hD.sub isC hn.1 hC
  have hFc := va_free (wc := w) hD hS hA isC hC
  refine va_calll (va_runV (As := As) (rest := rest) ⟨hx, hb, hml, hown, hts⟩ (hM H.size) (cwV n hts hT hw hrm.1 hrm.2 hy hRm) ⟨fun a2 U g mk q => ?_, va_recv hK hPc hc he, fun U hU hW => ⟨rfl, by rw [hU], by rw [hU]; exact hPc, va_K.moved hW.alike hK, hDc.weaken (fun _ _ _ _ => trivial)⟩⟩ rfl hnA h.1 rfl (lv_room hrest) hd ⟨hcs, hss⟩) hS (fun q _ h => hFc q h) hFc (fun r u t H1 locs1 ht hvm hw hB hz1 hk1 hS => ?_)
  · obtain ⟨e0, e1, qP, qK, qD⟩ := q
    exact ⟨e0, e1, qP, va_K.moved (u := U) (U := U.calling g mk a2) (Vm.Alike.refl U.vm) qK, qD⟩
  · obtain ⟨hP1, hK1, hD1⟩ := hB
    rw [ht] at hP1
    obtain ⟨hP2, hD2⟩ := va_join (wr := wr) hP hD isC isR hC hR hn.2 hdis hk1 hFc hP1 hD1
    exact k r u hw H1 locs1 ls hP2 hD2 hS h
/-- the call that takes the whole world -/
theorem gz_call (E : gz_E z l' D' tys' cc own Ts nL' R' true) {y : MethodName} {wl wl' : List Cond} {rm : Room} {C : String} {T : u_T} {N ci index a n maxL : Nat} {fs : List Value} {bytes : ByteArray} {ret : Option FieldType} {As : List Value} {post : Int64 → va_W → Prop} (q0 : Nat) (hd : decode cc pc = .ok (.invokevirtual index, 3)) (hT : GoodIn Ts (wsV own index C y wl)) (hM : gz_Kl l' y wl rm D' tys' (.ref a :: As) ws post) (hnd : va_nd (List.range ws.length) = true) (hw : wl = Cond.code y bytes maxL ret :: wl') (hrm : rm.cells = 0 ∧ rm.slots = 0) (hy : y.cls = C ∧ y.cls ≠ "java/lang/invoke/MethodHandle" ∧ y.cls ≠ "java/lang/invoke/VarHandle" ∧ (parseMethodDescriptor y.desc).map (fun d => d.parameters.length) = some n) (hRm : rm.frames + 1 ≤ R'.frames ∧ 8 + (maxL + 11) + rm.locals ≤ R'.locals) (he : ws[q0]? = some (a, .inr (ci, fs))) (hc : vwCl[ci]? = some (C, T, N)) (hnA : As.length = n) (hst : st = As.reverse ++ .ref a :: rest) (hrest : (rest.map fun v => v.category).sum ≤ 8) (k : ∀ (r : Int64) (w1 : va_W), post r w1 → gz_G z w1 (pc + 3) lv (.long r :: rest)) : gz_G z ws pc lv st :=
  gz_calll (wr := []) E q0 (List.range ws.length) [] hd hT hM (gz_map_range ws) rfl ⟨hnd, rfl⟩ (fun _ h => absurd h List.not_mem_nil) hw hrm hy hRm he hc hnA hst hrest k
theorem gz_calld (E : gz_E z l' D' tys' cc own Ts nL' R' true) {y : MethodName} {wl wl' : List Cond} {rm : Room} {C : String} {T : u_T} {N ci index a n maxL : Nat} {fs : List Value} {bytes : ByteArray} {ret : Option FieldType} {As : List Value} {w wr : va_W} {post : UInt64 → va_W → Prop} (q0 : Nat) (isC isR : List Nat) (hd : decode cc pc = .ok (.invokevirtual index, 3)) (hT : GoodIn Ts (wsV own index C y wl)) (hM : gz_Kd l' y wl rm D' tys' (.ref a :: As) w post) (hC : isC.map (fun i => ws[i]?) = w.map some) (hR : isR.map (fun i => ws[i]?) = wr.map some) (hn : va_nd isC = true ∧ va_nd isR = true) (hdis : ∀ i ∈ isR, i ∉ isC) (hw : wl = Cond.code y bytes maxL ret :: wl') (hrm : rm.cells = 0 ∧ rm.slots = 0) (hy : y.cls = C ∧ y.cls ≠ "java/lang/invoke/MethodHandle" ∧ y.cls ≠ "java/lang/invoke/VarHandle" ∧ (parseMethodDescriptor y.desc).map (fun d => d.parameters.length) = some n) (hRm : rm.frames + 1 ≤ R'.frames ∧ 8 + (maxL + 11) + rm.locals ≤ R'.locals) (he : w[q0]? = some (a, .inr (ci, fs))) (hc : vwCl[ci]? = some (C, T, N)) (hnA : As.length = n) (hst : st = As.reverse ++ .ref a :: rest) (hrest : (rest.map fun v => v.category).sum ≤ 8) (k : ∀ (r : UInt64) (w1 : va_W), post r w1 → gz_G z (wr ++ w1) (pc + 3) lv (.double r :: rest)) : gz_G z ws pc lv st := by
  obtain ⟨p, l, e, R, s, m, args, below, meth, c, D, tys, A, nL, cells, slots, Q⟩ := z
  obtain ⟨hx, hb, hml, hown, hts, hK, hA, rfl, rfl, rfl, rfl, rfl, hcs, hss⟩ := E
  have hK := hK rfl
  have hA := hA rfl
  subst hst
  intro H locs ls hP hD hS h
  have hPc : va_P D vwCl w H := fun j q hj => by
    have h1 : (isC.map (fun i => ws[i]?))[j]? = some (some q) := by rw [hC, List.getElem?_map, hj]; rfl
    rw [List.getElem?_map] at h1
    cases hi : isC[j]? with
    | none => rw [hi] at h1; cases h1
    | some i => rw [hi] at h1; exact hP i q (Option.some.inj h1)
  have hDc : va_D A w := hD.sub isC hn.1 hC
  have hFc := va_free (wc := w) hD hS hA isC hC
  refine va_calld (va_runV (As := As) (rest := rest) ⟨hx, hb, hml, hown, hts⟩ (hM H.size) (cwV n hts hT hw hrm.1 hrm.2 hy hRm) ⟨fun a2 U g mk q => ?_, va_recv hK hPc hc he, fun U hU hW => ⟨rfl, by rw [hU], by rw [hU]; exact hPc, va_K.moved hW.alike hK, hDc.weaken (fun _ _ _ _ => trivial)⟩⟩ rfl hnA h.1 rfl (lv_room hrest) hd ⟨hcs, hss⟩) hS (fun q _ h => hFc q h) hFc (fun r u t H1 locs1 ht hvm hw hB hz1 hk1 hS => ?_)
  · obtain ⟨e0, e1, qP, qK, qD⟩ := q
    exact ⟨e0, e1, qP, va_K.moved (u := U) (U := U.calling g mk a2) (Vm.Alike.refl U.vm) qK, qD⟩
  · obtain ⟨hP1, hK1, hD1⟩ := hB
    rw [ht] at hP1
    obtain ⟨hP2, hD2⟩ := va_join (wr := wr) hP hD isC isR hC hR hn.2 hdis hk1 hFc hP1 hD1
    exact k r u hw H1 locs1 ls hP2 hD2 hS h
/-- the call that takes the whole world -/
theorem gz_cald (E : gz_E z l' D' tys' cc own Ts nL' R' true) {y : MethodName} {wl wl' : List Cond} {rm : Room} {C : String} {T : u_T} {N ci index a n maxL : Nat} {fs : List Value} {bytes : ByteArray} {ret : Option FieldType} {As : List Value} {post : UInt64 → va_W → Prop} (q0 : Nat) (hd : decode cc pc = .ok (.invokevirtual index, 3)) (hT : GoodIn Ts (wsV own index C y wl)) (hM : gz_Kd l' y wl rm D' tys' (.ref a :: As) ws post) (hnd : va_nd (List.range ws.length) = true) (hw : wl = Cond.code y bytes maxL ret :: wl') (hrm : rm.cells = 0 ∧ rm.slots = 0) (hy : y.cls = C ∧ y.cls ≠ "java/lang/invoke/MethodHandle" ∧ y.cls ≠ "java/lang/invoke/VarHandle" ∧ (parseMethodDescriptor y.desc).map (fun d => d.parameters.length) = some n) (hRm : rm.frames + 1 ≤ R'.frames ∧ 8 + (maxL + 11) + rm.locals ≤ R'.locals) (he : ws[q0]? = some (a, .inr (ci, fs))) (hc : vwCl[ci]? = some (C, T, N)) (hnA : As.length = n) (hst : st = As.reverse ++ .ref a :: rest) (hrest : (rest.map fun v => v.category).sum ≤ 8) (k : ∀ (r : UInt64) (w1 : va_W), post r w1 → gz_G z w1 (pc + 3) lv (.double r :: rest)) : gz_G z ws pc lv st :=
  gz_calld (wr := []) E q0 (List.range ws.length) [] hd hT hM (gz_map_range ws) rfl ⟨hnd, rfl⟩ (fun _ h => absurd h List.not_mem_nil) hw hrm hy hRm he hc hnA hst hrest k
theorem gz_callv (E : gz_E z l' D' tys' cc own Ts nL' R' true) {y : MethodName} {wl wl' : List Cond} {rm : Room} {C : String} {T : u_T} {N ci index a n maxL : Nat} {fs : List Value} {bytes : ByteArray} {ret : Option FieldType} {As : List Value} {w wr : va_W} {post : va_W → Prop} (q0 : Nat) (isC isR : List Nat) (hd : decode cc pc = .ok (.invokevirtual index, 3)) (hT : GoodIn Ts (wsV own index C y wl)) (hM : gz_Kv l' y wl rm D' tys' (.ref a :: As) w post) (hC : isC.map (fun i => ws[i]?) = w.map some) (hR : isR.map (fun i => ws[i]?) = wr.map some) (hn : va_nd isC = true ∧ va_nd isR = true) (hdis : ∀ i ∈ isR, i ∉ isC) (hw : wl = Cond.code y bytes maxL ret :: wl') (hrm : rm.cells = 0 ∧ rm.slots = 0) (hy : y.cls = C ∧ y.cls ≠ "java/lang/invoke/MethodHandle" ∧ y.cls ≠ "java/lang/invoke/VarHandle" ∧ (parseMethodDescriptor y.desc).map (fun d => d.parameters.length) = some n) (hRm : rm.frames + 1 ≤ R'.frames ∧ 8 + (maxL + 11) + rm.locals ≤ R'.locals) (he : w[q0]? = some (a, .inr (ci, fs))) (hc : vwCl[ci]? = some (C, T, N)) (hnA : As.length = n) (hst : st = As.reverse ++ .ref a :: rest) (hrest : (rest.map fun v => v.category).sum ≤ 8) (k : ∀ (w1 : va_W), post w1 → gz_G z (wr ++ w1) (pc + 3) lv rest) : gz_G z ws pc lv st := by
  obtain ⟨p, l, e, R, s, m, args, below, meth, c, D, tys, A, nL, cells, slots, Q⟩ := z
  obtain ⟨hx, hb, hml, hown, hts, hK, hA, rfl, rfl, rfl, rfl, rfl, hcs, hss⟩ := E
  have hK := hK rfl
  have hA := hA rfl
  subst hst
  intro H locs ls hP hD hS h
  have hPc : va_P D vwCl w H := fun j q hj => by
    have h1 : (isC.map (fun i => ws[i]?))[j]? = some (some q) := by rw [hC, List.getElem?_map, hj]; rfl
    rw [List.getElem?_map] at h1
    cases hi : isC[j]? with
    | none => rw [hi] at h1; cases h1
    | some i => rw [hi] at h1; exact hP i q (Option.some.inj h1)
  have hDc : va_D A w := hD.sub isC hn.1 hC
  have hFc := va_free (wc := w) hD hS hA isC hC
  refine va_callv (va_runV (As := As) (rest := rest) ⟨hx, hb, hml, hown, hts⟩ (hM H.size) (cwV n hts hT hw hrm.1 hrm.2 hy hRm) ⟨fun a2 U g mk q => ?_, va_recv hK hPc hc he, fun U hU hW => ⟨rfl, by rw [hU], by rw [hU]; exact hPc, va_K.moved hW.alike hK, hDc.weaken (fun _ _ _ _ => trivial)⟩⟩ rfl hnA h.1 rfl (lv_room hrest) hd ⟨hcs, hss⟩) hS (fun q _ h => hFc q h) hFc (fun u t H1 locs1 ht hvm hw hB hz1 hk1 hS => ?_)
  · obtain ⟨e0, e1, qP, qK, qD⟩ := q
    exact ⟨e0, e1, qP, va_K.moved (u := U) (U := U.calling g mk a2) (Vm.Alike.refl U.vm) qK, qD⟩
  · obtain ⟨hP1, hK1, hD1⟩ := hB
    rw [ht] at hP1
    obtain ⟨hP2, hD2⟩ := va_join (wr := wr) hP hD isC isR hC hR hn.2 hdis hk1 hFc hP1 hD1
    exact k u hw H1 locs1 ls hP2 hD2 hS h
/-- the call that takes the whole world -/
theorem gz_calv (E : gz_E z l' D' tys' cc own Ts nL' R' true) {y : MethodName} {wl wl' : List Cond} {rm : Room} {C : String} {T : u_T} {N ci index a n maxL : Nat} {fs : List Value} {bytes : ByteArray} {ret : Option FieldType} {As : List Value} {post : va_W → Prop} (q0 : Nat) (hd : decode cc pc = .ok (.invokevirtual index, 3)) (hT : GoodIn Ts (wsV own index C y wl)) (hM : gz_Kv l' y wl rm D' tys' (.ref a :: As) ws post) (hnd : va_nd (List.range ws.length) = true) (hw : wl = Cond.code y bytes maxL ret :: wl') (hrm : rm.cells = 0 ∧ rm.slots = 0) (hy : y.cls = C ∧ y.cls ≠ "java/lang/invoke/MethodHandle" ∧ y.cls ≠ "java/lang/invoke/VarHandle" ∧ (parseMethodDescriptor y.desc).map (fun d => d.parameters.length) = some n) (hRm : rm.frames + 1 ≤ R'.frames ∧ 8 + (maxL + 11) + rm.locals ≤ R'.locals) (he : ws[q0]? = some (a, .inr (ci, fs))) (hc : vwCl[ci]? = some (C, T, N)) (hnA : As.length = n) (hst : st = As.reverse ++ .ref a :: rest) (hrest : (rest.map fun v => v.category).sum ≤ 8) (k : ∀ (w1 : va_W), post w1 → gz_G z w1 (pc + 3) lv rest) : gz_G z ws pc lv st :=
  gz_callv (wr := []) E q0 (List.range ws.length) [] hd hT hM (gz_map_range ws) rfl ⟨hnd, rfl⟩ (fun _ h => absurd h List.not_mem_nil) hw hrm hy hRm he hc hnA hst hrest k
theorem gz_stati (E : gz_E z l' D' tys' cc own Ts nL' R' kb) {y : MethodName} {wl wl' : List Cond} {rm : Room} {index n maxL : Nat} {bytes : ByteArray} {ret : Option FieldType} {As : List Value} {post : Int32 → Prop} (hd : decode cc pc = .ok (.invokestatic index, 3)) (hT : GoodIn Ts (va_wsS own index y wl)) (hM : gz_Si l' y wl rm As post) (hw : wl = Cond.code y bytes maxL ret :: wl') (hrm : rm.cells = 0 ∧ rm.slots = 0) (hy : y.cls ≠ "java/lang/invoke/MethodHandle" ∧ y.cls ≠ "java/lang/invoke/VarHandle" ∧ (parseMethodDescriptor y.desc).map (fun d => d.parameters.length) = some n) (hRm : rm.frames + 1 ≤ R'.frames ∧ 8 + (maxL + 11) + rm.locals ≤ R'.locals) (hnA : As.length = n) (hst : st = As.reverse ++ rest) (hrest : (rest.map fun v => v.category).sum ≤ 8) (k : ∀ r : Int32, post r → gz_G z ws (pc + 3) lv (.int r :: rest)) : gz_G z ws pc lv st := by
  obtain ⟨p, l, e, R, s, m, args, below, meth, c, D, tys, A, nL, cells, slots, Q⟩ := z
  obtain ⟨hx, hb, hml, hown, hts, hK, hA, rfl, rfl, rfl, rfl, rfl, hcs, hss⟩ := E
  subst hst
  intro H locs ls hP hD hS h
  refine va_calli (va_runS (As := As) (rest := rest) ⟨hx, hb, hml, hown, hts⟩ hM (va_cwS n hts hT hw hrm.1 hrm.2 hy hRm) ⟨fun a2 U g mk q => q, fun U hU hW => ⟨rfl, trivial⟩⟩ rfl hnA h.1 rfl (lv_room hrest) hd ⟨hcs, hss⟩) hS (fun q _ h => h.elim) (fun q h => h.elim) (fun r u t H1 locs1 ht hvm hw2 hB hz1 hk1 hS => ?_)
  exact k r hw2 H1 locs1 ls (hP.kept (fun j q hj => hk1 q.1 (hP j q hj).lt (fun h => h))) hD hS h
theorem gz_statl (E : gz_E z l' D' tys' cc own Ts nL' R' kb) {y : MethodName} {wl wl' : List Cond} {rm : Room} {index n maxL : Nat} {bytes : ByteArray} {ret : Option FieldType} {As : List Value} {post : Int64 → Prop} (hd : decode cc pc = .ok (.invokestatic index, 3)) (hT : GoodIn Ts (va_wsS own index y wl)) (hM : gz_Sl l' y wl rm As post) (hw : wl = Cond.code y bytes maxL ret :: wl') (hrm : rm.cells = 0 ∧ rm.slots = 0) (hy : y.cls ≠ "java/lang/invoke/MethodHandle" ∧ y.cls ≠ "java/lang/invoke/VarHandle" ∧ (parseMethodDescriptor y.desc).map (fun d => d.parameters.length) = some n) (hRm : rm.frames + 1 ≤ R'.frames ∧ 8 + (maxL + 11) + rm.locals ≤ R'.locals) (hnA : As.length = n) (hst : st = As.reverse ++ rest) (hrest : (rest.map fun v => v.category).sum ≤ 8) (k : ∀ r : Int64, post r → gz_G z ws (pc + 3) lv (.long r :: rest)) : gz_G z ws pc lv st := by
  obtain ⟨p, l, e, R, s, m, args, below, meth, c, D, tys, A, nL, cells, slots, Q⟩ := z
  obtain ⟨hx, hb, hml, hown, hts, hK, hA, rfl, rfl, rfl, rfl, rfl, hcs, hss⟩ := E
  subst hst
  intro H locs ls hP hD hS h
  refine va_calll (va_runS (As := As) (rest := rest) ⟨hx, hb, hml, hown, hts⟩ hM (va_cwS n hts hT hw hrm.1 hrm.2 hy hRm) ⟨fun a2 U g mk q => q, fun U hU hW => ⟨rfl, trivial⟩⟩ rfl hnA h.1 rfl (lv_room hrest) hd ⟨hcs, hss⟩) hS (fun q _ h => h.elim) (fun q h => h.elim) (fun r u t H1 locs1 ht hvm hw2 hB hz1 hk1 hS => ?_)
  exact k r hw2 H1 locs1 ls (hP.kept (fun j q hj => hk1 q.1 (hP j q hj).lt (fun h => h))) hD hS h
theorem gz_statd (E : gz_E z l' D' tys' cc own Ts nL' R' kb) {y : MethodName} {wl wl' : List Cond} {rm : Room} {index n maxL : Nat} {bytes : ByteArray} {ret : Option FieldType} {As : List Value} {post : UInt64 → Prop} (hd : decode cc pc = .ok (.invokestatic index, 3)) (hT : GoodIn Ts (va_wsS own index y wl)) (hM : gz_Sd l' y wl rm As post) (hw : wl = Cond.code y bytes maxL ret :: wl') (hrm : rm.cells = 0 ∧ rm.slots = 0) (hy : y.cls ≠ "java/lang/invoke/MethodHandle" ∧ y.cls ≠ "java/lang/invoke/VarHandle" ∧ (parseMethodDescriptor y.desc).map (fun d => d.parameters.length) = some n) (hRm : rm.frames + 1 ≤ R'.frames ∧ 8 + (maxL + 11) + rm.locals ≤ R'.locals) (hnA : As.length = n) (hst : st = As.reverse ++ rest) (hrest : (rest.map fun v => v.category).sum ≤ 8) (k : ∀ r : UInt64, post r → gz_G z ws (pc + 3) lv (.double r :: rest)) : gz_G z ws pc lv st := by
  obtain ⟨p, l, e, R, s, m, args, below, meth, c, D, tys, A, nL, cells, slots, Q⟩ := z
  obtain ⟨hx, hb, hml, hown, hts, hK, hA, rfl, rfl, rfl, rfl, rfl, hcs, hss⟩ := E
  subst hst
  intro H locs ls hP hD hS h
  refine va_calld (va_runS (As := As) (rest := rest) ⟨hx, hb, hml, hown, hts⟩ hM (va_cwS n hts hT hw hrm.1 hrm.2 hy hRm) ⟨fun a2 U g mk q => q, fun U hU hW => ⟨rfl, trivial⟩⟩ rfl hnA h.1 rfl (lv_room hrest) hd ⟨hcs, hss⟩) hS (fun q _ h => h.elim) (fun q h => h.elim) (fun r u t H1 locs1 ht hvm hw2 hB hz1 hk1 hS => ?_)
  exact k r hw2 H1 locs1 ls (hP.kept (fun j q hj => hk1 q.1 (hP j q hj).lt (fun h => h))) hD hS h
theorem gz_ofi {l : Launch} {y : MethodName} {wl wl' : List Cond} {rm : Room} {D : va_G} {tys : List (ClassId × FieldType)} {ar : List Value} {w : va_W} {post : Int32 → va_W → Prop} {cc : ByteArray} {maxL : Nat} {ty : FieldType} {own : String} (hy : plainName y.cls = true) (hw : wl = Cond.code y cc maxL (some ty) :: wl') (hown : y.cls = own) (hroom : (headSpec wl rm).room = rm) (har : (lg_sl ar).length ≤ maxL)
    (body : ∀ z : gz_Z, gz_E z l D tys cc own wl maxL rm true → (∀ (w1 : va_W) (pc : Nat) (lv : List (Nat × Value)) (r : Int32), decode cc pc = .ok (.ireturn, 1) → narrow ty (.int r) = .int r → post r w1 → gz_G z w1 pc lv [.int r]) → gz_G z w 0 (lv_args 0 ar) []) : gz_Ki l y wl rm D tys ar w post := by
  intro sz
  refine Met.ofW (cc := cc) (maxL := maxL) (ret := some ty) hy hw ?_
  intro p e s m args below meth c s₁ B hml hv
  obtain ⟨rfl, hsz, hP, hK, hD0⟩ := hv
  subst hsz
  have hD := hD0.self (sz := s.heap.size)
  have hlocks := B.notSynchronized
  have hE : gz_E (p, l, e, (headSpec wl rm).room, s, m, ar.toArray, below, meth, c, D, tys, va_A w s.heap.size, maxL, 0, 0, MQ below (va_Qi post (fun w' t => va_P D vwCl w' t.heap ∧ va_K D vwCl tys t ∧ va_D (va_A w s.heap.size) w') (va_A w s.heap.size)) ar.toArray s 0 0 (va_A w s.heap.size)) l D tys cc own wl maxL rm true := by
    refine ⟨B.exec, B.bytes, hml, ?_, atoms_spec (ws := wl) B.pre, fun _ => hK, fun _ q h => Or.inr h, rfl, rfl, rfl, rfl, hroom, Nat.zero_le _, Nat.zero_le _⟩
    rw [← hown]
    exact findClass_of_methodNamed B.named
  have K := body _ hE ?_
  · have hl := lv_entry ar (n := maxL) har
    rw [lg_entry_eq]
    exact K s.heap [] _ hP hD va_S.rf hl
  · intro w1 pc lv r hd hn hp H locs ls hP hD hS h
    exact W.zret (v := r) B.exec B.bytes B.returns hn (fun t ht hW => ⟨⟨r, w1, rfl, hp, by rw [ht]; exact hP, va_K.moved hW.alike hK, hD⟩, hS.F ht⟩) hS.2.2 hd
theorem gz_ofl {l : Launch} {y : MethodName} {wl wl' : List Cond} {rm : Room} {D : va_G} {tys : List (ClassId × FieldType)} {ar : List Value} {w : va_W} {post : Int64 → va_W → Prop} {cc : ByteArray} {maxL : Nat}  {own : String} (hy : plainName y.cls = true) (hw : wl = Cond.code y cc maxL (some .long) :: wl') (hown : y.cls = own) (hroom : (headSpec wl rm).room = rm) (har : (lg_sl ar).length ≤ maxL)
    (body : ∀ z : gz_Z, gz_E z l D tys cc own wl maxL rm true → (∀ (w1 : va_W) (pc : Nat) (lv : List (Nat × Value)) (r : Int64), decode cc pc = .ok (.lreturn, 1) → post r w1 → gz_G z w1 pc lv [.long r]) → gz_G z w 0 (lv_args 0 ar) []) : gz_Kl l y wl rm D tys ar w post := by
  intro sz
  refine Met.ofW (cc := cc) (maxL := maxL) (ret := some .long) hy hw ?_
  intro p e s m args below meth c s₁ B hml hv
  obtain ⟨rfl, hsz, hP, hK, hD0⟩ := hv
  subst hsz
  have hD := hD0.self (sz := s.heap.size)
  have hlocks := B.notSynchronized
  have hE : gz_E (p, l, e, (headSpec wl rm).room, s, m, ar.toArray, below, meth, c, D, tys, va_A w s.heap.size, maxL, 0, 0, MQ below (va_Ql post (fun w' t => va_P D vwCl w' t.heap ∧ va_K D vwCl tys t ∧ va_D (va_A w s.heap.size) w') (va_A w s.heap.size)) ar.toArray s 0 0 (va_A w s.heap.size)) l D tys cc own wl maxL rm true := by
    refine ⟨B.exec, B.bytes, hml, ?_, atoms_spec (ws := wl) B.pre, fun _ => hK, fun _ q h => Or.inr h, rfl, rfl, rfl, rfl, hroom, Nat.zero_le _, Nat.zero_le _⟩
    rw [← hown]
    exact findClass_of_methodNamed B.named
  have K := body _ hE ?_
  · have hl := lv_entry ar (n := maxL) har
    rw [lg_entry_eq]
    exact K s.heap [] _ hP hD va_S.rf hl
  · intro w1 pc lv r hd hp H locs ls hP hD hS h
    exact W.lret (v := r) B.exec B.bytes B.returns (fun t ht hW => ⟨⟨r, w1, rfl, hp, by rw [ht]; exact hP, va_K.moved hW.alike hK, hD⟩, hS.F ht⟩) hS.2.2 hd
theorem gz_ofv {l : Launch} {y : MethodName} {wl wl' : List Cond} {rm : Room} {D : va_G} {tys : List (ClassId × FieldType)} {ar : List Value} {w : va_W} {post : va_W → Prop} {cc : ByteArray} {maxL : Nat}  {own : String} (hy : plainName y.cls = true) (hw : wl = Cond.code y cc maxL (none) :: wl') (hown : y.cls = own) (hroom : (headSpec wl rm).room = rm) (har : (lg_sl ar).length ≤ maxL)
    (body : ∀ z : gz_Z, gz_E z l D tys cc own wl maxL rm true → (∀ (w1 : va_W) (pc : Nat) (lv : List (Nat × Value)), decode cc pc = .ok (.return_, 1) → post w1 → gz_G z w1 pc lv []) → gz_G z w 0 (lv_args 0 ar) []) : gz_Kv l y wl rm D tys ar w post := by
  intro sz
  refine Met.ofW (cc := cc) (maxL := maxL) (ret := none) hy hw ?_
  intro p e s m args below meth c s₁ B hml hv
  obtain ⟨rfl, hsz, hP, hK, hD0⟩ := hv
  subst hsz
  have hD := hD0.self (sz := s.heap.size)
  have hlocks := B.notSynchronized
  have hE : gz_E (p, l, e, (headSpec wl rm).room, s, m, ar.toArray, below, meth, c, D, tys, va_A w s.heap.size, maxL, 0, 0, MQ below (va_Qv post (fun w' t => va_P D vwCl w' t.heap ∧ va_K D vwCl tys t ∧ va_D (va_A w s.heap.size) w') (va_A w s.heap.size)) ar.toArray s 0 0 (va_A w s.heap.size)) l D tys cc own wl maxL rm true := by
    refine ⟨B.exec, B.bytes, hml, ?_, atoms_spec (ws := wl) B.pre, fun _ => hK, fun _ q h => Or.inr h, rfl, rfl, rfl, rfl, hroom, Nat.zero_le _, Nat.zero_le _⟩
    rw [← hown]
    exact findClass_of_methodNamed B.named
  have K := body _ hE ?_
  · have hl := lv_entry ar (n := maxL) har
    rw [lg_entry_eq]
    exact K s.heap [] _ hP hD va_S.rf hl
  · intro w1 pc lv hd hp H locs ls hP hD hS h
    exact W.vret B.exec B.bytes B.returns (fun t ht hW => ⟨⟨w1, rfl, hp, by rw [ht]; exact hP, va_K.moved hW.alike hK, hD⟩, hS.F ht⟩) hS.2.2 hd
theorem gz_sofi {l : Launch} {y : MethodName} {wl wl' : List Cond} {rm : Room} {ar : List Value} {post : Int32 → Prop} {cc : ByteArray} {maxL : Nat} {ty : FieldType} {own : String} (hy : plainName y.cls = true) (hw : wl = Cond.code y cc maxL (some ty) :: wl') (hown : y.cls = own) (hroom : (headSpec wl rm).room = rm) (har : (lg_sl ar).length ≤ maxL)
    (body : ∀ (z : gz_Z) (D : va_G), gz_E z l D [] cc own wl maxL rm false → (∀ (w1 : va_W) (pc : Nat) (lv : List (Nat × Value)) (r : Int32), decode cc pc = .ok (.ireturn, 1) → narrow ty (.int r) = .int r → post r → gz_G z w1 pc lv [.int r]) → gz_G z [] 0 (lv_args 0 ar) []) : gz_Si l y wl rm ar post := by
  refine Met.ofW (cc := cc) (maxL := maxL) (ret := some ty) hy hw ?_
  intro p e s m args below meth c s₁ B hml hv
  obtain ⟨rfl, -⟩ := hv
  have hlocks := B.notSynchronized
  have hE : gz_E (p, l, e, (headSpec wl rm).room, s, m, ar.toArray, below, meth, c, (fun _ => m.cls, fun _ _ => 0), [], (fun _ => False), maxL, 0, 0, MQ below (va_Qi (fun r (_ : Unit) => post r) (fun _ _ => True) (fun _ => False)) ar.toArray s 0 0 (fun _ => False)) l (fun _ => m.cls, fun _ _ => 0) [] cc own wl maxL rm false := by
    refine ⟨B.exec, B.bytes, hml, ?_, atoms_spec (ws := wl) B.pre, fun h => absurd h (by decide), fun h => absurd h (by decide), rfl, rfl, rfl, rfl, hroom, Nat.zero_le _, Nat.zero_le _⟩
    rw [← hown]
    exact findClass_of_methodNamed B.named
  have K := body _ _ hE ?_
  · have hl := lv_entry ar (n := maxL) har
    rw [lg_entry_eq]
    exact K s.heap [] _ (fun k q h => by simp at h) ⟨fun i j p q h => by simp at h, fun k q h => by simp at h⟩ va_S.rf hl
  · intro w1 pc lv r hd hn hp H locs ls hP hD hS h
    exact W.zret (v := r) B.exec B.bytes B.returns hn (fun t ht hW => ⟨⟨r, (), rfl, hp, trivial⟩, hS.F ht⟩) hS.2.2 hd
theorem gz_sofl {l : Launch} {y : MethodName} {wl wl' : List Cond} {rm : Room} {ar : List Value} {post : Int64 → Prop} {cc : ByteArray} {maxL : Nat}  {own : String} (hy : plainName y.cls = true) (hw : wl = Cond.code y cc maxL (some .long) :: wl') (hown : y.cls = own) (hroom : (headSpec wl rm).room = rm) (har : (lg_sl ar).length ≤ maxL)
    (body : ∀ (z : gz_Z) (D : va_G), gz_E z l D [] cc own wl maxL rm false → (∀ (w1 : va_W) (pc : Nat) (lv : List (Nat × Value)) (r : Int64), decode cc pc = .ok (.lreturn, 1) → post r → gz_G z w1 pc lv [.long r]) → gz_G z [] 0 (lv_args 0 ar) []) : gz_Sl l y wl rm ar post := by
  refine Met.ofW (cc := cc) (maxL := maxL) (ret := some .long) hy hw ?_
  intro p e s m args below meth c s₁ B hml hv
  obtain ⟨rfl, -⟩ := hv
  have hlocks := B.notSynchronized
  have hE : gz_E (p, l, e, (headSpec wl rm).room, s, m, ar.toArray, below, meth, c, (fun _ => m.cls, fun _ _ => 0), [], (fun _ => False), maxL, 0, 0, MQ below (va_Ql (fun r (_ : Unit) => post r) (fun _ _ => True) (fun _ => False)) ar.toArray s 0 0 (fun _ => False)) l (fun _ => m.cls, fun _ _ => 0) [] cc own wl maxL rm false := by
    refine ⟨B.exec, B.bytes, hml, ?_, atoms_spec (ws := wl) B.pre, fun h => absurd h (by decide), fun h => absurd h (by decide), rfl, rfl, rfl, rfl, hroom, Nat.zero_le _, Nat.zero_le _⟩
    rw [← hown]
    exact findClass_of_methodNamed B.named
  have K := body _ _ hE ?_
  · have hl := lv_entry ar (n := maxL) har
    rw [lg_entry_eq]
    exact K s.heap [] _ (fun k q h => by simp at h) ⟨fun i j p q h => by simp at h, fun k q h => by simp at h⟩ va_S.rf hl
  · intro w1 pc lv r hd hp H locs ls hP hD hS h
    exact W.lret (v := r) B.exec B.bytes B.returns (fun t ht hW => ⟨⟨r, (), rfl, hp, trivial⟩, hS.F ht⟩) hS.2.2 hd
end GZ
end
section
/-! plane geometry over Int, by site numbers: X Y the coordinates -/
section PG
/-- above 0 where a, b, c turn left -/
def pg_tn (X Y : Nat → Int) (a b c : Nat) : Int := (X b - X a) * (Y c - Y a) - (Y b - Y a) * (X c - X a)
/-- the square of a distance -/
def pg_gp (X Y : Nat → Int) (a b : Nat) : Int := (X b - X a) * (X b - X a) + (Y b - Y a) * (Y b - Y a)
def pg_dt (X Y : Nat → Int) (m a b : Nat) : Int := (X a - X m) * (X b - X m) + (Y a - Y m) * (Y b - Y m)
/-- above 0 where d is inside of the circle of a, b, c and these turn left -/
def pg_ic (X Y : Nat → Int) (a b c d : Nat) : Int := pg_gp X Y d a * pg_tn X Y d b c + pg_gp X Y d b * pg_tn X Y d c a + pg_gp X Y d c * pg_tn X Y d a b
def pg_I (wx wy ux uy x y : Int) : Int := (x * x + y * y) * (wx * uy - wy * ux) + (wx * wx + wy * wy) * (ux * y - uy * x) + (ux * ux + uy * uy) * (x * wy - y * wx)
variable {X Y : Nat → Int} {n : Nat}
theorem pg_tn_rot (a b c : Nat) : pg_tn X Y b c a = pg_tn X Y a b c := by unfold pg_tn; grind
theorem pg_tn_s12 (a b c : Nat) : pg_tn X Y b a c = - pg_tn X Y a b c := by unfold pg_tn; grind
theorem pg_tn_s23 (a b c : Nat) : pg_tn X Y a c b = - pg_tn X Y a b c := by unfold pg_tn; grind
theorem pg_tn_s13 (a b c : Nat) : pg_tn X Y c b a = - pg_tn X Y a b c := by unfold pg_tn; grind
theorem pg_tn_aab (a b : Nat) : pg_tn X Y a a b = 0 := by unfold pg_tn; grind
theorem pg_tn_aba (a b : Nat) : pg_tn X Y a b a = 0 := by unfold pg_tn; grind
theorem pg_tn_abb (a b : Nat) : pg_tn X Y a b b = 0 := by unfold pg_tn; grind
theorem pg_ic_rot (a b c d : Nat) : pg_ic X Y b c a d = pg_ic X Y a b c d := by unfold pg_ic; grind
theorem pg_ic_s23 (a b c d : Nat) : pg_ic X Y a c b d = - pg_ic X Y a b c d := by unfold pg_ic pg_gp pg_tn; grind
theorem pg_ic_last (a b c d : Nat) : pg_ic X Y a b d c = - pg_ic X Y a b c d := by unfold pg_ic pg_gp pg_tn; grind
theorem pg_ic_a (a b c : Nat) : pg_ic X Y a b c a = 0 := by unfold pg_ic pg_gp pg_tn; grind
theorem pg_ic_b (a b c : Nat) : pg_ic X Y a b c b = 0 := by unfold pg_ic pg_gp pg_tn; grind
theorem pg_ic_c (a b c : Nat) : pg_ic X Y a b c c = 0 := by unfold pg_ic pg_gp pg_tn; grind
theorem pg_ic_I (p w u x : Nat) : pg_ic X Y p w u x = - pg_I (X w - X p) (Y w - Y p) (X u - X p) (Y u - Y p) (X x - X p) (Y x - Y p) := by unfold pg_ic pg_gp pg_tn pg_I; grind
theorem pg_sumI (A B wx wy ux uy vx vy tx ty : Int) : (A * wx + B * wy) * pg_I vx vy tx ty ux uy - (A * ux + B * uy) * pg_I vx vy tx ty wx wy + (A * vx + B * vy) * pg_I wx wy ux uy tx ty - (A * tx + B * ty) * pg_I wx wy ux uy vx vy = 0 := by unfold pg_I; grind
theorem pg_E (wx wy ux uy vx vy : Int) : ((wx * vy - wy * vx) * (ux * ux + uy * uy) + (vx * uy - vy * ux) * (wx * wx + wy * wy)) * ((wx * uy - wy * ux) - (wx * vy - wy * vx) - (vx * uy - vy * ux)) + (wx * vy - wy * vx) * (vx * uy - vy * ux) * ((ux - wx) * (ux - wx) + (uy - wy) * (uy - wy)) = - ((wx * uy - wy * ux) * pg_I wx wy ux uy vx vy) := by unfold pg_I; grind
theorem pg_sq (x : Int) : 0 ≤ x * x := by
  rcases Int.le_total 0 x with h | h
  · exact Int.mul_nonneg h h
  · have := Int.mul_nonneg (a := -x) (b := -x) (by omega) (by omega)
    rw [Int.neg_mul_neg] at this
    exact this
theorem pg_sq0 {x y : Int} (h : x * x + y * y = 0) : x = 0 ∧ y = 0 := by
  have h1 := pg_sq x
  have h2 := pg_sq y
  have h3 : x * x = 0 := by omega
  have h4 : y * y = 0 := by omega
  exact ⟨by rcases Int.mul_eq_zero.mp h3 with h | h <;> exact h, by rcases Int.mul_eq_zero.mp h4 with h | h <;> exact h⟩
theorem pg_sqn (x y : Int) : 0 ≤ x * x + y * y := Int.add_nonneg (pg_sq x) (pg_sq y)
theorem pg_sqp {x y : Int} (h : ¬ (x = 0 ∧ y = 0)) : 0 < x * x + y * y := by
  have h1 := pg_sqn x y
  rcases Int.lt_or_eq_of_le h1 with q | q
  · exact q
  · exact absurd (pg_sq0 q.symm) h
/-- a point on the circle of 0, w, u within the angle lies beyond the side w u -/
theorem pg_cone {wx wy ux uy vx vy : Int} (hb : 0 < wx * vy - wy * vx) (hg : 0 < vx * uy - vy * ux) (hI : pg_I wx wy ux uy vx vy = 0) : wx * uy - wy * ux < (wx * vy - wy * vx) + (vx * uy - vy * ux) := by
  rcases Int.lt_or_le (wx * uy - wy * ux) ((wx * vy - wy * vx) + (vx * uy - vy * ux)) with h | h
  · exact h
  exfalso
  have e := pg_E wx wy ux uy vx vy
  rw [hI, Int.mul_zero, Int.neg_zero] at e
  have h1 : 0 ≤ (wx * vy - wy * vx) * (ux * ux + uy * uy) + (vx * uy - vy * ux) * (wx * wx + wy * wy) := Int.add_nonneg (Int.mul_nonneg (Int.le_of_lt hb) (pg_sqn _ _)) (Int.mul_nonneg (Int.le_of_lt hg) (pg_sqn _ _))
  have h2 := Int.mul_nonneg h1 (show 0 ≤ (wx * uy - wy * ux) - (wx * vy - wy * vx) - (vx * uy - vy * ux) by omega)
  have h3 : 0 < (wx * vy - wy * vx) * (vx * uy - vy * ux) * ((ux - wx) * (ux - wx) + (uy - wy) * (uy - wy)) := by
    refine Int.mul_pos (Int.mul_pos hb hg) (pg_sqp fun q => ?_)
    have q1 : ux = wx := by omega
    have q2 : uy = wy := by omega
    have q3 : wx * uy - wy * ux = 0 := by rw [q1, q2]; grind
    omega
  omega
/-- a point on the circle of 0, w, u in line with 0 and u is u -/
theorem pg_col {wx wy ux uy vx vy : Int} (hD : 0 < wx * uy - wy * ux) (hg : vx * uy - vy * ux = 0) (hv : ¬ (vx = 0 ∧ vy = 0)) (hI : pg_I wx wy ux uy vx vy = 0) : vx = ux ∧ vy = uy := by
  have e := pg_E wx wy ux uy vx vy
  rw [hI, hg] at e
  have e1 : (wx * uy - wy * ux) * vx = (wx * vy - wy * vx) * ux := by
    have : (wx * uy - wy * ux) * vx - (wx * vy - wy * vx) * ux = wx * (vx * uy - vy * ux) := by grind
    rw [hg] at this; omega
  have e2 : (wx * uy - wy * ux) * vy = (wx * vy - wy * vx) * uy := by
    have : (wx * uy - wy * ux) * vy - (wx * vy - wy * vx) * uy = wy * (vx * uy - vy * ux) := by grind
    rw [hg] at this; omega
  have e3 : ((wx * vy - wy * vx) * (ux * ux + uy * uy)) * ((wx * uy - wy * ux) - (wx * vy - wy * vx)) = 0 := by grind
  have hb : wx * vy - wy * vx ≠ 0 := by
    intro q
    rw [q, Int.zero_mul] at e1 e2
    refine hv ⟨?_, ?_⟩
    · rcases Int.mul_eq_zero.mp e1 with h | h
      · omega
      · exact h
    · rcases Int.mul_eq_zero.mp e2 with h | h
      · omega
      · exact h
  rcases Int.mul_eq_zero.mp e3 with h | h
  · rcases Int.mul_eq_zero.mp h with h | h
    · exact absurd h hb
    · obtain ⟨q1, q2⟩ := pg_sq0 h
      rw [q1, q2] at hD
      omega
  · have q : wx * vy - wy * vx = wx * uy - wy * ux := by omega
    rw [q] at e1 e2
    have hne : wx * uy - wy * ux ≠ 0 := by omega
    exact ⟨Int.eq_of_mul_eq_mul_left hne e1, Int.eq_of_mul_eq_mul_left hne e2⟩
theorem pg_plu (A B wx wy ux uy vx vy : Int) : (wx * vy - wy * vx) * (-(A * ux + B * uy)) = (A * wx + B * wy) * (vx * uy - vy * ux) + (wx * uy - wy * ux) * (-(A * vx + B * vy)) := by grind
theorem pg_pos_of_mul {a b : Int} (h : 0 < a * b) (hb : 0 < b) : 0 < a := by
  rcases Int.lt_or_le 0 a with q | q
  · exact q
  · exact absurd (Int.mul_nonpos_of_nonpos_of_nonneg q (Int.le_of_lt hb)) (by omega)
theorem pg_nn_of_mul {a b : Int} (h : 0 ≤ a * b) (hb : 0 < b) : 0 ≤ a := by
  rcases Int.lt_or_le a 0 with q | q
  · have := Int.mul_pos (a := -a) (b := b) (by omega) hb
    rw [Int.neg_mul] at this
    omega
  · exact q
theorem pg_z_of_mul {a b : Int} (h : a * b = 0) (hb : 0 < b) : a = 0 := by
  rcases Int.mul_eq_zero.mp h with h | h
  · exact h
  · omega
end PG
end
section
/-! triangles of empty circles: apart, and how many -/
section PH
variable {X Y : Nat → Int} {n : Nat}
/-- the least of p, q, r is the least site on their circle, and x is on its side of the two others -/
def pg_FAN (X Y : Nat → Int) (p q r x : Nat) : Prop := (p < q → p < r → p < x ∧ 0 < pg_tn X Y q r x) ∧ (q < p → q < r → q < x ∧ 0 < pg_tn X Y r p x) ∧ (r < p → r < q → r < x ∧ 0 < pg_tn X Y p q x)
/-- p, q, r turn left and are a triangle that is due -/
def pg_DT (n : Nat) (X Y : Nat → Int) (p q r : Nat) : Prop := p < n ∧ q < n ∧ r < n ∧ 0 < pg_tn X Y p q r ∧ ∀ x, x < n → x ≠ p → x ≠ q → x ≠ r → pg_ic X Y p q r x < 0 ∨ (pg_ic X Y p q r x = 0 ∧ pg_FAN X Y p q r x)
theorem pg_ne {p q r : Nat} (h : pg_tn X Y p q r ≠ 0) : p ≠ q ∧ q ≠ r ∧ p ≠ r :=
  ⟨fun e => h (by rw [e]; exact pg_tn_aab _ _), fun e => h (by rw [e]; exact pg_tn_abb _ _), fun e => h (by rw [e]; exact pg_tn_aba _ _)⟩
theorem pg_DT_ne {p q r : Nat} (h : pg_DT n X Y p q r) : p ≠ q ∧ q ≠ r ∧ p ≠ r := pg_ne (X := X) (Y := Y) (by have := h.2.2.2.1; omega)
theorem pg_DT_rot {p q r : Nat} (h : pg_DT n X Y p q r) : pg_DT n X Y q r p := by
  obtain ⟨hp, hq, hr, ht, hx⟩ := h
  refine ⟨hq, hr, hp, by rw [pg_tn_rot]; exact ht, fun x h1 h2 h3 h4 => ?_⟩
  rw [pg_ic_rot]
  rcases hx x h1 h4 h2 h3 with h | ⟨h, f1, f2, f3⟩
  · exact Or.inl h
  · exact Or.inr ⟨h, fun a b => f2 b a, fun a b => f3 b a, fun a b => f1 a b⟩
theorem pg_DT_np {p q r x : Nat} (h : pg_DT n X Y p q r) (hx : x < n) : pg_ic X Y p q r x ≤ 0 := by
  by_cases h1 : x = p
  · rw [h1, pg_ic_a]; exact Int.le_refl 0
  by_cases h2 : x = q
  · rw [h2, pg_ic_b]; exact Int.le_refl 0
  by_cases h3 : x = r
  · rw [h3, pg_ic_c]; exact Int.le_refl 0
  rcases h.2.2.2.2 x hx h1 h2 h3 with q | ⟨q, -⟩ <;> omega
/-- on one side of p, q there is at most one -/
theorem pg_A {p q r r' : Nat} (h1 : pg_DT n X Y p q r) (h2 : pg_DT n X Y p q r') : r = r' := by
  apply Classical.byContradiction
  intro hne
  obtain ⟨a1, a2, a3⟩ := pg_DT_ne h1
  obtain ⟨b1, b2, b3⟩ := pg_DT_ne h2
  have e := pg_ic_last (X := X) (Y := Y) p q r r'
  have c1 := h1.2.2.2.2 r' h2.2.2.1 (by omega) (by omega) (by omega)
  have c2 := h2.2.2.2.2 r h1.2.2.1 (by omega) (by omega) (by omega)
  rcases c1 with c1 | ⟨c1, f1⟩
  · rcases c2 with c2 | ⟨c2, -⟩ <;> omega
  rcases c2 with c2 | ⟨c2, f2⟩
  · omega
  have t1 := pg_tn_s23 (X := X) (Y := Y) q r r'
  have t2 := pg_tn_s13 (X := X) (Y := Y) r p r'
  by_cases d1 : p < q ∧ p < r
  · obtain ⟨g1, g2⟩ := f1.1 d1.1 d1.2
    obtain ⟨g3, g4⟩ := f2.1 d1.1 g1
    omega
  by_cases d2 : q < p ∧ q < r
  · obtain ⟨g1, g2⟩ := f1.2.1 d2.1 d2.2
    obtain ⟨g3, g4⟩ := f2.2.1 d2.1 g1
    omega
  have d3 : r < p ∧ r < q := by omega
  obtain ⟨g1, g2⟩ := f1.2.2 d3.1 d3.2
  by_cases k1 : p < q ∧ p < r'
  · have := (f2.1 k1.1 k1.2).1; omega
  by_cases k2 : q < p ∧ q < r'
  · have := (f2.2.1 k2.1 k2.2).1; omega
  have := (f2.2.2 (by omega) (by omega)).1
  omega
theorem pg_notcone {A B : Int} {p w u v : Nat} (h : pg_DT n X Y p w u) (hpw : p < w) (hpu : p < u) (hv : v < n) (hvp : v ≠ p) (hvw : v ≠ w) (hvu : v ≠ u) (hic : pg_ic X Y p w u v = 0) (Lw : 0 < A * (X w - X p) + B * (Y w - Y p)) (Lu : A * (X u - X p) + B * (Y u - Y p) < 0) (Lv : A * (X v - X p) + B * (Y v - Y p) < 0) : ¬ 0 < (X v - X p) * (Y u - Y p) - (Y v - Y p) * (X u - X p) := by
  intro hg
  rcases h.2.2.2.2 v hv hvp hvw hvu with q | ⟨-, f⟩
  · omega
  have f1 := (f.1 hpw hpu).2
  have hD : 0 < (X w - X p) * (Y u - Y p) - (Y w - Y p) * (X u - X p) := h.2.2.2.1
  have hb : 0 < (X w - X p) * (Y v - Y p) - (Y w - Y p) * (X v - X p) := by
    refine pg_pos_of_mul (b := -(A * (X u - X p) + B * (Y u - Y p))) ?_ (by omega)
    rw [pg_plu]
    have h1 := Int.mul_pos Lw hg
    have h2 := Int.mul_pos hD (show 0 < -(A * (X v - X p) + B * (Y v - Y p)) by omega)
    omega
  have hI : pg_I (X w - X p) (Y w - Y p) (X u - X p) (Y u - Y p) (X v - X p) (Y v - Y p) = 0 := by
    have := pg_ic_I (X := X) (Y := Y) p w u v
    omega
  have c := pg_cone hb hg hI
  have e : pg_tn X Y w u v = ((X w - X p) * (Y u - Y p) - (Y w - Y p) * (X u - X p)) - ((X w - X p) * (Y v - Y p) - (Y w - Y p) * (X v - X p)) - ((X v - X p) * (Y u - Y p) - (Y v - Y p) * (X u - X p)) := by unfold pg_tn; grind
  omega
/-- two that lie on the same side of p, crossing the same line, are one -/
theorem pg_B {A B : Int} (inj : ∀ i j, i < n → j < n → X i = X j → Y i = Y j → i = j) {p w u w' u' : Nat} (h1 : pg_DT n X Y p w u) (h2 : pg_DT n X Y p w' u') (Lw : 0 < A * (X w - X p) + B * (Y w - Y p)) (Lu : A * (X u - X p) + B * (Y u - Y p) < 0) (Lw' : 0 < A * (X w' - X p) + B * (Y w' - Y p)) (Lu' : A * (X u' - X p) + B * (Y u' - Y p) < 0) : w = w' ∧ u = u' := by
  have main : u = u' → w = w' := fun e => by
    subst e
    exact pg_A (pg_DT_rot (pg_DT_rot h1)) (pg_DT_rot (pg_DT_rot h2))
  by_cases hu : u = u'
  · exact ⟨main hu, hu⟩
  by_cases hw : w = w'
  · subst hw
    exact ⟨rfl, pg_A h1 h2⟩
  exfalso
  obtain ⟨a1, a2, a3⟩ := pg_DT_ne h1
  obtain ⟨b1, b2, b3⟩ := pg_DT_ne h2
  have n1 : u ≠ w' := fun e => by rw [e] at Lu; omega
  have n2 : u' ≠ w := fun e => by rw [e] at Lu'; omega
  have lp := h1.1
  have lw := h1.2.1
  have lu := h1.2.2.1
  have lw' := h2.2.1
  have lu' := h2.2.2.1
  have ics : pg_ic X Y p w' u' u = 0 ∧ pg_ic X Y p w' u' w = 0 ∧ pg_ic X Y p w u u' = 0 ∧ pg_ic X Y p w u w' = 0 := by
    have k := pg_sumI A B (X w - X p) (Y w - Y p) (X u - X p) (Y u - Y p) (X w' - X p) (Y w' - Y p) (X u' - X p) (Y u' - Y p)
    have e1 := pg_ic_I (X := X) (Y := Y) p w' u' u
    have e2 := pg_ic_I (X := X) (Y := Y) p w' u' w
    have e3 := pg_ic_I (X := X) (Y := Y) p w u u'
    have e4 := pg_ic_I (X := X) (Y := Y) p w u w'
    have i1 := pg_DT_np h2 lu
    have i2 := pg_DT_np h2 lw
    have i3 := pg_DT_np h1 lu'
    have i4 := pg_DT_np h1 lw'
    generalize pg_I (X w' - X p) (Y w' - Y p) (X u' - X p) (Y u' - Y p) (X u - X p) (Y u - Y p) = j1 at *
    generalize pg_I (X w' - X p) (Y w' - Y p) (X u' - X p) (Y u' - Y p) (X w - X p) (Y w - Y p) = j2 at *
    generalize pg_I (X w - X p) (Y w - Y p) (X u - X p) (Y u - Y p) (X u' - X p) (Y u' - Y p) = j3 at *
    generalize pg_I (X w - X p) (Y w - Y p) (X u - X p) (Y u - Y p) (X w' - X p) (Y w' - Y p) = j4 at *
    generalize A * (X w - X p) + B * (Y w - Y p) = g1 at *
    generalize A * (X u - X p) + B * (Y u - Y p) = g2 at *
    generalize A * (X w' - X p) + B * (Y w' - Y p) = g3 at *
    generalize A * (X u' - X p) + B * (Y u' - Y p) = g4 at *
    have m1 := Int.mul_nonneg (Int.le_of_lt Lw) (show 0 ≤ j1 by omega)
    have m2 := Int.mul_nonneg (show 0 ≤ -g2 by omega) (show 0 ≤ j2 by omega)
    have m3 := Int.mul_nonneg (Int.le_of_lt Lw') (show 0 ≤ j3 by omega)
    have m4 := Int.mul_nonneg (show 0 ≤ -g4 by omega) (show 0 ≤ j4 by omega)
    rw [Int.neg_mul] at m2 m4
    have z1 : g1 * j1 = 0 := by omega
    have z2 : g2 * j2 = 0 := by omega
    have z3 : g3 * j3 = 0 := by omega
    have z4 : g4 * j4 = 0 := by omega
    refine ⟨?_, ?_, ?_, ?_⟩
    · rcases Int.mul_eq_zero.mp z1 with q | q <;> omega
    · rcases Int.mul_eq_zero.mp z2 with q | q <;> omega
    · rcases Int.mul_eq_zero.mp z3 with q | q <;> omega
    · rcases Int.mul_eq_zero.mp z4 with q | q <;> omega
  obtain ⟨c1, c2, c3, c4⟩ := ics
  have np1 : u' ≠ p := fun e => b3 e.symm
  have np2 : w' ≠ p := fun e => b1 e.symm
  have np3 : u ≠ p := fun e => a3 e.symm
  have np4 : w ≠ p := fun e => a1 e.symm
  have F1u : pg_FAN X Y p w u u' := by
    rcases h1.2.2.2.2 u' lu' np1 n2 (fun e => hu e.symm) with q | ⟨-, f⟩
    · omega
    · exact f
  have F1w : pg_FAN X Y p w u w' := by
    rcases h1.2.2.2.2 w' lw' np2 (fun e => hw e.symm) (fun e => n1 e.symm) with q | ⟨-, f⟩
    · omega
    · exact f
  have F2u : pg_FAN X Y p w' u' u := by
    rcases h2.2.2.2.2 u lu np3 n1 hu with q | ⟨-, f⟩
    · omega
    · exact f
  have F2w : pg_FAN X Y p w' u' w := by
    rcases h2.2.2.2.2 w lw np4 hw (fun e => n2 e.symm) with q | ⟨-, f⟩
    · omega
    · exact f
  by_cases d1 : p < w ∧ p < u
  · have g1 := (F1u.1 d1.1 d1.2).1
    have g2 := (F1w.1 d1.1 d1.2).1
    have k1 := pg_notcone h1 d1.1 d1.2 lu' np1 n2 (fun e => hu e.symm) c3 Lw Lu Lu'
    have k2 := pg_notcone h2 g2 g1 lu np3 n1 hu c1 Lw' Lu' Lu
    have sw : (X u - X p) * (Y u' - Y p) - (Y u - Y p) * (X u' - X p) = -((X u' - X p) * (Y u - Y p) - (Y u' - Y p) * (X u - X p)) := by grind
    have hI : pg_I (X w - X p) (Y w - Y p) (X u - X p) (Y u - Y p) (X u' - X p) (Y u' - Y p) = 0 := by
      have := pg_ic_I (X := X) (Y := Y) p w u u'
      omega
    have hv : ¬ (X u' - X p = 0 ∧ Y u' - Y p = 0) := fun q => by
      rw [q.1, q.2] at Lu'
      omega
    have r := pg_col h1.2.2.2.1 (by omega) hv hI
    exact hu (inj u u' lu lu' (by omega) (by omega))
  by_cases d2 : w < p ∧ w < u
  · have g1 := (F1u.2.1 d2.1 d2.2).1
    have g2 := (F1w.2.1 d2.1 d2.2).1
    by_cases k1 : p < w' ∧ p < u'
    · have := (F2w.1 k1.1 k1.2).1; omega
    by_cases k2 : w' < p ∧ w' < u'
    · have := (F2w.2.1 k2.1 k2.2).1; omega
    have := (F2w.2.2 (by omega) (by omega)).1
    omega
  have d3 : u < p ∧ u < w := by omega
  have g1 := (F1u.2.2 d3.1 d3.2).1
  have g2 := (F1w.2.2 d3.1 d3.2).1
  by_cases k1 : p < w' ∧ p < u'
  · have := (F2u.1 k1.1 k1.2).1; omega
  by_cases k2 : w' < p ∧ w' < u'
  · have := (F2u.2.1 k2.1 k2.2).1; omega
  have := (F2u.2.2 (by omega) (by omega)).1
  omega
end PH
end
section
/-! at most 23 triangles -/
section PI
variable {X Y : Nat → Int} {n : Nat}
theorem pg_min (f : Nat → Int) : ∀ n, 0 < n → ∃ m, m < n ∧ ∀ i, i < n → f m ≤ f i
  | 0, h => absurd h (by omega)
  | n + 1, _ => by
    by_cases h0 : n = 0
    · subst h0
      exact ⟨0, by omega, fun i hi => by have e : i = 0 := by omega
                                         rw [e]; exact Int.le_refl _⟩
    · obtain ⟨m, h1, h2⟩ := pg_min f n (by omega)
      by_cases h : f m ≤ f n
      · refine ⟨m, by omega, fun i hi => ?_⟩
        by_cases e : i = n
        · rw [e]; exact h
        · exact h2 i (by omega)
      · refine ⟨n, by omega, fun i hi => ?_⟩
        by_cases e : i = n
        · rw [e]; exact Int.le_refl _
        · have := h2 i (by omega)
          omega
def pg_L (X Y : Nat → Int) (i : Nat) : Int := 100001 * X i + Y i
/-- what the sites are: at most 14, within the limits, no two the same -/
def pg_ok (n : Nat) (X Y : Nat → Int) : Prop := n ≤ 14 ∧ (∀ i, i < n → -30000 ≤ X i ∧ X i ≤ 30000 ∧ -30000 ≤ Y i ∧ Y i ≤ 30000) ∧ ∀ i j, i < n → j < n → X i = X j → Y i = Y j → i = j
theorem pg_L_inj (h : pg_ok n X Y) {i j : Nat} (hi : i < n) (hj : j < n) (e : pg_L X Y i = pg_L X Y j) : i = j := by
  have a := h.2.1 i hi
  have b := h.2.1 j hj
  unfold pg_L at e
  exact h.2.2 i j hi hj (by omega) (by omega)
def pg_code (n : Nat) (X Y : Nat → Int) (p q r k : Nat) : Prop := pg_DT n X Y p q r ∧ ((k = 2 * p ∧ pg_L X Y r < pg_L X Y p ∧ pg_L X Y p < pg_L X Y q) ∨ (k = 2 * p + 1 ∧ pg_L X Y q < pg_L X Y p ∧ pg_L X Y p < pg_L X Y r))
theorem pg_code_inj (h : pg_ok n X Y) {p q r p' q' r' k : Nat} (h1 : pg_code n X Y p q r k) (h2 : pg_code n X Y p' q' r' k) : p = p' ∧ q = q' ∧ r = r' := by
  obtain ⟨d1, c1⟩ := h1
  obtain ⟨d2, c2⟩ := h2
  have e : p = p' := by omega
  subst e
  unfold pg_L at c1 c2
  rcases c1 with ⟨k1, a1, a2⟩ | ⟨k1, a1, a2⟩
  · rcases c2 with ⟨k2, b1, b2⟩ | ⟨k2, b1, b2⟩
    · exact ⟨rfl, pg_B (A := 100001) (B := 1) h.2.2 d1 d2 (by omega) (by omega) (by omega) (by omega)⟩
    · omega
  · rcases c2 with ⟨k2, b1, b2⟩ | ⟨k2, b1, b2⟩
    · omega
    · exact ⟨rfl, pg_B (A := -100001) (B := -1) h.2.2 d1 d2 (by omega) (by omega) (by omega) (by omega)⟩
theorem pg_code_ex (h : pg_ok n X Y) {a b c : Nat} (d : pg_DT n X Y a b c) : ∃ p q r k, pg_code n X Y p q r k ∧ ((p = a ∧ q = b ∧ r = c) ∨ (p = b ∧ q = c ∧ r = a) ∨ (p = c ∧ q = a ∧ r = b)) := by
  obtain ⟨n1, n2, n3⟩ := pg_DT_ne d
  have m1 : pg_L X Y a ≠ pg_L X Y b := fun e => n1 (pg_L_inj h d.1 d.2.1 e)
  have m2 : pg_L X Y b ≠ pg_L X Y c := fun e => n2 (pg_L_inj h d.2.1 d.2.2.1 e)
  have m3 : pg_L X Y a ≠ pg_L X Y c := fun e => n3 (pg_L_inj h d.1 d.2.2.1 e)
  by_cases c1 : pg_L X Y c < pg_L X Y a ∧ pg_L X Y a < pg_L X Y b
  · exact ⟨a, b, c, 2 * a, ⟨d, Or.inl ⟨rfl, c1⟩⟩, by omega⟩
  by_cases c2 : pg_L X Y b < pg_L X Y a ∧ pg_L X Y a < pg_L X Y c
  · exact ⟨a, b, c, 2 * a + 1, ⟨d, Or.inr ⟨rfl, c2⟩⟩, by omega⟩
  by_cases c3 : pg_L X Y a < pg_L X Y b ∧ pg_L X Y b < pg_L X Y c
  · exact ⟨b, c, a, 2 * b, ⟨pg_DT_rot d, Or.inl ⟨rfl, c3⟩⟩, by omega⟩
  by_cases c4 : pg_L X Y c < pg_L X Y b ∧ pg_L X Y b < pg_L X Y a
  · exact ⟨b, c, a, 2 * b + 1, ⟨pg_DT_rot d, Or.inr ⟨rfl, c4⟩⟩, by omega⟩
  by_cases c5 : pg_L X Y b < pg_L X Y c ∧ pg_L X Y c < pg_L X Y a
  · exact ⟨c, a, b, 2 * c, ⟨pg_DT_rot (pg_DT_rot d), Or.inl ⟨rfl, c5⟩⟩, by omega⟩
  · exact ⟨c, a, b, 2 * c + 1, ⟨pg_DT_rot (pg_DT_rot d), Or.inr ⟨rfl, by omega⟩⟩, by omega⟩
def pg_TR (n : Nat) (X Y : Nat → Int) (t : Nat × Nat × Nat) : Prop := t.1 < t.2.1 ∧ t.2.1 < t.2.2 ∧ (pg_DT n X Y t.1 t.2.1 t.2.2 ∨ pg_DT n X Y t.1 t.2.2 t.2.1)
def pg_R (n : Nat) (X Y : Nat → Int) (t : Nat × Nat × Nat) (k : Nat) : Prop := t.1 < t.2.1 ∧ t.2.1 < t.2.2 ∧ ∃ p q r, pg_code n X Y p q r k ∧ ∀ i, (i = p ∨ i = q ∨ i = r) ↔ (i = t.1 ∨ i = t.2.1 ∨ i = t.2.2)
theorem pg_R_ex (h : pg_ok n X Y) {t : Nat × Nat × Nat} (ht : pg_TR n X Y t) : ∃ k, pg_R n X Y t k := by
  obtain ⟨h1, h2, h3⟩ := ht
  rcases h3 with h3 | h3
  · obtain ⟨p, q, r, k, c, e⟩ := pg_code_ex h h3
    exact ⟨k, h1, h2, p, q, r, c, fun i => by omega⟩
  · obtain ⟨p, q, r, k, c, e⟩ := pg_code_ex h h3
    exact ⟨k, h1, h2, p, q, r, c, fun i => by omega⟩
theorem pg_R_inj (h : pg_ok n X Y) (t t' : Nat × Nat × Nat) (k : Nat) (h1 : pg_R n X Y t k) (h2 : pg_R n X Y t' k) : t = t' := by
  obtain ⟨a1, a2, p, q, r, c1, e1⟩ := h1
  obtain ⟨b1, b2, p', q', r', c2, e2⟩ := h2
  obtain ⟨g1, g2, g3⟩ := pg_code_inj h c1 c2
  subst g1 g2 g3
  obtain ⟨t1, t2, t3⟩ := t
  obtain ⟨u1, u2, u3⟩ := t'
  dsimp only at a1 a2 b1 b2 e1 e2
  have i1 := (e2 t1).mp ((e1 t1).mpr (Or.inl rfl))
  have i2 := (e2 t2).mp ((e1 t2).mpr (Or.inr (Or.inl rfl)))
  have i3 := (e2 t3).mp ((e1 t3).mpr (Or.inr (Or.inr rfl)))
  have k1 : t1 = u1 := by omega
  have k2 : t2 = u2 := by omega
  have k3 : t3 = u3 := by omega
  rw [k1, k2, k3]
theorem pg_pig : ∀ (N : Nat) (l : List Nat), l.Nodup → (∀ x ∈ l, x < N) → l.length ≤ N
  | 0, [], _, _ => Nat.le_refl 0
  | 0, x :: l, _, h => absurd (h x List.mem_cons_self) (by omega)
  | N + 1, l, nd, h => by
    by_cases hN : N ∈ l
    · have h1 := pg_pig N (l.erase N) (nd.erase N) (fun x hx => by
        have h2 := nd.mem_erase_iff.mp hx
        have := h x h2.2
        omega)
      rw [List.length_erase_of_mem hN] at h1
      omega
    · have h1 := pg_pig N l nd (fun x hx => by
        have := h x hx
        have h2 : x ≠ N := fun e => hN (e ▸ hx)
        omega)
      omega
theorem pg_ks {α : Type} (R : α → Nat → Prop) (inj : ∀ x y k, R x k → R y k → x = y) : ∀ l : List α, l.Nodup → (∀ x ∈ l, ∃ k, R x k) → ∃ ks : List Nat, ks.length = l.length ∧ ks.Nodup ∧ ∀ k ∈ ks, ∃ x ∈ l, R x k
  | [], _, _ => ⟨[], rfl, List.nodup_nil, fun k h => absurd h List.not_mem_nil⟩
  | x :: l, nd, h => by
    obtain ⟨n1, n2⟩ := List.nodup_cons.mp nd
    obtain ⟨ks, a, b, c⟩ := pg_ks R inj l n2 (fun y hy => h y (List.mem_cons_of_mem _ hy))
    obtain ⟨k, hk⟩ := h x List.mem_cons_self
    refine ⟨k :: ks, by simp [a], List.nodup_cons.mpr ⟨fun hm => ?_, b⟩, fun k' hk' => ?_⟩
    · obtain ⟨y, hy, hr⟩ := c k hm
      exact n1 (inj x y k hk hr ▸ hy)
    · rcases List.mem_cons.mp hk' with e | e
      · exact ⟨x, List.mem_cons_self, e ▸ hk⟩
      · obtain ⟨y, hy, hr⟩ := c k' e
        exact ⟨y, List.mem_cons_of_mem _ hy, hr⟩
theorem pg_topI (A B wx wy ux uy hx hy : Int) : (A * wx + B * wy) * (hx * uy - hy * ux) + (-(A * ux + B * uy)) * (hx * wy - hy * wx) = (wx * uy - wy * ux) * (A * hx + B * hy) := by grind
theorem pg_tn_diff (a b c d : Nat) : pg_tn X Y a b d - pg_tn X Y a b c = (X b - X a) * (Y d - Y c) - (Y b - Y a) * (X d - X c) := by unfold pg_tn; grind
theorem pg_top {lo hi e q r : Nat} (d : pg_DT n X Y e q r) (hl : pg_L X Y lo < pg_L X Y hi) (h1 : pg_L X Y r < pg_L X Y e) (h2 : pg_L X Y e < pg_L X Y q) (k1 : pg_tn X Y lo hi q ≤ pg_tn X Y lo hi e) (k2 : pg_tn X Y lo hi r ≤ pg_tn X Y lo hi e) : False := by
  have i := pg_topI 100001 1 (X q - X e) (Y q - Y e) (X r - X e) (Y r - Y e) (X hi - X lo) (Y hi - Y lo)
  have e1 := pg_tn_diff (X := X) (Y := Y) lo hi e q
  have e2 := pg_tn_diff (X := X) (Y := Y) lo hi e r
  rw [← e1, ← e2] at i
  unfold pg_L at hl h1 h2
  have hD : 0 < (X q - X e) * (Y r - Y e) - (Y q - Y e) * (X r - X e) := d.2.2.2.1
  have m1 := Int.mul_nonneg (show 0 ≤ 100001 * (X q - X e) + 1 * (Y q - Y e) by omega) (show 0 ≤ -(pg_tn X Y lo hi r - pg_tn X Y lo hi e) by omega)
  have m2 := Int.mul_nonneg (show 0 ≤ -(100001 * (X r - X e) + 1 * (Y r - Y e)) by omega) (show 0 ≤ -(pg_tn X Y lo hi q - pg_tn X Y lo hi e) by omega)
  have m3 := Int.mul_pos hD (show 0 < 100001 * (X hi - X lo) + 1 * (Y hi - Y lo) by omega)
  rw [Int.mul_neg] at m1 m2
  rw [← i] at m3
  omega
theorem pg_bot {lo hi e q r : Nat} (d : pg_DT n X Y e q r) (hl : pg_L X Y lo < pg_L X Y hi) (h1 : pg_L X Y q < pg_L X Y e) (h2 : pg_L X Y e < pg_L X Y r) (k1 : pg_tn X Y lo hi e ≤ pg_tn X Y lo hi q) (k2 : pg_tn X Y lo hi e ≤ pg_tn X Y lo hi r) : False := by
  have i := pg_topI (-100001) (-1) (X q - X e) (Y q - Y e) (X r - X e) (Y r - Y e) (X hi - X lo) (Y hi - Y lo)
  have e1 := pg_tn_diff (X := X) (Y := Y) lo hi e q
  have e2 := pg_tn_diff (X := X) (Y := Y) lo hi e r
  rw [← e1, ← e2] at i
  unfold pg_L at hl h1 h2
  have hD : 0 < (X q - X e) * (Y r - Y e) - (Y q - Y e) * (X r - X e) := d.2.2.2.1
  have m1 := Int.mul_nonneg (show 0 ≤ (-100001) * (X q - X e) + (-1) * (Y q - Y e) by omega) (show 0 ≤ pg_tn X Y lo hi r - pg_tn X Y lo hi e by omega)
  have m2 := Int.mul_nonneg (show 0 ≤ -((-100001) * (X r - X e) + (-1) * (Y r - Y e)) by omega) (show 0 ≤ pg_tn X Y lo hi q - pg_tn X Y lo hi e by omega)
  have m3 := Int.mul_pos hD (show 0 < -((-100001) * (X hi - X lo) + (-1) * (Y hi - Y lo)) by omega)
  rw [Int.mul_neg, ← i] at m3
  omega
theorem pg_bound (h : pg_ok n X Y) (l : List (Nat × Nat × Nat)) (nd : l.Nodup) (ht : ∀ t ∈ l, pg_TR n X Y t) : l.length ≤ 23 := by
  obtain ⟨ks, hk1, hk2, hk3⟩ := pg_ks (pg_R n X Y) (pg_R_inj h) l nd (fun t hm => pg_R_ex h (ht t hm))
  cases hks : ks with
  | nil => rw [hks] at hk1; simp at hk1; omega
  | cons k0 ks0 =>
    obtain ⟨t0, -, -, -, p0, q0, r0, c0, -⟩ := hk3 k0 (by rw [hks]; exact List.mem_cons_self)
    have hn : 0 < n := by have := c0.1.1; omega
    obtain ⟨lo, lo1, lo2⟩ := pg_min (pg_L X Y) n hn
    obtain ⟨hi, hi1, hi2⟩ := pg_min (fun i => - pg_L X Y i) n hn
    obtain ⟨e, e1, e2⟩ := pg_min (fun i => - pg_tn X Y lo hi i) n hn
    obtain ⟨f, f1, f2⟩ := pg_min (fun i => pg_tn X Y lo hi i) n hn
    have hl : pg_L X Y lo < pg_L X Y hi := by
      have a1 := lo2 p0 c0.1.1
      have a2 := lo2 q0 c0.1.2.1
      have a3 := lo2 r0 c0.1.2.2.1
      have b1 := hi2 p0 c0.1.1
      have b2 := hi2 q0 c0.1.2.1
      have b3 := hi2 r0 c0.1.2.2.1
      have := c0.2
      omega
    have hlo : pg_tn X Y lo hi lo = 0 := pg_tn_aba _ _
    have hhi : pg_tn X Y lo hi hi = 0 := pg_tn_abb _ _
    have base : ∀ k ∈ ks, k < 2 * n ∧ k ≠ 2 * lo ∧ k ≠ 2 * lo + 1 ∧ k ≠ 2 * hi ∧ k ≠ 2 * hi + 1 := by
      intro k hk
      obtain ⟨t, -, -, -, p, q, r, c, -⟩ := hk3 k hk
      have a1 := lo2 q c.1.2.1
      have a2 := lo2 r c.1.2.2.1
      have b1 := hi2 q c.1.2.1
      have b2 := hi2 r c.1.2.2.1
      have hp := c.1.1
      rcases c.2 with ⟨g, g1, g2⟩ | ⟨g, g1, g2⟩
      · have n1 : p ≠ lo := fun z => by rw [z] at g1; omega
        have n2 : p ≠ hi := fun z => by rw [z] at g2; omega
        omega
      · have n1 : p ≠ lo := fun z => by rw [z] at g1; omega
        have n2 : p ≠ hi := fun z => by rw [z] at g2; omega
        omega
    have lohi : lo ≠ hi := fun z => by rw [z] at hl; omega
    have fin : ∀ kx, kx < 2 * n → kx ≠ 2 * lo → kx ≠ 2 * lo + 1 → kx ≠ 2 * hi → kx ≠ 2 * hi + 1 → kx ∉ ks → l.length ≤ 23 := by
      intro kx x1 x2 x3 x4 x5 x6
      have hb := pg_pig (2 * n) (2 * lo :: (2 * lo + 1) :: (2 * hi) :: (2 * hi + 1) :: kx :: ks) (by
        refine List.nodup_cons.mpr ⟨fun hm => ?_, List.nodup_cons.mpr ⟨fun hm => ?_, List.nodup_cons.mpr ⟨fun hm => ?_, List.nodup_cons.mpr ⟨fun hm => ?_, List.nodup_cons.mpr ⟨x6, hk2⟩⟩⟩⟩⟩
        · rcases List.mem_cons.mp hm with z | hm
          · omega
          rcases List.mem_cons.mp hm with z | hm
          · omega
          rcases List.mem_cons.mp hm with z | hm
          · omega
          rcases List.mem_cons.mp hm with z | hm
          · omega
          exact (base _ hm).2.1 rfl
        · rcases List.mem_cons.mp hm with z | hm
          · omega
          rcases List.mem_cons.mp hm with z | hm
          · omega
          rcases List.mem_cons.mp hm with z | hm
          · omega
          exact (base _ hm).2.2.1 rfl
        · rcases List.mem_cons.mp hm with z | hm
          · omega
          rcases List.mem_cons.mp hm with z | hm
          · omega
          exact (base _ hm).2.2.2.1 rfl
        · rcases List.mem_cons.mp hm with z | hm
          · omega
          exact (base _ hm).2.2.2.2 rfl) (fun x hm => by
        rcases List.mem_cons.mp hm with z | hm
        · omega
        rcases List.mem_cons.mp hm with z | hm
        · omega
        rcases List.mem_cons.mp hm with z | hm
        · omega
        rcases List.mem_cons.mp hm with z | hm
        · omega
        rcases List.mem_cons.mp hm with z | hm
        · omega
        exact (base _ hm).1)
      have hn14 := h.1
      simp only [List.length_cons] at hb
      omega
    by_cases he : 0 < pg_tn X Y lo hi e
    · have n1 : e ≠ lo := fun z => by rw [z] at he; omega
      have n2 : e ≠ hi := fun z => by rw [z] at he; omega
      refine fin (2 * e) (by omega) (by omega) (by omega) (by omega) (by omega) (fun hm => ?_)
      obtain ⟨t, -, -, -, p, q, r, c, -⟩ := hk3 _ hm
      rcases c.2 with ⟨g, g1, g2⟩ | ⟨g, g1, g2⟩
      · have z : p = e := by omega
        subst z
        have a1 := e2 q c.1.2.1
        have a2 := e2 r c.1.2.2.1
        exact pg_top c.1 hl g1 g2 (by omega) (by omega)
      · omega
    by_cases hf : pg_tn X Y lo hi f < 0
    · have n1 : f ≠ lo := fun z => by rw [z] at hf; omega
      have n2 : f ≠ hi := fun z => by rw [z] at hf; omega
      refine fin (2 * f + 1) (by omega) (by omega) (by omega) (by omega) (by omega) (fun hm => ?_)
      obtain ⟨t, -, -, -, p, q, r, c, -⟩ := hk3 _ hm
      rcases c.2 with ⟨g, g1, g2⟩ | ⟨g, g1, g2⟩
      · omega
      · have z : p = f := by omega
        subst z
        exact pg_bot c.1 hl g1 g2 (f2 q c.1.2.1) (f2 r c.1.2.2.1)
    exfalso
    have z : ∀ i, i < n → pg_tn X Y lo hi i = 0 := fun i hi => by
      have a := e2 i hi
      have b := f2 i hi
      omega
    have zp := z p0 c0.1.1
    have zq := z q0 c0.1.2.1
    have zr := z r0 c0.1.2.2.1
    rcases c0.2 with ⟨g, g1, g2⟩ | ⟨g, g1, g2⟩
    · exact pg_top c0.1 hl g1 g2 (by omega) (by omega)
    · exact pg_bot c0.1 hl g1 g2 (by omega) (by omega)
end PI
end
section
/-! rows over numbers: nI k a Nat as an int, iI x an Int as an int, lI x an Int as a long; gz_B r P: r is the truth of P -/
section NR
def iI (x : Int) : Int32 := Int32.ofInt x
def lI (x : Int) : Int64 := Int64.ofInt x
def gz_B (r : Int32) (P : Prop) : Prop := (r = 1 ∧ P) ∨ (r = 0 ∧ ¬ P)
theorem gz_bnar {r : Int32} {P : Prop} (h : gz_B r P) : narrow .boolean (.int r) = .int r := by
  rcases h with ⟨rfl, -⟩ | ⟨rfl, -⟩ <;> rfl
theorem gz_B_t {P : Prop} (h : P) : gz_B 1 P := Or.inl ⟨rfl, h⟩
theorem gz_B_f {P : Prop} (h : ¬ P) : gz_B 0 P := Or.inr ⟨rfl, h⟩
theorem gz_B_c {r : Int32} {P Q : Prop} (h : gz_B r P) (e : P ↔ Q) : gz_B r Q := by
  rcases h with ⟨h, p⟩ | ⟨h, p⟩
  · exact Or.inl ⟨h, e.mp p⟩
  · exact Or.inr ⟨h, fun q => p (e.mpr q)⟩
theorem gz_B_u {r r' : Int32} {P Q : Prop} (h : gz_B r P) (h' : gz_B r' Q) (e : P ↔ Q) : r = r' := by
  rcases h with ⟨h, p⟩ | ⟨h, p⟩ <;> rcases h' with ⟨h', p'⟩ | ⟨h', p'⟩
  · rw [h, h']
  · exact absurd (e.mp p) p'
  · exact absurd (e.mpr p') p
  · rw [h, h']
theorem lI_add (x y : Int) : lI x + lI y = lI (x + y) := (Int64.ofInt_add x y).symm
theorem lI_sub (x y : Int) : lI x - lI y = lI (x - y) := (Int64.ofInt_sub x y).symm
theorem lI_mul (x y : Int) : lI x * lI y = lI (x * y) := (Int64.ofInt_mul x y).symm
theorem lI_neg (x : Int) : - lI x = lI (-x) := (Int64.ofInt_neg x).symm
theorem lI_toInt {x : Int} (h1 : -9223372036854775808 ≤ x) (h2 : x < 9223372036854775808) : (lI x).toInt = x := Int64.toInt_ofInt_of_le (by omega) (by omega)
theorem iI_toInt {x : Int} (h1 : -2147483648 ≤ x) (h2 : x < 2147483648) : (iI x).toInt = x := Int32.toInt_ofInt_of_le (by omega) (by omega)
theorem iI_l {x : Int} (h1 : -2147483648 ≤ x) (h2 : x < 2147483648) : (iI x).toInt64 = lI x := by
  rw [← Int64.toInt_inj, Int32.toInt_toInt64, iI_toInt h1 h2, lI_toInt (by omega) (by omega)]
theorem iI_of (x : Int32) : x = iI x.toInt := (Int32.ofInt_toInt x).symm
theorem lI_eq {x y : Int} (a1 : -9223372036854775808 ≤ x) (a2 : x < 9223372036854775808) (b1 : -9223372036854775808 ≤ y) (b2 : y < 9223372036854775808) : lI x = lI y ↔ x = y := by
  rw [← Int64.toInt_inj, lI_toInt a1 a2, lI_toInt b1 b2]
theorem lI_lt {x y : Int} (a1 : -9223372036854775808 ≤ x) (a2 : x < 9223372036854775808) (b1 : -9223372036854775808 ≤ y) (b2 : y < 9223372036854775808) : lI x < lI y ↔ x < y := by
  rw [Int64.lt_iff_toInt_lt, lI_toInt a1 a2, lI_toInt b1 b2]
theorem lI_le {x y : Int} (a1 : -9223372036854775808 ≤ x) (a2 : x < 9223372036854775808) (b1 : -9223372036854775808 ≤ y) (b2 : y < 9223372036854775808) : lI x ≤ lI y ↔ x ≤ y := by
  rw [Int64.le_iff_toInt_le, lI_toInt a1 a2, lI_toInt b1 b2]
theorem iI_eq {x y : Int} (a1 : -2147483648 ≤ x) (a2 : x < 2147483648) (b1 : -2147483648 ≤ y) (b2 : y < 2147483648) : iI x = iI y ↔ x = y := by
  rw [← Int32.toInt_inj, iI_toInt a1 a2, iI_toInt b1 b2]
theorem iI_lt {x y : Int} (a1 : -2147483648 ≤ x) (a2 : x < 2147483648) (b1 : -2147483648 ≤ y) (b2 : y < 2147483648) : iI x < iI y ↔ x < y := by
  rw [Int32.lt_iff_toInt_lt, iI_toInt a1 a2, iI_toInt b1 b2]
theorem iI_le {x y : Int} (a1 : -2147483648 ≤ x) (a2 : x < 2147483648) (b1 : -2147483648 ≤ y) (b2 : y < 2147483648) : iI x ≤ iI y ↔ x ≤ y := by
  rw [Int32.le_iff_toInt_le, iI_toInt a1 a2, iI_toInt b1 b2]
theorem gz_nI1 (k : Nat) : nI k + Int32.ofInt 1 = nI (k + 1) := nI_1 k
theorem gz_upN (T : Nat → Nat) (k v : Nat) : upd (fun i => nI (T i)) k (nI v) = fun i => nI (if i = k then v else T i) := by
  funext j
  unfold upd
  by_cases h : j = k
  · rw [if_pos h, if_pos h]
  · rw [if_neg h, if_neg h]
variable {z : gz_Z} {l' : Launch} {D' : va_G} {tys' : List (ClassId × FieldType)} {cc : ByteArray} {own : String} {Ts : List Cond} {nL' : Nat} {R' : Room} {kb : Bool}
variable {ws : va_W} {pc : Nat} {lv lv' : List (Nat × Value)} {rest st : List Value}
theorem gz_iaddN (E : gz_E z l' D' tys' cc own Ts nL' R' kb) {a b : Nat} (hd : decode cc pc = .ok (.iadd, 1)) (k : gz_G z ws (pc + 1) lv (.int (nI (a + b)) :: rest)) : gz_G z ws pc lv (.int (nI b) :: .int (nI a) :: rest) := by
  refine gz_iadd E hd ?_
  rw [nI_add]
  exact k
theorem gz_imulN (E : gz_E z l' D' tys' cc own Ts nL' R' kb) {a b : Nat} (hd : decode cc pc = .ok (.imul, 1)) (k : gz_G z ws (pc + 1) lv (.int (nI (a * b)) :: rest)) : gz_G z ws pc lv (.int (nI b) :: .int (nI a) :: rest) := by
  refine gz_imul E hd ?_
  rw [pk_mul]
  exact k
theorem gz_isubN (E : gz_E z l' D' tys' cc own Ts nL' R' kb) {a b : Nat} (hd : decode cc pc = .ok (.isub, 1)) (hab : b ≤ a) (k : gz_G z ws (pc + 1) lv (.int (nI (a - b)) :: rest)) : gz_G z ws pc lv (.int (nI b) :: .int (nI a) :: rest) := by
  refine gz_isub E hd ?_
  rw [pk_sub hab]
  exact k
theorem gz_laddL (E : gz_E z l' D' tys' cc own Ts nL' R' kb) {x y : Int} (hd : decode cc pc = .ok (.ladd, 1)) (k : gz_G z ws (pc + 1) lv (.long (lI (x + y)) :: rest)) : gz_G z ws pc lv (.long (lI y) :: .long (lI x) :: rest) := by
  refine gz_ladd E hd ?_
  rw [lI_add]
  exact k
theorem gz_lsubL (E : gz_E z l' D' tys' cc own Ts nL' R' kb) {x y : Int} (hd : decode cc pc = .ok (.lsub, 1)) (k : gz_G z ws (pc + 1) lv (.long (lI (x - y)) :: rest)) : gz_G z ws pc lv (.long (lI y) :: .long (lI x) :: rest) := by
  refine gz_lsub E hd ?_
  rw [lI_sub]
  exact k
theorem gz_lmulL (E : gz_E z l' D' tys' cc own Ts nL' R' kb) {x y : Int} (hd : decode cc pc = .ok (.lmul, 1)) (k : gz_G z ws (pc + 1) lv (.long (lI (x * y)) :: rest)) : gz_G z ws pc lv (.long (lI y) :: .long (lI x) :: rest) := by
  refine gz_lmul E hd ?_
  rw [lI_mul]
  exact k
theorem gz_lnegL (E : gz_E z l' D' tys' cc own Ts nL' R' kb) {x : Int} (hd : decode cc pc = .ok (.lneg, 1)) (k : gz_G z ws (pc + 1) lv (.long (lI (-x)) :: rest)) : gz_G z ws pc lv (.long (lI x) :: rest) := by
  refine gz_lneg E hd ?_
  rw [lI_neg]
  exact k
theorem gz_i2lI (E : gz_E z l' D' tys' cc own Ts nL' R' kb) {x : Int} (hd : decode cc pc = .ok (.i2l, 1)) (h1 : -2147483648 ≤ x) (h2 : x < 2147483648) (k : gz_G z ws (pc + 1) lv (.long (lI x) :: rest)) : gz_G z ws pc lv (.int (iI x) :: rest) := by
  refine gz_i2l E hd ?_
  rw [iI_l h1 h2]
  exact k
theorem gz_ialdN (E : gz_E z l' D' tys' cc own Ts nL' R' true) (q0 t0 : Nat) {a : Nat} {cA : ClassId} {n k : Nat} {f : Nat → Int32} {v : Int32} (hd : decode cc pc = .ok (.iaload, 1)) (ha : ws[q0]? = some (a, .inl (cA, n, .inl f))) (ht : tys'[t0]? = some (cA, .int)) (hn : n ≤ 64) (hv : f k = v) (hk : k < n) (kk : gz_G z ws (pc + 1) lv (.int v :: rest)) : gz_G z ws pc lv (.int (nI k) :: .ref a :: rest) := by
  refine gz_iald E q0 t0 hd ha ht (vp_in_nI hk (by omega)) ?_
  rw [nI_clamp (by omega), hv]
  exact kk
theorem gz_iastN (E : gz_E z l' D' tys' cc own Ts nL' R' true) (q0 t0 : Nat) {a : Nat} {cA : ClassId} {n k : Nat} {f : Nat → Int32} {x : Int32} (hd : decode cc pc = .ok (.iastore, 1)) (ha : ws[q0]? = some (a, .inl (cA, n, .inl f))) (ht : tys'[t0]? = some (cA, .int)) (hn : n ≤ 64) (hk : k < n) (kk : gz_G z (ws.set q0 (a, .inl (cA, n, .inl (upd f k x)))) (pc + 1) lv rest) : gz_G z ws pc lv (.int x :: .int (nI k) :: .ref a :: rest) := by
  refine gz_iast E q0 t0 hd ha ht (vp_in_nI hk (by omega)) ?_
  rw [nI_clamp (by omega)]
  exact kk
theorem gz_laldN (E : gz_E z l' D' tys' cc own Ts nL' R' true) (q0 t0 : Nat) {a : Nat} {cA : ClassId} {n k : Nat} {f : Nat → Int64} {v : Int64} (hd : decode cc pc = .ok (.laload, 1)) (ha : ws[q0]? = some (a, .inl (cA, n, .inr (.inl f)))) (ht : tys'[t0]? = some (cA, .long)) (hn : n ≤ 64) (hv : f k = v) (hk : k < n) (kk : gz_G z ws (pc + 1) lv (.long v :: rest)) : gz_G z ws pc lv (.int (nI k) :: .ref a :: rest) := by
  refine gz_lald E q0 t0 hd ha ht (vp_in_nI hk (by omega)) ?_
  rw [nI_clamp (by omega), hv]
  exact kk
theorem gz_lastN (E : gz_E z l' D' tys' cc own Ts nL' R' true) (q0 t0 : Nat) {a : Nat} {cA : ClassId} {n k : Nat} {f : Nat → Int64} {x : Int64} (hd : decode cc pc = .ok (.lastore, 1)) (ha : ws[q0]? = some (a, .inl (cA, n, .inr (.inl f)))) (ht : tys'[t0]? = some (cA, .long)) (hn : n ≤ 64) (hk : k < n) (kk : gz_G z (ws.set q0 (a, .inl (cA, n, .inr (.inl (vp_updL f k x))))) (pc + 1) lv rest) : gz_G z ws pc lv (.long x :: .int (nI k) :: .ref a :: rest) := by
  refine gz_last E q0 t0 hd ha ht (vp_in_nI hk (by omega)) ?_
  rw [nI_clamp (by omega)]
  exact kk
theorem gz_icN_eq (E : gz_E z l' D' tys' cc own Ts nL' R' kb) {a b : Nat} {off : Int} {tgt : Nat} (hd : decode cc pc = .ok (.if_icmp .eq off, 3)) (ht : (pc : Int) + off = (tgt : Int)) (ha : a < 2 ^ 31) (hb : b < 2 ^ 31) (kt : a = b → gz_G z ws tgt lv rest) (kf : a ≠ b → gz_G z ws (pc + 3) lv rest) : gz_G z ws pc lv (.int (nI b) :: .int (nI a) :: rest) :=
  gz_icmp_eq E hd ht (fun q => kt ((nI_eq ha hb).mp q)) (fun q => kf (fun r => q ((nI_eq ha hb).mpr r)))
theorem gz_lcL_eq (E : gz_E z l' D' tys' cc own Ts nL' R' kb) {x y : Int} {off : Int} {tgt : Nat} (hd0 : decode cc pc = .ok (.lcmp, 1)) (hd : decode cc (pc + 1) = .ok (.ifCond .eq off, 3)) (ht : ((pc + 1 : Nat) : Int) + off = (tgt : Int)) (a1 : -9223372036854775808 ≤ x) (a2 : x < 9223372036854775808) (b1 : -9223372036854775808 ≤ y) (b2 : y < 9223372036854775808) (kt : x = y → gz_G z ws tgt lv rest) (kf : ¬ x = y → gz_G z ws (pc + 1 + 3) lv rest) : gz_G z ws pc lv (.long (lI y) :: .long (lI x) :: rest) :=
  gz_lc_eq E hd0 hd ht (fun q => kt ((lI_eq a1 a2 b1 b2).mp q)) (fun q => kf (fun r => q ((lI_eq a1 a2 b1 b2).mpr r)))
theorem gz_icN_ne (E : gz_E z l' D' tys' cc own Ts nL' R' kb) {a b : Nat} {off : Int} {tgt : Nat} (hd : decode cc pc = .ok (.if_icmp .ne off, 3)) (ht : (pc : Int) + off = (tgt : Int)) (ha : a < 2 ^ 31) (hb : b < 2 ^ 31) (kt : a ≠ b → gz_G z ws tgt lv rest) (kf : a = b → gz_G z ws (pc + 3) lv rest) : gz_G z ws pc lv (.int (nI b) :: .int (nI a) :: rest) :=
  gz_icmp_ne E hd ht (fun q => kt (fun r => q ((nI_eq ha hb).mpr r))) (fun q => kf ((nI_eq ha hb).mp q))
theorem gz_lcL_ne (E : gz_E z l' D' tys' cc own Ts nL' R' kb) {x y : Int} {off : Int} {tgt : Nat} (hd0 : decode cc pc = .ok (.lcmp, 1)) (hd : decode cc (pc + 1) = .ok (.ifCond .ne off, 3)) (ht : ((pc + 1 : Nat) : Int) + off = (tgt : Int)) (a1 : -9223372036854775808 ≤ x) (a2 : x < 9223372036854775808) (b1 : -9223372036854775808 ≤ y) (b2 : y < 9223372036854775808) (kt : ¬ x = y → gz_G z ws tgt lv rest) (kf : x = y → gz_G z ws (pc + 1 + 3) lv rest) : gz_G z ws pc lv (.long (lI y) :: .long (lI x) :: rest) :=
  gz_lc_ne E hd0 hd ht (fun q => kt (fun r => q ((lI_eq a1 a2 b1 b2).mpr r))) (fun q => kf ((lI_eq a1 a2 b1 b2).mp q))
theorem gz_icN_lt (E : gz_E z l' D' tys' cc own Ts nL' R' kb) {a b : Nat} {off : Int} {tgt : Nat} (hd : decode cc pc = .ok (.if_icmp .lt off, 3)) (ht : (pc : Int) + off = (tgt : Int)) (ha : a < 2 ^ 31) (hb : b < 2 ^ 31) (kt : a < b → gz_G z ws tgt lv rest) (kf : b ≤ a → gz_G z ws (pc + 3) lv rest) : gz_G z ws pc lv (.int (nI b) :: .int (nI a) :: rest) :=
  gz_icmp_lt E hd ht (fun q => kt ((nI_ltI ha hb).mp q)) (fun q => kf (Nat.not_lt.mp (fun r => q ((nI_ltI ha hb).mpr r))))
theorem gz_lcL_lt (E : gz_E z l' D' tys' cc own Ts nL' R' kb) {x y : Int} {off : Int} {tgt : Nat} (hd0 : decode cc pc = .ok (.lcmp, 1)) (hd : decode cc (pc + 1) = .ok (.ifCond .lt off, 3)) (ht : ((pc + 1 : Nat) : Int) + off = (tgt : Int)) (a1 : -9223372036854775808 ≤ x) (a2 : x < 9223372036854775808) (b1 : -9223372036854775808 ≤ y) (b2 : y < 9223372036854775808) (kt : x < y → gz_G z ws tgt lv rest) (kf : y ≤ x → gz_G z ws (pc + 1 + 3) lv rest) : gz_G z ws pc lv (.long (lI y) :: .long (lI x) :: rest) :=
  gz_lc_lt E hd0 hd ht (fun q => kt ((lI_lt a1 a2 b1 b2).mp q)) (fun q => kf (Int.not_lt.mp (fun r => q ((lI_lt a1 a2 b1 b2).mpr r))))
theorem gz_icN_ge (E : gz_E z l' D' tys' cc own Ts nL' R' kb) {a b : Nat} {off : Int} {tgt : Nat} (hd : decode cc pc = .ok (.if_icmp .ge off, 3)) (ht : (pc : Int) + off = (tgt : Int)) (ha : a < 2 ^ 31) (hb : b < 2 ^ 31) (kt : b ≤ a → gz_G z ws tgt lv rest) (kf : a < b → gz_G z ws (pc + 3) lv rest) : gz_G z ws pc lv (.int (nI b) :: .int (nI a) :: rest) :=
  gz_icmp_ge E hd ht (fun q => kt ((nI_leI hb ha).mp q)) (fun q => kf (Nat.not_le.mp (fun r => q ((nI_leI hb ha).mpr r))))
theorem gz_lcL_ge (E : gz_E z l' D' tys' cc own Ts nL' R' kb) {x y : Int} {off : Int} {tgt : Nat} (hd0 : decode cc pc = .ok (.lcmp, 1)) (hd : decode cc (pc + 1) = .ok (.ifCond .ge off, 3)) (ht : ((pc + 1 : Nat) : Int) + off = (tgt : Int)) (a1 : -9223372036854775808 ≤ x) (a2 : x < 9223372036854775808) (b1 : -9223372036854775808 ≤ y) (b2 : y < 9223372036854775808) (kt : y ≤ x → gz_G z ws tgt lv rest) (kf : x < y → gz_G z ws (pc + 1 + 3) lv rest) : gz_G z ws pc lv (.long (lI y) :: .long (lI x) :: rest) :=
  gz_lc_ge E hd0 hd ht (fun q => kt ((lI_le b1 b2 a1 a2).mp q)) (fun q => kf (Int.not_le.mp (fun r => q ((lI_le b1 b2 a1 a2).mpr r))))
theorem gz_icN_gt (E : gz_E z l' D' tys' cc own Ts nL' R' kb) {a b : Nat} {off : Int} {tgt : Nat} (hd : decode cc pc = .ok (.if_icmp .gt off, 3)) (ht : (pc : Int) + off = (tgt : Int)) (ha : a < 2 ^ 31) (hb : b < 2 ^ 31) (kt : b < a → gz_G z ws tgt lv rest) (kf : a ≤ b → gz_G z ws (pc + 3) lv rest) : gz_G z ws pc lv (.int (nI b) :: .int (nI a) :: rest) :=
  gz_icmp_gt E hd ht (fun q => kt ((nI_ltI hb ha).mp q)) (fun q => kf (Nat.not_lt.mp (fun r => q ((nI_ltI hb ha).mpr r))))
theorem gz_lcL_gt (E : gz_E z l' D' tys' cc own Ts nL' R' kb) {x y : Int} {off : Int} {tgt : Nat} (hd0 : decode cc pc = .ok (.lcmp, 1)) (hd : decode cc (pc + 1) = .ok (.ifCond .gt off, 3)) (ht : ((pc + 1 : Nat) : Int) + off = (tgt : Int)) (a1 : -9223372036854775808 ≤ x) (a2 : x < 9223372036854775808) (b1 : -9223372036854775808 ≤ y) (b2 : y < 9223372036854775808) (kt : y < x → gz_G z ws tgt lv rest) (kf : x ≤ y → gz_G z ws (pc + 1 + 3) lv rest) : gz_G z ws pc lv (.long (lI y) :: .long (lI x) :: rest) :=
  gz_lc_gt E hd0 hd ht (fun q => kt ((lI_lt b1 b2 a1 a2).mp q)) (fun q => kf (Int.not_lt.mp (fun r => q ((lI_lt b1 b2 a1 a2).mpr r))))
theorem gz_icN_le (E : gz_E z l' D' tys' cc own Ts nL' R' kb) {a b : Nat} {off : Int} {tgt : Nat} (hd : decode cc pc = .ok (.if_icmp .le off, 3)) (ht : (pc : Int) + off = (tgt : Int)) (ha : a < 2 ^ 31) (hb : b < 2 ^ 31) (kt : a ≤ b → gz_G z ws tgt lv rest) (kf : b < a → gz_G z ws (pc + 3) lv rest) : gz_G z ws pc lv (.int (nI b) :: .int (nI a) :: rest) :=
  gz_icmp_le E hd ht (fun q => kt ((nI_leI ha hb).mp q)) (fun q => kf (Nat.not_le.mp (fun r => q ((nI_leI ha hb).mpr r))))
theorem gz_lcL_le (E : gz_E z l' D' tys' cc own Ts nL' R' kb) {x y : Int} {off : Int} {tgt : Nat} (hd0 : decode cc pc = .ok (.lcmp, 1)) (hd : decode cc (pc + 1) = .ok (.ifCond .le off, 3)) (ht : ((pc + 1 : Nat) : Int) + off = (tgt : Int)) (a1 : -9223372036854775808 ≤ x) (a2 : x < 9223372036854775808) (b1 : -9223372036854775808 ≤ y) (b2 : y < 9223372036854775808) (kt : x ≤ y → gz_G z ws tgt lv rest) (kf : y < x → gz_G z ws (pc + 1 + 3) lv rest) : gz_G z ws pc lv (.long (lI y) :: .long (lI x) :: rest) :=
  gz_lc_le E hd0 hd ht (fun q => kt ((lI_le a1 a2 b1 b2).mp q)) (fun q => kf (Int.not_le.mp (fun r => q ((lI_le a1 a2 b1 b2).mpr r))))
theorem gz_ifN_lt (E : gz_E z l' D' tys' cc own Ts nL' R' kb) {a : Nat} {off : Int} (hd : decode cc pc = .ok (.ifCond .lt off, 3)) (tgt : Nat) (ht : (pc : Int) + off = (tgt : Int)) (ha : a < 2 ^ 31) (kf : gz_G z ws (pc + 3) lv rest) : gz_G z ws pc lv (.int (nI a) :: rest) :=
  gz_if_lt (tgt := tgt) E hd ht (fun q => absurd q (nI_pos ha)) (fun _ => kf)
theorem gz_ifN_ge (E : gz_E z l' D' tys' cc own Ts nL' R' kb) {a : Nat} {off : Int} (hd : decode cc pc = .ok (.ifCond .ge off, 3)) (tgt : Nat) (ht : (pc : Int) + off = (tgt : Int)) (ha : a < 2 ^ 31) (kt : gz_G z ws tgt lv rest) : gz_G z ws pc lv (.int (nI a) :: rest) :=
  gz_if_ge (tgt := tgt) E hd ht (fun _ => kt) (fun q => absurd (nI_pos' ha) q)
theorem gz_ifN_eq (E : gz_E z l' D' tys' cc own Ts nL' R' kb) {a : Nat} {off : Int} {tgt : Nat} (hd : decode cc pc = .ok (.ifCond .eq off, 3)) (ht : (pc : Int) + off = (tgt : Int)) (ha : a < 2 ^ 31) (kt : a = 0 → gz_G z ws tgt lv rest) (kf : a ≠ 0 → gz_G z ws (pc + 3) lv rest) : gz_G z ws pc lv (.int (nI a) :: rest) :=
  gz_if_eq E hd ht (fun q => kt ((nI_eq ha (by decide : 0 < 2 ^ 31)).mp (q.trans nI_0.symm))) (fun q => kf (fun r => q (by rw [r]; exact nI_0)))
theorem gz_ifN_ne (E : gz_E z l' D' tys' cc own Ts nL' R' kb) {a : Nat} {off : Int} {tgt : Nat} (hd : decode cc pc = .ok (.ifCond .ne off, 3)) (ht : (pc : Int) + off = (tgt : Int)) (ha : a < 2 ^ 31) (kt : a ≠ 0 → gz_G z ws tgt lv rest) (kf : a = 0 → gz_G z ws (pc + 3) lv rest) : gz_G z ws pc lv (.int (nI a) :: rest) :=
  gz_if_ne E hd ht (fun q => kt (fun r => q (by rw [r]; exact nI_0))) (fun q => kf ((nI_eq ha (by decide : 0 < 2 ^ 31)).mp (q.trans nI_0.symm)))
theorem gz_ifB_eq (E : gz_E z l' D' tys' cc own Ts nL' R' kb) {r : Int32} {P : Prop} (hr : gz_B r P) {off : Int} {tgt : Nat} (hd : decode cc pc = .ok (.ifCond .eq off, 3)) (ht : (pc : Int) + off = (tgt : Int)) (kt : ¬ P → gz_G z ws tgt lv rest) (kf : P → gz_G z ws (pc + 3) lv rest) : gz_G z ws pc lv (.int r :: rest) := by
  rcases hr with ⟨rfl, hp⟩ | ⟨rfl, hp⟩
  · exact gz_if_eq E hd ht (fun q => absurd q (by decide)) (fun _ => kf hp)
  · exact gz_if_eq E hd ht (fun _ => kt hp) (fun q => absurd rfl q)
theorem gz_ifB_ne (E : gz_E z l' D' tys' cc own Ts nL' R' kb) {r : Int32} {P : Prop} (hr : gz_B r P) {off : Int} {tgt : Nat} (hd : decode cc pc = .ok (.ifCond .ne off, 3)) (ht : (pc : Int) + off = (tgt : Int)) (kt : P → gz_G z ws tgt lv rest) (kf : ¬ P → gz_G z ws (pc + 3) lv rest) : gz_G z ws pc lv (.int r :: rest) := by
  rcases hr with ⟨rfl, hp⟩ | ⟨rfl, hp⟩
  · exact gz_if_ne E hd ht (fun _ => kt hp) (fun q => absurd q (by decide))
  · exact gz_if_ne E hd ht (fun q => absurd rfl q) (fun _ => kf hp)
theorem gz_ifI_eq (E : gz_E z l' D' tys' cc own Ts nL' R' kb) {x : Int} {off : Int} {tgt : Nat} (hd : decode cc pc = .ok (.ifCond .eq off, 3)) (ht : (pc : Int) + off = (tgt : Int)) (a1 : -2147483648 ≤ x) (a2 : x < 2147483648) (kt : x = 0 → gz_G z ws tgt lv rest) (kf : ¬ x = 0 → gz_G z ws (pc + 3) lv rest) : gz_G z ws pc lv (.int (iI x) :: rest) :=
  gz_if_eq E hd ht (fun q => kt ((iI_eq a1 a2 (by decide : (-2147483648 : Int) ≤ 0) (by decide : (0 : Int) < 2147483648)).mp q)) (fun q => kf (fun r => q ((iI_eq a1 a2 (by decide : (-2147483648 : Int) ≤ 0) (by decide : (0 : Int) < 2147483648)).mpr r)))
theorem gz_icI_eq (E : gz_E z l' D' tys' cc own Ts nL' R' kb) {x y : Int} {off : Int} {tgt : Nat} (hd : decode cc pc = .ok (.if_icmp .eq off, 3)) (ht : (pc : Int) + off = (tgt : Int)) (a1 : -2147483648 ≤ x) (a2 : x < 2147483648) (b1 : -2147483648 ≤ y) (b2 : y < 2147483648) (kt : x = y → gz_G z ws tgt lv rest) (kf : ¬ x = y → gz_G z ws (pc + 3) lv rest) : gz_G z ws pc lv (.int (iI y) :: .int (iI x) :: rest) :=
  gz_icmp_eq E hd ht (fun q => kt ((iI_eq a1 a2 b1 b2).mp q)) (fun q => kf (fun r => q ((iI_eq a1 a2 b1 b2).mpr r)))
theorem gz_ifI_ne (E : gz_E z l' D' tys' cc own Ts nL' R' kb) {x : Int} {off : Int} {tgt : Nat} (hd : decode cc pc = .ok (.ifCond .ne off, 3)) (ht : (pc : Int) + off = (tgt : Int)) (a1 : -2147483648 ≤ x) (a2 : x < 2147483648) (kt : ¬ x = 0 → gz_G z ws tgt lv rest) (kf : x = 0 → gz_G z ws (pc + 3) lv rest) : gz_G z ws pc lv (.int (iI x) :: rest) :=
  gz_if_ne E hd ht (fun q => kt (fun r => q ((iI_eq a1 a2 (by decide : (-2147483648 : Int) ≤ 0) (by decide : (0 : Int) < 2147483648)).mpr r))) (fun q => kf ((iI_eq a1 a2 (by decide : (-2147483648 : Int) ≤ 0) (by decide : (0 : Int) < 2147483648)).mp q))
theorem gz_icI_ne (E : gz_E z l' D' tys' cc own Ts nL' R' kb) {x y : Int} {off : Int} {tgt : Nat} (hd : decode cc pc = .ok (.if_icmp .ne off, 3)) (ht : (pc : Int) + off = (tgt : Int)) (a1 : -2147483648 ≤ x) (a2 : x < 2147483648) (b1 : -2147483648 ≤ y) (b2 : y < 2147483648) (kt : ¬ x = y → gz_G z ws tgt lv rest) (kf : x = y → gz_G z ws (pc + 3) lv rest) : gz_G z ws pc lv (.int (iI y) :: .int (iI x) :: rest) :=
  gz_icmp_ne E hd ht (fun q => kt (fun r => q ((iI_eq a1 a2 b1 b2).mpr r))) (fun q => kf ((iI_eq a1 a2 b1 b2).mp q))
theorem gz_ifI_lt (E : gz_E z l' D' tys' cc own Ts nL' R' kb) {x : Int} {off : Int} {tgt : Nat} (hd : decode cc pc = .ok (.ifCond .lt off, 3)) (ht : (pc : Int) + off = (tgt : Int)) (a1 : -2147483648 ≤ x) (a2 : x < 2147483648) (kt : x < 0 → gz_G z ws tgt lv rest) (kf : 0 ≤ x → gz_G z ws (pc + 3) lv rest) : gz_G z ws pc lv (.int (iI x) :: rest) :=
  gz_if_lt E hd ht (fun q => kt ((iI_lt a1 a2 (by decide : (-2147483648 : Int) ≤ 0) (by decide : (0 : Int) < 2147483648)).mp q)) (fun q => kf (Int.not_lt.mp (fun r => q ((iI_lt a1 a2 (by decide : (-2147483648 : Int) ≤ 0) (by decide : (0 : Int) < 2147483648)).mpr r))))
theorem gz_icI_lt (E : gz_E z l' D' tys' cc own Ts nL' R' kb) {x y : Int} {off : Int} {tgt : Nat} (hd : decode cc pc = .ok (.if_icmp .lt off, 3)) (ht : (pc : Int) + off = (tgt : Int)) (a1 : -2147483648 ≤ x) (a2 : x < 2147483648) (b1 : -2147483648 ≤ y) (b2 : y < 2147483648) (kt : x < y → gz_G z ws tgt lv rest) (kf : y ≤ x → gz_G z ws (pc + 3) lv rest) : gz_G z ws pc lv (.int (iI y) :: .int (iI x) :: rest) :=
  gz_icmp_lt E hd ht (fun q => kt ((iI_lt a1 a2 b1 b2).mp q)) (fun q => kf (Int.not_lt.mp (fun r => q ((iI_lt a1 a2 b1 b2).mpr r))))
theorem gz_ifI_ge (E : gz_E z l' D' tys' cc own Ts nL' R' kb) {x : Int} {off : Int} {tgt : Nat} (hd : decode cc pc = .ok (.ifCond .ge off, 3)) (ht : (pc : Int) + off = (tgt : Int)) (a1 : -2147483648 ≤ x) (a2 : x < 2147483648) (kt : 0 ≤ x → gz_G z ws tgt lv rest) (kf : x < 0 → gz_G z ws (pc + 3) lv rest) : gz_G z ws pc lv (.int (iI x) :: rest) :=
  gz_if_ge E hd ht (fun q => kt ((iI_le (by decide : (-2147483648 : Int) ≤ 0) (by decide : (0 : Int) < 2147483648) a1 a2).mp q)) (fun q => kf (Int.not_le.mp (fun r => q ((iI_le (by decide : (-2147483648 : Int) ≤ 0) (by decide : (0 : Int) < 2147483648) a1 a2).mpr r))))
theorem gz_icI_ge (E : gz_E z l' D' tys' cc own Ts nL' R' kb) {x y : Int} {off : Int} {tgt : Nat} (hd : decode cc pc = .ok (.if_icmp .ge off, 3)) (ht : (pc : Int) + off = (tgt : Int)) (a1 : -2147483648 ≤ x) (a2 : x < 2147483648) (b1 : -2147483648 ≤ y) (b2 : y < 2147483648) (kt : y ≤ x → gz_G z ws tgt lv rest) (kf : x < y → gz_G z ws (pc + 3) lv rest) : gz_G z ws pc lv (.int (iI y) :: .int (iI x) :: rest) :=
  gz_icmp_ge E hd ht (fun q => kt ((iI_le b1 b2 a1 a2).mp q)) (fun q => kf (Int.not_le.mp (fun r => q ((iI_le b1 b2 a1 a2).mpr r))))
theorem gz_ifI_gt (E : gz_E z l' D' tys' cc own Ts nL' R' kb) {x : Int} {off : Int} {tgt : Nat} (hd : decode cc pc = .ok (.ifCond .gt off, 3)) (ht : (pc : Int) + off = (tgt : Int)) (a1 : -2147483648 ≤ x) (a2 : x < 2147483648) (kt : 0 < x → gz_G z ws tgt lv rest) (kf : x ≤ 0 → gz_G z ws (pc + 3) lv rest) : gz_G z ws pc lv (.int (iI x) :: rest) :=
  gz_if_gt E hd ht (fun q => kt ((iI_lt (by decide : (-2147483648 : Int) ≤ 0) (by decide : (0 : Int) < 2147483648) a1 a2).mp q)) (fun q => kf (Int.not_lt.mp (fun r => q ((iI_lt (by decide : (-2147483648 : Int) ≤ 0) (by decide : (0 : Int) < 2147483648) a1 a2).mpr r))))
theorem gz_icI_gt (E : gz_E z l' D' tys' cc own Ts nL' R' kb) {x y : Int} {off : Int} {tgt : Nat} (hd : decode cc pc = .ok (.if_icmp .gt off, 3)) (ht : (pc : Int) + off = (tgt : Int)) (a1 : -2147483648 ≤ x) (a2 : x < 2147483648) (b1 : -2147483648 ≤ y) (b2 : y < 2147483648) (kt : y < x → gz_G z ws tgt lv rest) (kf : x ≤ y → gz_G z ws (pc + 3) lv rest) : gz_G z ws pc lv (.int (iI y) :: .int (iI x) :: rest) :=
  gz_icmp_gt E hd ht (fun q => kt ((iI_lt b1 b2 a1 a2).mp q)) (fun q => kf (Int.not_lt.mp (fun r => q ((iI_lt b1 b2 a1 a2).mpr r))))
theorem gz_ifI_le (E : gz_E z l' D' tys' cc own Ts nL' R' kb) {x : Int} {off : Int} {tgt : Nat} (hd : decode cc pc = .ok (.ifCond .le off, 3)) (ht : (pc : Int) + off = (tgt : Int)) (a1 : -2147483648 ≤ x) (a2 : x < 2147483648) (kt : x ≤ 0 → gz_G z ws tgt lv rest) (kf : 0 < x → gz_G z ws (pc + 3) lv rest) : gz_G z ws pc lv (.int (iI x) :: rest) :=
  gz_if_le E hd ht (fun q => kt ((iI_le a1 a2 (by decide : (-2147483648 : Int) ≤ 0) (by decide : (0 : Int) < 2147483648)).mp q)) (fun q => kf (Int.not_le.mp (fun r => q ((iI_le a1 a2 (by decide : (-2147483648 : Int) ≤ 0) (by decide : (0 : Int) < 2147483648)).mpr r))))
theorem gz_icI_le (E : gz_E z l' D' tys' cc own Ts nL' R' kb) {x y : Int} {off : Int} {tgt : Nat} (hd : decode cc pc = .ok (.if_icmp .le off, 3)) (ht : (pc : Int) + off = (tgt : Int)) (a1 : -2147483648 ≤ x) (a2 : x < 2147483648) (b1 : -2147483648 ≤ y) (b2 : y < 2147483648) (kt : x ≤ y → gz_G z ws tgt lv rest) (kf : y < x → gz_G z ws (pc + 3) lv rest) : gz_G z ws pc lv (.int (iI y) :: .int (iI x) :: rest) :=
  gz_icmp_le E hd ht (fun q => kt ((iI_le a1 a2 b1 b2).mp q)) (fun q => kf (Int.not_le.mp (fun r => q ((iI_le a1 a2 b1 b2).mpr r))))
theorem iI_mul (x y : Int) : iI x * iI y = iI (x * y) := (Int32.ofInt_mul x y).symm
theorem iI_sub (x y : Int) : iI x - iI y = iI (x - y) := (Int32.ofInt_sub x y).symm
theorem iI_add (x y : Int) : iI x + iI y = iI (x + y) := (Int32.ofInt_add x y).symm
theorem gz_imulI (E : gz_E z l' D' tys' cc own Ts nL' R' kb) {x y : Int} (hd : decode cc pc = .ok (.imul, 1)) (k : gz_G z ws (pc + 1) lv (.int (iI (x * y)) :: rest)) : gz_G z ws pc lv (.int (iI y) :: .int (iI x) :: rest) := by
  refine gz_imul E hd ?_
  rw [iI_mul]
  exact k
theorem lI_shr {x : Int} (h1 : -9223372036854775808 ≤ x) (h2 : x < 9223372036854775808) {y : Int32} (k : Nat) (hk : k < 63) (hy : ((y.toInt64 &&& 63).toBitVec.smod 64).toNat = k) : lI x >>> (y.toInt64 &&& 63) = lI (x / 2 ^ k) := by
  rw [← Int64.toInt_inj]
  have hp : (0 : Int) < 2 ^ k := Int.pow_pos (by decide)
  have b1 : -9223372036854775808 ≤ x / 2 ^ k := by
    rw [Int.le_ediv_iff_mul_le hp]
    have : (1 : Int) ≤ 2 ^ k := hp
    have := Int.mul_le_mul_of_nonneg_left this (show (0 : Int) ≤ 9223372036854775808 by decide)
    rw [Int.neg_mul]
    omega
  have b2 : x / 2 ^ k < 9223372036854775808 := by
    rw [Int.ediv_lt_iff_lt_mul hp]
    have : (1 : Int) ≤ 2 ^ k := hp
    have := Int.mul_le_mul_of_nonneg_left this (show (0 : Int) ≤ 9223372036854775808 by decide)
    omega
  rw [lI_toInt b1 b2]
  show ((lI x).toBitVec.sshiftRight' ((y.toInt64 &&& 63).toBitVec.smod 64)).toInt = _
  rw [BitVec.toInt_sshiftRight', hy]
  show (lI x).toInt >>> k = _
  rw [lI_toInt h1 h2, Int.shiftRight_eq_div_pow]
  rfl
theorem lI_and {x : Int} (k : Nat) (hk : k < 63) : lI x &&& lI (2 ^ k - 1) = lI (x % 2 ^ k) := by
  apply Int64.toBitVec.inj
  show BitVec.ofInt 64 x &&& BitVec.ofInt 64 (2 ^ k - 1) = BitVec.ofInt 64 (x % 2 ^ k)
  have hp : (0 : Nat) < 2 ^ k := Nat.pow_pos (by decide)
  have hlt : (2 : Nat) ^ k < 2 ^ 64 := Nat.pow_lt_pow_right (by decide) (by omega)
  have e1 : (2 ^ k - 1 : Int) = ((2 ^ k - 1 : Nat) : Int) := by
    rw [Int.natCast_sub hp]
    simp
  apply BitVec.eq_of_toNat_eq
  rw [BitVec.toNat_and, BitVec.toNat_ofInt, BitVec.toNat_ofInt, BitVec.toNat_ofInt, e1]
  have e2 : (((2 ^ k - 1 : Nat) : Int) % ((2 ^ 64 : Nat) : Int)).toNat = 2 ^ k - 1 := by
    rw [Int.emod_eq_of_lt (by omega) (by omega)]
    simp
  rw [e2, Nat.and_two_pow_sub_one_eq_mod]
  have e3 : ((2 ^ k : Nat) : Int) = (2 : Int) ^ k := by simp
  have a0 : 0 ≤ x % ((2 ^ 64 : Nat) : Int) := Int.emod_nonneg _ (by decide)
  have b0 : 0 ≤ x % (2 : Int) ^ k := Int.emod_nonneg _ (by rw [← e3]; omega)
  have b1 : x % (2 : Int) ^ k < ((2 ^ k : Nat) : Int) := by rw [← e3]; exact Int.emod_lt_of_pos _ (by omega)
  apply Int.natCast_inj.mp
  rw [Int.natCast_emod, Int.toNat_of_nonneg a0, Int.toNat_of_nonneg (Int.emod_nonneg _ (by decide)), e3]
  have hd : (2 : Int) ^ k ∣ ((2 ^ 64 : Nat) : Int) := ⟨2 ^ (64 - k), by
    rw [← Int.pow_add]
    have : k + (64 - k) = 64 := by omega
    rw [this]
    rfl⟩
  rw [Int.emod_emod_of_dvd _ hd, Int.emod_eq_of_lt b0 (by omega)]
theorem gz_lshrI (E : gz_E z l' D' tys' cc own Ts nL' R' kb) (k : Nat) {x : Int} (hd : decode cc pc = .ok (.lshr, 1)) (hk : k < 63) (hy : (((nI k).toInt64 &&& 63).toBitVec.smod 64).toNat = k) (h1 : -9223372036854775808 ≤ x) (h2 : x < 9223372036854775808) (kk : gz_G z ws (pc + 1) lv (.long (lI (x / 2 ^ k)) :: rest)) : gz_G z ws pc lv (.int (nI k) :: .long (lI x) :: rest) := by
  refine gz_lshr E hd ?_
  rw [lI_shr h1 h2 k hk hy]
  exact kk
theorem gz_landI (E : gz_E z l' D' tys' cc own Ts nL' R' kb) (k : Nat) {x m : Int} (hd : decode cc pc = .ok (.land, 1)) (hk : k < 63) (hm : m = 2 ^ k - 1) (kk : gz_G z ws (pc + 1) lv (.long (lI (x % 2 ^ k)) :: rest)) : gz_G z ws pc lv (.long (lI m) :: .long (lI x) :: rest) := by
  refine gz_land E hd ?_
  rw [hm, lI_and k hk]
  exact kk
theorem lI_nat {a : Nat} (h : a < 2 ^ 63) : lI (a : Int) = lN a := by
  rw [← Int64.toInt_inj, pk_lT h, lI_toInt (by omega) (by omega)]
theorem lI_rem {a b : Nat} (ha : a < 2 ^ 63) (h0 : 0 < b) (hb : b < 2 ^ 63) : lI (a : Int) - lI (a : Int) / lI (b : Int) * lI (b : Int) = lI ((a % b : Nat) : Int) := by
  rw [lI_nat ha, lI_nat hb, pk_lRem ha h0 hb, lI_nat (Nat.lt_of_le_of_lt (Nat.mod_le _ _) ha)]
theorem lI_ne0 {x : Int} (h1 : -9223372036854775808 ≤ x) (h2 : x < 9223372036854775808) (h : x ≠ 0) : ¬ lI x = 0 := fun q => h ((lI_eq h1 h2 (by decide) (by decide)).mp (q.trans (by decide : (0 : Int64) = lI 0)))
theorem lI_absI {x : Int} (h1 : -9223372036854775807 ≤ x) (h2 : x < 9223372036854775808) : (if 0 < lI x then lI x else - lI x) = lI (x.natAbs : Int) := by
  have e : (0 < lI x) ↔ 0 < x := by
    rw [show (0 : Int64) = lI 0 by decide]
    exact lI_lt (by decide) (by decide) (by omega) h2
  by_cases h : 0 < x
  · rw [if_pos (e.mpr h)]
    congr 1
    omega
  · rw [if_neg (fun q => h (e.mp q)), lI_neg]
    congr 1
    omega
theorem gz_lremN (E : gz_E z l' D' tys' cc own Ts nL' R' kb) {a b : Nat} (hd : decode cc pc = .ok (.lrem, 1)) (ha : a < 2 ^ 63) (h0 : 0 < b) (hb : b < 2 ^ 63) (k : gz_G z ws (pc + 1) lv (.long (lI ((a % b : Nat) : Int)) :: rest)) : gz_G z ws pc lv (.long (lI (b : Int)) :: .long (lI (a : Int)) :: rest) := by
  refine gz_lrem E hd (lI_ne0 (by omega) (by omega) (by omega)) ?_
  rw [lI_rem ha h0 hb]
  exact k
theorem gz_absI (E : gz_E z l' D' tys' cc own Ts nL' R' kb) {index : Nat} {x : Int} (hd : decode cc pc = .ok (.invokestatic index, 3)) (h1 : Cond.methodLink own index Lib.MathLoose.abs_long.x ∈ Ts) (h2 : Cond.static Lib.MathLoose.abs_long.x ∈ Ts) (h3 : Cond.initialized "java/lang/Math" ∈ Ts) (h4 : Cond.code Lib.MathLoose.abs_long.x Lib.MathLoose.abs_long.code 2 (some .long) ∈ Ts) (hf : 1 ≤ R'.frames) (hl : (rest.map fun v => v.category).sum + 13 ≤ R'.locals) (b1 : -9223372036854775807 ≤ x) (b2 : x < 9223372036854775808) (k : gz_G z ws (pc + 3) lv (.long (lI (x.natAbs : Int)) :: rest)) : gz_G z ws pc lv (.long (lI x) :: rest) := by
  obtain ⟨p, l, e, R, s, m, args, below, meth, c, D, tys, A, nL, cells, slots, Q⟩ := z
  obtain ⟨hx, hb, hml, hown, hts, hK, hA, rfl, rfl, rfl, rfl, rfl, hcs, hss⟩ := E
  intro H locs ls hP hD hS h
  refine va_mabs_long hx hb (hml.trans h.1.symm) hown (hts _ h1) (hts _ h2) (hts _ h3) (hts _ h4) hf hl hcs hss hd ?_
  rw [lI_absI b1 b2]
  exact k H locs ls hP hD hS h
theorem gz_ifN_le (E : gz_E z l' D' tys' cc own Ts nL' R' kb) {a : Nat} {off : Int} {tgt : Nat} (hd : decode cc pc = .ok (.ifCond .le off, 3)) (ht : (pc : Int) + off = (tgt : Int)) (ha : a < 2 ^ 31) (kt : a = 0 → gz_G z ws tgt lv rest) (kf : 0 < a → gz_G z ws (pc + 3) lv rest) : gz_G z ws pc lv (.int (nI a) :: rest) :=
  gz_if_le E hd ht (fun q => kt (by rcases Nat.eq_zero_or_pos a with h | h; exact h; exact absurd q (nI_nle h ha))) (fun q => kf (by rcases Nat.eq_zero_or_pos a with h | h; exact absurd (by rw [h, nI_0]; decide) q; exact h))
theorem gz_ifN_gt (E : gz_E z l' D' tys' cc own Ts nL' R' kb) {a : Nat} {off : Int} {tgt : Nat} (hd : decode cc pc = .ok (.ifCond .gt off, 3)) (ht : (pc : Int) + off = (tgt : Int)) (ha : a < 2 ^ 31) (kt : 0 < a → gz_G z ws tgt lv rest) (kf : a = 0 → gz_G z ws (pc + 3) lv rest) : gz_G z ws pc lv (.int (nI a) :: rest) :=
  gz_if_gt E hd ht (fun q => kt (by rcases Nat.eq_zero_or_pos a with h | h; exact absurd q (by rw [h, nI_0]; decide); exact h)) (fun q => kf (by rcases Nat.eq_zero_or_pos a with h | h; exact h; exact absurd (Int32.not_le.mp (nI_nle h ha)) q))
end NR
end
section
/-! the worlds: the class and the reference, as cells over numbers -/
def wC (ad : Nat → Nat) (cI : ClassId) (n : Nat) (X Y : Nat → Int) (tc : Nat) (TT NB RG : Nat → Nat) (rc : Nat) (KT : Nat → Nat) (kc : Nat) (tl : Int) (GR : Nat → Nat) : va_W :=
  [(ad 0, .inr (0, [.ref (ad 1), .ref (ad 2), .int (nI n), .ref (ad 3), .int (nI tc), .ref (ad 4), .ref (ad 5), .int (nI rc), .ref (ad 6), .int (nI kc), .long (lI tl), .ref (ad 7)])),
   (ad 1, .inl (cI, 14, .inl (fun i => iI (X i)))), (ad 2, .inl (cI, 14, .inl (fun i => iI (Y i)))), (ad 3, .inl (cI, 23, .inl (fun i => nI (TT i)))), (ad 4, .inl (cI, 14, .inl (fun i => nI (NB i)))), (ad 5, .inl (cI, 14, .inl (fun i => nI (RG i)))), (ad 6, .inl (cI, 13, .inl (fun i => nI (KT i)))), (ad 7, .inl (cI, 14, .inl (fun i => nI (GR i))))]
def wM (bd : Nat → Nat) (cI cJ : ClassId) (n : Nat) (X Y : Nat → Int) (mc : Nat) (LE MI GE : Nat → Nat) (ec : Nat) (CO : Nat → Nat) (kc : Nat) (LS GT : Nat → Nat) (tl : Int) (GP : Nat → Nat) : va_W :=
  [(bd 0, .inr (1, [.int (nI n), .ref (bd 1), .ref (bd 2), .int (nI mc), .ref (bd 3), .ref (bd 4), .ref (bd 5), .int (nI ec), .ref (bd 6), .int (nI kc), .ref (bd 7), .ref (bd 8), .long (lI tl), .ref (bd 9)])),
   (bd 1, .inl (cJ, 14, .inr (.inl (fun i => lI (X i))))), (bd 2, .inl (cJ, 14, .inr (.inl (fun i => lI (Y i))))), (bd 3, .inl (cI, 40, .inl (fun i => nI (LE i)))), (bd 4, .inl (cI, 40, .inl (fun i => nI (MI i)))), (bd 5, .inl (cI, 40, .inl (fun i => nI (GE i)))), (bd 6, .inl (cI, 14, .inl (fun i => nI (CO i)))), (bd 7, .inl (cI, 14, .inl (fun i => nI (LS i)))), (bd 8, .inl (cI, 14, .inl (fun i => nI (GT i)))), (bd 9, .inl (cI, 14, .inl (fun i => nI (GP i))))]
/-- x is the number of something below n -/
def gz_Ix (x : Int32) (n : Nat) : Prop := ∃ k : Nat, k < n ∧ x = nI k
theorem gz_Ix_t {x : Int32} {n : Nat} (hn : n ≤ 64) (h1 : ¬ x < 0) (h2 : ¬ nI n ≤ x) : gz_Ix x n := ((pk_ix x (n := n) (by omega)).resolve_left h1).resolve_left h2
theorem gz_Ix_f1 {x : Int32} {n : Nat} (hn : n ≤ 64) (h : x < 0) : ¬ gz_Ix x n := fun ⟨k, h1, h2⟩ => nI_pos (n := k) (by omega) (h2 ▸ h)
theorem gz_Ix_f2 {x : Int32} {n : Nat} (hn : n ≤ 64) (h : nI n ≤ x) : ¬ gz_Ix x n := fun ⟨k, h1, h2⟩ => by
  rw [h2, nI_leI (by omega) (by omega)] at h
  omega
theorem gz_Ix_N {k n : Nat} (hk : k < 2 ^ 31) (hn : n < 2 ^ 31) : gz_Ix (nI k) n ↔ k < n := ⟨fun ⟨j, h1, h2⟩ => by rw [nI_eq hk (by omega)] at h2; omega, fun h => ⟨k, h, rfl⟩⟩
end
section
/-! the class: reads of single sites and triangles -/
section CA
variable {l : Launch} {D : va_G} {ad : Nat → Nat} {cI cJ : ClassId} {n tc rc kc : Nat} {X Y : Nat → Int} {TT NB RG KT GR : Nat → Nat} {tl : Int}
abbrev rmX0_xOf : Room := { frames := 0, cells := 0, slots := 0, locals := 0 }
theorem inwX0_xOf : ∀ w ∈ wsX00, w ∈ wsX0_xOf := fun _ h => List.mem_cons_of_mem _ (List.mem_append_right _ h)
set_option maxRecDepth 20000 in
theorem flX0_xOf_16 : Cond.fieldLink RX0 16 RX0 (TX0 2).2.1 (TX0 2).2.2.1 ∈ wsX0_xOf := by decide +kernel
set_option maxRecDepth 20000 in
theorem flX0_xOf_9 : Cond.fieldLink RX0 9 RX0 (TX0 0).2.1 (TX0 0).2.2.1 ∈ wsX0_xOf := by decide +kernel
set_option maxRecDepth 20000 in
set_option maxHeartbeats 4000000 in
theorem mtX0_xOf (SB : pg_ok n X Y) {a : Nat} (ha : a < n) : gz_Kl l yX0_xOf wsX0_xOf rmX0_xOf D [(cI, .int), (cJ, .long)] [.ref (ad 0), .int (nI a)] (wC ad cI n X Y tc TT NB RG rc KT kc tl GR) (fun r w1 => r = lI (X a) ∧ w1 = (wC ad cI n X Y tc TT NB RG rc KT kc tl GR)) := by
  refine gz_ofl (cc := cX0_xOf) (maxL := 2) (own := RX0) (by decide +kernel) rfl rfl rfl (Nat.le_of_ble_eq_true rfl) ?_
  intro z E ret
  have hn := SB.1
  have hB := SB.2.1 a ha
  show gz_G z _ 0 [(0, .ref (ad 0)), (1, .int (nI a))] []
  refine gz_iload_n E dX0_xOf_0 rfl rfl ?_
  refine gz_ifN_lt E dX0_xOf_1 22 (by decide) (by omega) ?_
  refine gz_iload_n E dX0_xOf_4 rfl rfl ?_
  refine gz_aload_n E dX0_xOf_5 rfl rfl ?_
  refine gz_get E inwX0_xOf 0 2 dX0_xOf_6 flX0_xOf_16 rfl rfl (by decide) rfl rfl ?_
  refine gz_icN_ge (tgt := 22) E dX0_xOf_9 (by decide) (by omega) (by omega) (fun q9 => ?_) (fun q9 => ?_)
  · exact absurd q9 (by omega)
  · skip
    refine gz_aload_n E dX0_xOf_12 rfl rfl ?_
    refine gz_get E inwX0_xOf 0 0 dX0_xOf_13 flX0_xOf_9 rfl rfl (by decide) rfl rfl ?_
    refine gz_iload_n E dX0_xOf_16 rfl rfl ?_
    refine gz_ialdN E 1 0 dX0_xOf_17 rfl rfl (by decide) rfl (by omega) ?_
    refine gz_i2lI E dX0_xOf_18 (by omega) (by omega) ?_
    refine gz_goto (tgt := 23) E dX0_xOf_19 (by decide) ?_
    exact ret _ _ _ _ dX0_xOf_23 ⟨rfl, rfl⟩
abbrev rmX0_yOf : Room := { frames := 0, cells := 0, slots := 0, locals := 0 }
theorem inwX0_yOf : ∀ w ∈ wsX00, w ∈ wsX0_yOf := fun _ h => List.mem_cons_of_mem _ (List.mem_append_right _ h)
set_option maxRecDepth 20000 in
theorem flX0_yOf_16 : Cond.fieldLink RX0 16 RX0 (TX0 2).2.1 (TX0 2).2.2.1 ∈ wsX0_yOf := by decide +kernel
set_option maxRecDepth 20000 in
theorem flX0_yOf_13 : Cond.fieldLink RX0 13 RX0 (TX0 1).2.1 (TX0 1).2.2.1 ∈ wsX0_yOf := by decide +kernel
set_option maxRecDepth 20000 in
set_option maxHeartbeats 4000000 in
theorem mtX0_yOf (SB : pg_ok n X Y) {a : Nat} (ha : a < n) : gz_Kl l yX0_yOf wsX0_yOf rmX0_yOf D [(cI, .int), (cJ, .long)] [.ref (ad 0), .int (nI a)] (wC ad cI n X Y tc TT NB RG rc KT kc tl GR) (fun r w1 => r = lI (Y a) ∧ w1 = (wC ad cI n X Y tc TT NB RG rc KT kc tl GR)) := by
  refine gz_ofl (cc := cX0_yOf) (maxL := 2) (own := RX0) (by decide +kernel) rfl rfl rfl (Nat.le_of_ble_eq_true rfl) ?_
  intro z E ret
  have hn := SB.1
  have hB := SB.2.1 a ha
  show gz_G z _ 0 [(0, .ref (ad 0)), (1, .int (nI a))] []
  refine gz_iload_n E dX0_yOf_0 rfl rfl ?_
  refine gz_ifN_lt E dX0_yOf_1 22 (by decide) (by omega) ?_
  refine gz_iload_n E dX0_yOf_4 rfl rfl ?_
  refine gz_aload_n E dX0_yOf_5 rfl rfl ?_
  refine gz_get E inwX0_yOf 0 2 dX0_yOf_6 flX0_yOf_16 rfl rfl (by decide) rfl rfl ?_
  refine gz_icN_ge (tgt := 22) E dX0_yOf_9 (by decide) (by omega) (by omega) (fun q9 => ?_) (fun q9 => ?_)
  · exact absurd q9 (by omega)
  · skip
    refine gz_aload_n E dX0_yOf_12 rfl rfl ?_
    refine gz_get E inwX0_yOf 0 1 dX0_yOf_13 flX0_yOf_13 rfl rfl (by decide) rfl rfl ?_
    refine gz_iload_n E dX0_yOf_16 rfl rfl ?_
    refine gz_ialdN E 2 0 dX0_yOf_17 rfl rfl (by decide) rfl (by omega) ?_
    refine gz_i2lI E dX0_yOf_18 (by omega) (by omega) ?_
    refine gz_goto (tgt := 23) E dX0_yOf_19 (by decide) ?_
    exact ret _ _ _ _ dX0_yOf_23 ⟨rfl, rfl⟩
abbrev rmX0_turn : Room := { frames := 1, cells := 0, slots := 0, locals := 21 }
set_option maxRecDepth 20000 in
set_option maxHeartbeats 4000000 in
theorem mtX0_turn (SB : pg_ok n X Y) {a b c : Nat} (ha : a < n) (hb : b < n) (hc : c < n) : gz_Kl l yX0_turn wsX0_turn rmX0_turn D [(cI, .int), (cJ, .long)] [.ref (ad 0), .int (nI a), .int (nI b), .int (nI c)] (wC ad cI n X Y tc TT NB RG rc KT kc tl GR) (fun r w1 => r = lI (pg_tn X Y a b c) ∧ w1 = (wC ad cI n X Y tc TT NB RG rc KT kc tl GR)) := by
  refine gz_ofl (cc := cX0_turn) (maxL := 4) (own := RX0) (by decide +kernel) rfl rfl rfl (Nat.le_of_ble_eq_true rfl) ?_
  intro z E ret
  show gz_G z _ 0 [(0, .ref (ad 0)), (1, .int (nI a)), (2, .int (nI b)), (3, .int (nI c))] []
  refine gz_aload_n E dX0_turn_0 rfl rfl ?_
  refine gz_iload_n E dX0_turn_1 rfl rfl ?_
  refine gz_call (n := 1) E 0 dX0_turn_2 gX0_turn_X0_xOf (mtX0_xOf SB (by assumption)) rfl rfl ⟨rfl, rfl⟩ (by decide +kernel) ⟨Nat.le_of_ble_eq_true rfl, Nat.le_of_ble_eq_true rfl⟩ rfl rfl rfl rfl (Nat.le_of_ble_eq_true rfl) (fun r2 w2 hr2 => ?_)
  obtain ⟨rfl, rfl⟩ := hr2
  refine gz_aload_n E dX0_turn_5 rfl rfl ?_
  refine gz_iload_n E dX0_turn_6 rfl rfl ?_
  refine gz_call (n := 1) E 0 dX0_turn_7 gX0_turn_X0_xOf (mtX0_xOf SB (by assumption)) rfl rfl ⟨rfl, rfl⟩ (by decide +kernel) ⟨Nat.le_of_ble_eq_true rfl, Nat.le_of_ble_eq_true rfl⟩ rfl rfl rfl rfl (Nat.le_of_ble_eq_true rfl) (fun r7 w7 hr7 => ?_)
  obtain ⟨rfl, rfl⟩ := hr7
  refine gz_lsubL E dX0_turn_10 ?_
  refine gz_aload_n E dX0_turn_11 rfl rfl ?_
  refine gz_iload_n E dX0_turn_12 rfl rfl ?_
  refine gz_call (n := 1) E 0 dX0_turn_13 gX0_turn_X0_yOf (mtX0_yOf SB (by assumption)) rfl rfl ⟨rfl, rfl⟩ (by decide +kernel) ⟨Nat.le_of_ble_eq_true rfl, Nat.le_of_ble_eq_true rfl⟩ rfl rfl rfl rfl (Nat.le_of_ble_eq_true rfl) (fun r13 w13 hr13 => ?_)
  obtain ⟨rfl, rfl⟩ := hr13
  refine gz_aload_n E dX0_turn_16 rfl rfl ?_
  refine gz_iload_n E dX0_turn_17 rfl rfl ?_
  refine gz_call (n := 1) E 0 dX0_turn_18 gX0_turn_X0_yOf (mtX0_yOf SB (by assumption)) rfl rfl ⟨rfl, rfl⟩ (by decide +kernel) ⟨Nat.le_of_ble_eq_true rfl, Nat.le_of_ble_eq_true rfl⟩ rfl rfl rfl rfl (Nat.le_of_ble_eq_true rfl) (fun r18 w18 hr18 => ?_)
  obtain ⟨rfl, rfl⟩ := hr18
  refine gz_lsubL E dX0_turn_21 ?_
  refine gz_lmulL E dX0_turn_22 ?_
  refine gz_aload_n E dX0_turn_23 rfl rfl ?_
  refine gz_iload_n E dX0_turn_24 rfl rfl ?_
  refine gz_call (n := 1) E 0 dX0_turn_25 gX0_turn_X0_yOf (mtX0_yOf SB (by assumption)) rfl rfl ⟨rfl, rfl⟩ (by decide +kernel) ⟨Nat.le_of_ble_eq_true rfl, Nat.le_of_ble_eq_true rfl⟩ rfl rfl rfl rfl (Nat.le_of_ble_eq_true rfl) (fun r25 w25 hr25 => ?_)
  obtain ⟨rfl, rfl⟩ := hr25
  refine gz_aload_n E dX0_turn_28 rfl rfl ?_
  refine gz_iload_n E dX0_turn_29 rfl rfl ?_
  refine gz_call (n := 1) E 0 dX0_turn_30 gX0_turn_X0_yOf (mtX0_yOf SB (by assumption)) rfl rfl ⟨rfl, rfl⟩ (by decide +kernel) ⟨Nat.le_of_ble_eq_true rfl, Nat.le_of_ble_eq_true rfl⟩ rfl rfl rfl rfl (Nat.le_of_ble_eq_true rfl) (fun r30 w30 hr30 => ?_)
  obtain ⟨rfl, rfl⟩ := hr30
  refine gz_lsubL E dX0_turn_33 ?_
  refine gz_aload_n E dX0_turn_34 rfl rfl ?_
  refine gz_iload_n E dX0_turn_35 rfl rfl ?_
  refine gz_call (n := 1) E 0 dX0_turn_36 gX0_turn_X0_xOf (mtX0_xOf SB (by assumption)) rfl rfl ⟨rfl, rfl⟩ (by decide +kernel) ⟨Nat.le_of_ble_eq_true rfl, Nat.le_of_ble_eq_true rfl⟩ rfl rfl rfl rfl (Nat.le_of_ble_eq_true rfl) (fun r36 w36 hr36 => ?_)
  obtain ⟨rfl, rfl⟩ := hr36
  refine gz_aload_n E dX0_turn_39 rfl rfl ?_
  refine gz_iload_n E dX0_turn_40 rfl rfl ?_
  refine gz_call (n := 1) E 0 dX0_turn_41 gX0_turn_X0_xOf (mtX0_xOf SB (by assumption)) rfl rfl ⟨rfl, rfl⟩ (by decide +kernel) ⟨Nat.le_of_ble_eq_true rfl, Nat.le_of_ble_eq_true rfl⟩ rfl rfl rfl rfl (Nat.le_of_ble_eq_true rfl) (fun r41 w41 hr41 => ?_)
  obtain ⟨rfl, rfl⟩ := hr41
  refine gz_lsubL E dX0_turn_44 ?_
  refine gz_lmulL E dX0_turn_45 ?_
  refine gz_lsubL E dX0_turn_46 ?_
  exact ret _ _ _ _ dX0_turn_47 ⟨rfl, rfl⟩
abbrev rmX0_gap : Room := { frames := 1, cells := 0, slots := 0, locals := 21 }
set_option maxRecDepth 20000 in
set_option maxHeartbeats 4000000 in
theorem mtX0_gap (SB : pg_ok n X Y) {a b : Nat} (ha : a < n) (hb : b < n) : gz_Kl l yX0_gap wsX0_gap rmX0_gap D [(cI, .int), (cJ, .long)] [.ref (ad 0), .int (nI a), .int (nI b)] (wC ad cI n X Y tc TT NB RG rc KT kc tl GR) (fun r w1 => r = lI (pg_gp X Y a b) ∧ w1 = (wC ad cI n X Y tc TT NB RG rc KT kc tl GR)) := by
  refine gz_ofl (cc := cX0_gap) (maxL := 7) (own := RX0) (by decide +kernel) rfl rfl rfl (Nat.le_of_ble_eq_true rfl) ?_
  intro z E ret
  show gz_G z _ 0 [(0, .ref (ad 0)), (1, .int (nI a)), (2, .int (nI b))] []
  refine gz_aload_n E dX0_gap_0 rfl rfl ?_
  refine gz_iload_n E dX0_gap_1 rfl rfl ?_
  refine gz_call (n := 1) E 0 dX0_gap_2 gX0_gap_X0_xOf (mtX0_xOf SB (by assumption)) rfl rfl ⟨rfl, rfl⟩ (by decide +kernel) ⟨Nat.le_of_ble_eq_true rfl, Nat.le_of_ble_eq_true rfl⟩ rfl rfl rfl rfl (Nat.le_of_ble_eq_true rfl) (fun r2 w2 hr2 => ?_)
  obtain ⟨rfl, rfl⟩ := hr2
  refine gz_aload_n E dX0_gap_5 rfl rfl ?_
  refine gz_iload_n E dX0_gap_6 rfl rfl ?_
  refine gz_call (n := 1) E 0 dX0_gap_7 gX0_gap_X0_xOf (mtX0_xOf SB (by assumption)) rfl rfl ⟨rfl, rfl⟩ (by decide +kernel) ⟨Nat.le_of_ble_eq_true rfl, Nat.le_of_ble_eq_true rfl⟩ rfl rfl rfl rfl (Nat.le_of_ble_eq_true rfl) (fun r7 w7 hr7 => ?_)
  obtain ⟨rfl, rfl⟩ := hr7
  refine gz_lsubL E dX0_gap_10 ?_
  refine gz_lstore_n (lv' := [(0, _), (1, _), (2, _), (3, _)]) E dX0_gap_11 rfl (by decide) rfl ?_
  refine gz_aload_n E dX0_gap_12 rfl rfl ?_
  refine gz_iload_n E dX0_gap_13 rfl rfl ?_
  refine gz_call (n := 1) E 0 dX0_gap_14 gX0_gap_X0_yOf (mtX0_yOf SB (by assumption)) rfl rfl ⟨rfl, rfl⟩ (by decide +kernel) ⟨Nat.le_of_ble_eq_true rfl, Nat.le_of_ble_eq_true rfl⟩ rfl rfl rfl rfl (Nat.le_of_ble_eq_true rfl) (fun r14 w14 hr14 => ?_)
  obtain ⟨rfl, rfl⟩ := hr14
  refine gz_aload_n E dX0_gap_17 rfl rfl ?_
  refine gz_iload_n E dX0_gap_18 rfl rfl ?_
  refine gz_call (n := 1) E 0 dX0_gap_19 gX0_gap_X0_yOf (mtX0_yOf SB (by assumption)) rfl rfl ⟨rfl, rfl⟩ (by decide +kernel) ⟨Nat.le_of_ble_eq_true rfl, Nat.le_of_ble_eq_true rfl⟩ rfl rfl rfl rfl (Nat.le_of_ble_eq_true rfl) (fun r19 w19 hr19 => ?_)
  obtain ⟨rfl, rfl⟩ := hr19
  refine gz_lsubL E dX0_gap_22 ?_
  refine gz_lstore (lv' := [(0, _), (1, _), (2, _), (3, _), (5, _)]) E dX0_gap_23 (by decide) rfl ?_
  refine gz_lload_n E dX0_gap_25 rfl rfl ?_
  refine gz_lload_n E dX0_gap_26 rfl rfl ?_
  refine gz_lmulL E dX0_gap_27 ?_
  refine gz_lload E dX0_gap_28 rfl ?_
  refine gz_lload E dX0_gap_30 rfl ?_
  refine gz_lmulL E dX0_gap_32 ?_
  refine gz_laddL E dX0_gap_33 ?_
  exact ret _ _ _ _ dX0_gap_34 ⟨rfl, rfl⟩
abbrev rmX0_dot : Room := { frames := 1, cells := 0, slots := 0, locals := 21 }
set_option maxRecDepth 20000 in
set_option maxHeartbeats 4000000 in
theorem mtX0_dot (SB : pg_ok n X Y) {m a b : Nat} (hm : m < n) (ha : a < n) (hb : b < n) : gz_Kl l yX0_dot wsX0_dot rmX0_dot D [(cI, .int), (cJ, .long)] [.ref (ad 0), .int (nI m), .int (nI a), .int (nI b)] (wC ad cI n X Y tc TT NB RG rc KT kc tl GR) (fun r w1 => r = lI (pg_dt X Y m a b) ∧ w1 = (wC ad cI n X Y tc TT NB RG rc KT kc tl GR)) := by
  refine gz_ofl (cc := cX0_dot) (maxL := 4) (own := RX0) (by decide +kernel) rfl rfl rfl (Nat.le_of_ble_eq_true rfl) ?_
  intro z E ret
  show gz_G z _ 0 [(0, .ref (ad 0)), (1, .int (nI m)), (2, .int (nI a)), (3, .int (nI b))] []
  refine gz_aload_n E dX0_dot_0 rfl rfl ?_
  refine gz_iload_n E dX0_dot_1 rfl rfl ?_
  refine gz_call (n := 1) E 0 dX0_dot_2 gX0_dot_X0_xOf (mtX0_xOf SB (by assumption)) rfl rfl ⟨rfl, rfl⟩ (by decide +kernel) ⟨Nat.le_of_ble_eq_true rfl, Nat.le_of_ble_eq_true rfl⟩ rfl rfl rfl rfl (Nat.le_of_ble_eq_true rfl) (fun r2 w2 hr2 => ?_)
  obtain ⟨rfl, rfl⟩ := hr2
  refine gz_aload_n E dX0_dot_5 rfl rfl ?_
  refine gz_iload_n E dX0_dot_6 rfl rfl ?_
  refine gz_call (n := 1) E 0 dX0_dot_7 gX0_dot_X0_xOf (mtX0_xOf SB (by assumption)) rfl rfl ⟨rfl, rfl⟩ (by decide +kernel) ⟨Nat.le_of_ble_eq_true rfl, Nat.le_of_ble_eq_true rfl⟩ rfl rfl rfl rfl (Nat.le_of_ble_eq_true rfl) (fun r7 w7 hr7 => ?_)
  obtain ⟨rfl, rfl⟩ := hr7
  refine gz_lsubL E dX0_dot_10 ?_
  refine gz_aload_n E dX0_dot_11 rfl rfl ?_
  refine gz_iload_n E dX0_dot_12 rfl rfl ?_
  refine gz_call (n := 1) E 0 dX0_dot_13 gX0_dot_X0_xOf (mtX0_xOf SB (by assumption)) rfl rfl ⟨rfl, rfl⟩ (by decide +kernel) ⟨Nat.le_of_ble_eq_true rfl, Nat.le_of_ble_eq_true rfl⟩ rfl rfl rfl rfl (Nat.le_of_ble_eq_true rfl) (fun r13 w13 hr13 => ?_)
  obtain ⟨rfl, rfl⟩ := hr13
  refine gz_aload_n E dX0_dot_16 rfl rfl ?_
  refine gz_iload_n E dX0_dot_17 rfl rfl ?_
  refine gz_call (n := 1) E 0 dX0_dot_18 gX0_dot_X0_xOf (mtX0_xOf SB (by assumption)) rfl rfl ⟨rfl, rfl⟩ (by decide +kernel) ⟨Nat.le_of_ble_eq_true rfl, Nat.le_of_ble_eq_true rfl⟩ rfl rfl rfl rfl (Nat.le_of_ble_eq_true rfl) (fun r18 w18 hr18 => ?_)
  obtain ⟨rfl, rfl⟩ := hr18
  refine gz_lsubL E dX0_dot_21 ?_
  refine gz_lmulL E dX0_dot_22 ?_
  refine gz_aload_n E dX0_dot_23 rfl rfl ?_
  refine gz_iload_n E dX0_dot_24 rfl rfl ?_
  refine gz_call (n := 1) E 0 dX0_dot_25 gX0_dot_X0_yOf (mtX0_yOf SB (by assumption)) rfl rfl ⟨rfl, rfl⟩ (by decide +kernel) ⟨Nat.le_of_ble_eq_true rfl, Nat.le_of_ble_eq_true rfl⟩ rfl rfl rfl rfl (Nat.le_of_ble_eq_true rfl) (fun r25 w25 hr25 => ?_)
  obtain ⟨rfl, rfl⟩ := hr25
  refine gz_aload_n E dX0_dot_28 rfl rfl ?_
  refine gz_iload_n E dX0_dot_29 rfl rfl ?_
  refine gz_call (n := 1) E 0 dX0_dot_30 gX0_dot_X0_yOf (mtX0_yOf SB (by assumption)) rfl rfl ⟨rfl, rfl⟩ (by decide +kernel) ⟨Nat.le_of_ble_eq_true rfl, Nat.le_of_ble_eq_true rfl⟩ rfl rfl rfl rfl (Nat.le_of_ble_eq_true rfl) (fun r30 w30 hr30 => ?_)
  obtain ⟨rfl, rfl⟩ := hr30
  refine gz_lsubL E dX0_dot_33 ?_
  refine gz_aload_n E dX0_dot_34 rfl rfl ?_
  refine gz_iload_n E dX0_dot_35 rfl rfl ?_
  refine gz_call (n := 1) E 0 dX0_dot_36 gX0_dot_X0_yOf (mtX0_yOf SB (by assumption)) rfl rfl ⟨rfl, rfl⟩ (by decide +kernel) ⟨Nat.le_of_ble_eq_true rfl, Nat.le_of_ble_eq_true rfl⟩ rfl rfl rfl rfl (Nat.le_of_ble_eq_true rfl) (fun r36 w36 hr36 => ?_)
  obtain ⟨rfl, rfl⟩ := hr36
  refine gz_aload_n E dX0_dot_39 rfl rfl ?_
  refine gz_iload_n E dX0_dot_40 rfl rfl ?_
  refine gz_call (n := 1) E 0 dX0_dot_41 gX0_dot_X0_yOf (mtX0_yOf SB (by assumption)) rfl rfl ⟨rfl, rfl⟩ (by decide +kernel) ⟨Nat.le_of_ble_eq_true rfl, Nat.le_of_ble_eq_true rfl⟩ rfl rfl rfl rfl (Nat.le_of_ble_eq_true rfl) (fun r41 w41 hr41 => ?_)
  obtain ⟨rfl, rfl⟩ := hr41
  refine gz_lsubL E dX0_dot_44 ?_
  refine gz_lmulL E dX0_dot_45 ?_
  refine gz_laddL E dX0_dot_46 ?_
  exact ret _ _ _ _ dX0_dot_47 ⟨rfl, rfl⟩
abbrev rmX0_isSite : Room := { frames := 0, cells := 0, slots := 0, locals := 0 }
theorem inwX0_isSite : ∀ w ∈ wsX00, w ∈ wsX0_isSite := fun _ h => List.mem_cons_of_mem _ (List.mem_append_right _ h)
set_option maxRecDepth 20000 in
theorem flX0_isSite_16 : Cond.fieldLink RX0 16 RX0 (TX0 2).2.1 (TX0 2).2.2.1 ∈ wsX0_isSite := by decide +kernel
set_option maxRecDepth 20000 in
set_option maxHeartbeats 4000000 in
theorem mtX0_isSite (hn : n ≤ 14) (x : Int32) : gz_Ki l yX0_isSite wsX0_isSite rmX0_isSite D [(cI, .int), (cJ, .long)] [.ref (ad 0), .int x] (wC ad cI n X Y tc TT NB RG rc KT kc tl GR) (fun r w1 => gz_B r (gz_Ix x n) ∧ w1 = (wC ad cI n X Y tc TT NB RG rc KT kc tl GR)) := by
  refine gz_ofi (cc := cX0_isSite) (maxL := 2) (own := RX0) (by decide +kernel) rfl rfl rfl (Nat.le_of_ble_eq_true rfl) ?_
  intro z E ret
  show gz_G z _ 0 [(0, .ref (ad 0)), (1, .int x)] []
  refine gz_iload_n E dX0_isSite_0 rfl rfl ?_
  refine gz_if_lt (tgt := 16) E dX0_isSite_1 (by decide) (fun q1 => ?_) (fun q1 => ?_)
  · skip
    refine gz_iconst (v := 0) E dX0_isSite_16 (by decide) ?_
    exact ret _ _ _ _ dX0_isSite_17 rfl ⟨by first | exact gz_B_t (gz_Ix_t (by omega) (by assumption) (by assumption)) | exact gz_B_f (gz_Ix_f1 (by omega) (by assumption)) | exact gz_B_f (gz_Ix_f2 (by omega) (by assumption)), rfl⟩
  · skip
    refine gz_iload_n E dX0_isSite_4 rfl rfl ?_
    refine gz_aload_n E dX0_isSite_5 rfl rfl ?_
    refine gz_get E inwX0_isSite 0 2 dX0_isSite_6 flX0_isSite_16 rfl rfl (by decide) rfl rfl ?_
    refine gz_icmp_ge (tgt := 16) E dX0_isSite_9 (by decide) (fun q9 => ?_) (fun q9 => ?_)
    · skip
      refine gz_iconst (v := 0) E dX0_isSite_16 (by decide) ?_
      exact ret _ _ _ _ dX0_isSite_17 rfl ⟨by first | exact gz_B_t (gz_Ix_t (by omega) (by assumption) (by assumption)) | exact gz_B_f (gz_Ix_f1 (by omega) (by assumption)) | exact gz_B_f (gz_Ix_f2 (by omega) (by assumption)), rfl⟩
    · skip
      refine gz_iconst (v := 1) E dX0_isSite_12 (by decide) ?_
      refine gz_goto (tgt := 17) E dX0_isSite_13 (by decide) ?_
      exact ret _ _ _ _ dX0_isSite_17 rfl ⟨by first | exact gz_B_t (gz_Ix_t (by omega) (by assumption) (by assumption)) | exact gz_B_f (gz_Ix_f1 (by omega) (by assumption)) | exact gz_B_f (gz_Ix_f2 (by omega) (by assumption)), rfl⟩
abbrev rmX0_isTriangle : Room := { frames := 0, cells := 0, slots := 0, locals := 0 }
theorem inwX0_isTriangle : ∀ w ∈ wsX00, w ∈ wsX0_isTriangle := fun _ h => List.mem_cons_of_mem _ (List.mem_append_right _ h)
set_option maxRecDepth 20000 in
theorem flX0_isTriangle_23 : Cond.fieldLink RX0 23 RX0 (TX0 4).2.1 (TX0 4).2.2.1 ∈ wsX0_isTriangle := by decide +kernel
set_option maxRecDepth 20000 in
set_option maxHeartbeats 4000000 in
theorem mtX0_isTriangle (hn : tc ≤ 23) (x : Int32) : gz_Ki l yX0_isTriangle wsX0_isTriangle rmX0_isTriangle D [(cI, .int), (cJ, .long)] [.ref (ad 0), .int x] (wC ad cI n X Y tc TT NB RG rc KT kc tl GR) (fun r w1 => gz_B r (gz_Ix x tc) ∧ w1 = (wC ad cI n X Y tc TT NB RG rc KT kc tl GR)) := by
  refine gz_ofi (cc := cX0_isTriangle) (maxL := 2) (own := RX0) (by decide +kernel) rfl rfl rfl (Nat.le_of_ble_eq_true rfl) ?_
  intro z E ret
  show gz_G z _ 0 [(0, .ref (ad 0)), (1, .int x)] []
  refine gz_iload_n E dX0_isTriangle_0 rfl rfl ?_
  refine gz_if_lt (tgt := 16) E dX0_isTriangle_1 (by decide) (fun q1 => ?_) (fun q1 => ?_)
  · skip
    refine gz_iconst (v := 0) E dX0_isTriangle_16 (by decide) ?_
    exact ret _ _ _ _ dX0_isTriangle_17 rfl ⟨by first | exact gz_B_t (gz_Ix_t (by omega) (by assumption) (by assumption)) | exact gz_B_f (gz_Ix_f1 (by omega) (by assumption)) | exact gz_B_f (gz_Ix_f2 (by omega) (by assumption)), rfl⟩
  · skip
    refine gz_iload_n E dX0_isTriangle_4 rfl rfl ?_
    refine gz_aload_n E dX0_isTriangle_5 rfl rfl ?_
    refine gz_get E inwX0_isTriangle 0 4 dX0_isTriangle_6 flX0_isTriangle_23 rfl rfl (by decide) rfl rfl ?_
    refine gz_icmp_ge (tgt := 16) E dX0_isTriangle_9 (by decide) (fun q9 => ?_) (fun q9 => ?_)
    · skip
      refine gz_iconst (v := 0) E dX0_isTriangle_16 (by decide) ?_
      exact ret _ _ _ _ dX0_isTriangle_17 rfl ⟨by first | exact gz_B_t (gz_Ix_t (by omega) (by assumption) (by assumption)) | exact gz_B_f (gz_Ix_f1 (by omega) (by assumption)) | exact gz_B_f (gz_Ix_f2 (by omega) (by assumption)), rfl⟩
    · skip
      refine gz_iconst (v := 1) E dX0_isTriangle_12 (by decide) ?_
      refine gz_goto (tgt := 17) E dX0_isTriangle_13 (by decide) ?_
      exact ret _ _ _ _ dX0_isTriangle_17 rfl ⟨by first | exact gz_B_t (gz_Ix_t (by omega) (by assumption) (by assumption)) | exact gz_B_f (gz_Ix_f1 (by omega) (by assumption)) | exact gz_B_f (gz_Ix_f2 (by omega) (by assumption)), rfl⟩
end CA
end
section
/-! when a triangle is due, as both programs ask it; bounds -/
section PD
variable {X Y : Nat → Int} {n : Nat}
theorem pg_mulb {a b A B : Int} (h1 : -A ≤ a) (h2 : a ≤ A) (h3 : -B ≤ b) (h4 : b ≤ B) : -(A * B) ≤ a * b ∧ a * b ≤ A * B := by
  have hA : 0 ≤ A := by omega
  have hB : 0 ≤ B := by omega
  have e1 := Int.mul_nonneg (show 0 ≤ A - a by omega) (show 0 ≤ B + b by omega)
  have e2 := Int.mul_nonneg (show 0 ≤ A + a by omega) (show 0 ≤ B - b by omega)
  have e3 := Int.mul_nonneg (show 0 ≤ A - a by omega) (show 0 ≤ B - b by omega)
  have e4 := Int.mul_nonneg (show 0 ≤ A + a by omega) (show 0 ≤ B + b by omega)
  have f1 : (A - a) * (B + b) = A * B + A * b - a * B - a * b := by grind
  have f2 : (A + a) * (B - b) = A * B - A * b + a * B - a * b := by grind
  have f3 : (A - a) * (B - b) = A * B - A * b - a * B + a * b := by grind
  have f4 : (A + a) * (B + b) = A * B + A * b + a * B + a * b := by grind
  omega
theorem pg_tn_b (h : pg_ok n X Y) {a b c : Nat} (ha : a < n) (hb : b < n) (hc : c < n) : -7200000000 ≤ pg_tn X Y a b c ∧ pg_tn X Y a b c ≤ 7200000000 := by
  have a1 := h.2.1 a ha
  have b1 := h.2.1 b hb
  have c1 := h.2.1 c hc
  have m1 := pg_mulb (a := X b - X a) (b := Y c - Y a) (A := 60000) (B := 60000) (by omega) (by omega) (by omega) (by omega)
  have m2 := pg_mulb (a := Y b - Y a) (b := X c - X a) (A := 60000) (B := 60000) (by omega) (by omega) (by omega) (by omega)
  unfold pg_tn
  omega
theorem pg_gp_b (h : pg_ok n X Y) {a b : Nat} (ha : a < n) (hb : b < n) : 0 ≤ pg_gp X Y a b ∧ pg_gp X Y a b ≤ 7200000000 := by
  have a1 := h.2.1 a ha
  have b1 := h.2.1 b hb
  have m1 := pg_mulb (a := X b - X a) (b := X b - X a) (A := 60000) (B := 60000) (by omega) (by omega) (by omega) (by omega)
  have m2 := pg_mulb (a := Y b - Y a) (b := Y b - Y a) (A := 60000) (B := 60000) (by omega) (by omega) (by omega) (by omega)
  have s1 := pg_sqn (X b - X a) (Y b - Y a)
  unfold pg_gp
  omega
theorem pg_dt_b (h : pg_ok n X Y) {a b c : Nat} (ha : a < n) (hb : b < n) (hc : c < n) : -7200000000 ≤ pg_dt X Y a b c ∧ pg_dt X Y a b c ≤ 7200000000 := by
  have a1 := h.2.1 a ha
  have b1 := h.2.1 b hb
  have c1 := h.2.1 c hc
  have m1 := pg_mulb (a := X b - X a) (b := X c - X a) (A := 60000) (B := 60000) (by omega) (by omega) (by omega) (by omega)
  have m2 := pg_mulb (a := Y b - Y a) (b := Y c - Y a) (A := 60000) (B := 60000) (by omega) (by omega) (by omega) (by omega)
  unfold pg_dt
  omega
theorem pg_gp_s (a b : Nat) : pg_gp X Y a b = pg_gp X Y b a := by unfold pg_gp; grind
theorem pg_gp_pos (h : pg_ok n X Y) {a b : Nat} (ha : a < n) (hb : b < n) (hne : a ≠ b) : 0 < pg_gp X Y a b := by
  unfold pg_gp
  exact pg_sqp fun q => hne (h.2.2 a b ha hb (by omega) (by omega))
/-- four sites on a circle: no three of them in line -/
theorem pg_cc (h : pg_ok n X Y) {a b c d : Nat} (hb : b < n) (hc : c < n) (hd : d < n) (ht : pg_tn X Y a b c ≠ 0) (hi : pg_ic X Y a b c d = 0) (n1 : d ≠ b) (n2 : d ≠ c) : pg_tn X Y b c d ≠ 0 := by
  intro hz
  have hbc : b ≠ c := fun e => ht (by rw [e]; exact pg_tn_abb _ _)
  -- base b: C = c - b, D = d - b; in line: D = 0, or C = D
  have e1 : pg_gp X Y b c * pg_tn X Y b c d = 0 := by rw [hz, Int.mul_zero]
  have key : pg_ic X Y a b c d * pg_gp X Y b c = pg_tn X Y a b c * ((X d - X b) * (X d - X c) + (Y d - Y b) * (Y d - Y c)) * -(pg_gp X Y b c) + pg_tn X Y b c d * (pg_ic X Y a b c d * 0 + pg_gp X Y b c * ((X a - X b) * (X a - X c) + (Y a - Y b) * (Y a - Y c))) := by
    unfold pg_ic pg_gp pg_tn; grind
  rw [hi, hz, Int.zero_mul, Int.zero_mul, Int.add_zero] at key
  have gpos := pg_gp_pos h hb hc hbc
  rcases Int.mul_eq_zero.mp key.symm with q | q
  · rcases Int.mul_eq_zero.mp q with q | q
    · exact ht q
    · -- (d - b).(d - c) = 0 and in line
      have s1 : pg_tn X Y b c d * pg_tn X Y b c d = pg_gp X Y b d * pg_gp X Y d c - ((X d - X b) * (X d - X c) + (Y d - Y b) * (Y d - Y c)) * ((X d - X b) * (X d - X c) + (Y d - Y b) * (Y d - Y c)) := by unfold pg_gp pg_tn; grind
      rw [hz, q] at s1
      have g1 := pg_gp_pos h hb hd (fun e => n1 e.symm)
      have g2 := pg_gp_pos h hd hc n2
      have := Int.mul_pos g1 g2
      omega
  · omega
/-- what both programs ask of each further site d -/
def pg_Q (X Y : Nat → Int) (a b c d : Nat) : Prop := d = a ∨ d = b ∨ d = c ∨ (0 < pg_tn X Y a b c ∧ pg_ic X Y a b c d < 0) ∨ (pg_tn X Y a b c < 0 ∧ 0 < pg_ic X Y a b c d) ∨ (pg_ic X Y a b c d = 0 ∧ a < d ∧ ((0 < pg_tn X Y a b c ∧ 0 < pg_tn X Y b c d) ∨ (pg_tn X Y a b c < 0 ∧ pg_tn X Y b c d < 0)))
theorem pg_Q_TR {a b c : Nat} (hab : a < b) (hbc : b < c) (hc : c < n) : (pg_tn X Y a b c ≠ 0 ∧ ∀ d, d < n → pg_Q X Y a b c d) ↔ pg_TR n X Y (a, b, c) := by
  constructor
  · intro ⟨ht, hd⟩
    refine ⟨hab, hbc, ?_⟩
    show pg_DT n X Y a b c ∨ pg_DT n X Y a c b
    rcases Int.lt_or_gt_of_ne ht with t | t
    · refine Or.inr ⟨by omega, by omega, by omega, by have := pg_tn_s23 (X := X) (Y := Y) a b c; omega, fun x hx n1 n2 n3 => ?_⟩
      have e := pg_ic_s23 (X := X) (Y := Y) a b c x
      have e2 := pg_tn_s12 (X := X) (Y := Y) b c x
      rcases hd x hx with q | q | q | q | q | q
      · exact absurd q n1
      · exact absurd q n3
      · exact absurd q n2
      · omega
      · exact Or.inl (by omega)
      · exact Or.inr ⟨by omega, fun _ _ => ⟨q.2.1, by omega⟩, fun _ _ => by omega, fun _ _ => by omega⟩
    · refine Or.inl ⟨by omega, by omega, by omega, t, fun x hx n1 n2 n3 => ?_⟩
      rcases hd x hx with q | q | q | q | q | q
      · exact absurd q n1
      · exact absurd q n2
      · exact absurd q n3
      · exact Or.inl q.2
      · omega
      · exact Or.inr ⟨by omega, fun _ _ => ⟨q.2.1, by omega⟩, fun _ _ => by omega, fun _ _ => by omega⟩
  · intro h0
    obtain ⟨-, -, h⟩ := h0
    replace h : pg_DT n X Y a b c ∨ pg_DT n X Y a c b := h
    rcases h with h | h
    · have t : 0 < pg_tn X Y a b c := h.2.2.2.1
      refine ⟨by omega, fun d hd => ?_⟩
      by_cases n1 : d = a
      · exact Or.inl n1
      by_cases n2 : d = b
      · exact Or.inr (Or.inl n2)
      by_cases n3 : d = c
      · exact Or.inr (Or.inr (Or.inl n3))
      rcases h.2.2.2.2 d hd n1 n2 n3 with q | ⟨q, f⟩
      · exact Or.inr (Or.inr (Or.inr (Or.inl ⟨t, q⟩)))
      · have g := f.1 hab (by omega : a < c)
        exact Or.inr (Or.inr (Or.inr (Or.inr (Or.inr ⟨q, g.1, Or.inl ⟨t, g.2⟩⟩))))
    · have t0 : 0 < pg_tn X Y a c b := h.2.2.2.1
      have e0 := pg_tn_s23 (X := X) (Y := Y) a b c
      have t : pg_tn X Y a b c < 0 := by omega
      refine ⟨by omega, fun d hd => ?_⟩
      by_cases n1 : d = a
      · exact Or.inl n1
      by_cases n2 : d = b
      · exact Or.inr (Or.inl n2)
      by_cases n3 : d = c
      · exact Or.inr (Or.inr (Or.inl n3))
      have e := pg_ic_s23 (X := X) (Y := Y) a b c d
      have e2 := pg_tn_s12 (X := X) (Y := Y) b c d
      rcases h.2.2.2.2 d hd n1 n3 n2 with q | ⟨q, f⟩
      · exact Or.inr (Or.inr (Or.inr (Or.inr (Or.inl ⟨t, by omega⟩))))
      · have g := f.1 (by omega : a < c) hab
        exact Or.inr (Or.inr (Or.inr (Or.inr (Or.inr ⟨by omega, g.1, Or.inr ⟨t, by omega⟩⟩))))
def pg_sg (x : Int) : Int := if 0 < x then 1 else if x < 0 then -1 else 0
theorem pg_sg_b (x : Int) : -1 ≤ pg_sg x ∧ pg_sg x ≤ 1 := by unfold pg_sg; (repeat' split) <;> omega
theorem pg_sg_pos {x : Int} : 0 < pg_sg x ↔ 0 < x := by unfold pg_sg; (repeat' split) <;> omega
theorem pg_sg_neg {x : Int} : pg_sg x < 0 ↔ x < 0 := by unfold pg_sg; (repeat' split) <;> omega
theorem pg_sg_0 {x : Int} : pg_sg x = 0 ↔ x = 0 := by unfold pg_sg; (repeat' split) <;> omega
/-- the sum of three products, by high and low parts -/
theorem pg_split (K p q r u v w : Int) : p * u + q * v + r * w = ((p / K) * u + (q / K) * v + (r / K) * w) * K + ((p % K) * u + (q % K) * v + (r % K) * w) := by
  have e1 := Int.mul_ediv_add_emod p K
  have e2 := Int.mul_ediv_add_emod q K
  have e3 := Int.mul_ediv_add_emod r K
  generalize p / K = p1 at *
  generalize p % K = p2 at *
  generalize q / K = q1 at *
  generalize q % K = q2 at *
  generalize r / K = r1 at *
  generalize r % K = r2 at *
  rw [← e1, ← e2, ← e3]
  grind
end PD
end
section
/-! the class: divisor, corners of triangles, side of a circle, due triangles -/
section CB
variable {l : Launch} {D : va_G} {ad : Nat → Nat} {cI cJ : ClassId} {n tc rc kc : Nat} {X Y : Nat → Int} {TT NB RG KT GR : Nat → Nat} {tl : Int}
/-- pairs of numbers of Fibonacci's row -/
def pg_fb : Nat → Nat × Nat
  | 0 => (1, 1)
  | k + 1 => ((pg_fb k).2, (pg_fb k).1 + (pg_fb k).2)
theorem pg_fb_99 : 2 ^ 62 ≤ (pg_fb 99).2 := by decide +kernel
theorem pg_fb_s {a b k : Nat} (hb : 0 < b) (hlt : b < a) (h : b < (pg_fb (k + 1)).1 ∨ a < (pg_fb (k + 1)).2) : a % b < (pg_fb k).1 ∨ b < (pg_fb k).2 := by
  have e1 : (pg_fb (k + 1)).1 = (pg_fb k).2 := rfl
  have e2 : (pg_fb (k + 1)).2 = (pg_fb k).1 + (pg_fb k).2 := rfl
  rw [e1, e2] at h
  by_cases g : b < (pg_fb k).2
  · exact Or.inr g
  · refine Or.inl ?_
    have h2 : a % b ≤ a - b := by
      rw [Nat.mod_eq_sub_mod (by omega)]
      exact Nat.mod_le _ _
    omega
theorem cdw_lk : Cond.methodLink RX0 125 Lib.MathLoose.abs_long.x ∈ wsX0_commonDivisor := by unfold wsX0_commonDivisor; simp
theorem cdw_st : Cond.static Lib.MathLoose.abs_long.x ∈ wsX0_commonDivisor := by unfold wsX0_commonDivisor; simp
theorem cdw_in : Cond.initialized "java/lang/Math" ∈ wsX0_commonDivisor := by unfold wsX0_commonDivisor; simp
theorem cdw_co : Cond.code Lib.MathLoose.abs_long.x Lib.MathLoose.abs_long.code 2 (some .long) ∈ wsX0_commonDivisor := by unfold wsX0_commonDivisor; simp
abbrev rmX0_commonDivisor : Room := { frames := 1, cells := 0, slots := 0, locals := 32 }
set_option maxRecDepth 20000 in
set_option maxHeartbeats 4000000 in
theorem mtX0_commonDivisor {P Q : Int} (hP1 : -4611686018427387904 < P) (hP2 : P < 4611686018427387904) (hQ1 : -4611686018427387904 < Q) (hQ2 : Q < 4611686018427387904) : gz_Sl l yX0_commonDivisor wsX0_commonDivisor rmX0_commonDivisor [.long (lI P), .long (lI Q)] (fun r => r = lI ((Nat.gcd P.natAbs Q.natAbs : Nat) : Int)) := by
  refine gz_sofl (cc := cX0_commonDivisor) (maxL := 11) (own := RX0) (by decide +kernel) rfl rfl rfl (Nat.le_of_ble_eq_true rfl) ?_
  intro z D E ret
  show gz_G z _ 0 [(0, .long (lI P)), (2, .long (lI Q))] []
  have loop : ∀ (f k a b : Nat), 100 < f + k → k ≤ 100 → a < 2 ^ 62 → b < 2 ^ 62 → Nat.gcd a b = Nat.gcd P.natAbs Q.natAbs → (1 ≤ k → b < a ∧ (b < (pg_fb (100 - k)).1 ∨ a < (pg_fb (100 - k)).2)) → gz_G z [] 15 [(4, .long (lI (a : Int))), (6, .long (lI (b : Int))), (8, .int (nI k))] [] := by
    intro f
    induction f with
    | zero => intro k a b h1 h2; exact absurd h1 (by omega)
    | succ f ih =>
      intro k a b h1 h2 h3 h4 h5 h6
      refine gz_iload E dX0_commonDivisor_15 rfl ?_
      refine gz_bipush (v := nI 100) E dX0_commonDivisor_17 (by decide) ?_
      refine gz_icN_ge (tgt := 50) E dX0_commonDivisor_19 (by decide) (by omega) (by omega) (fun q19 => ?_) (fun q19 => ?_)
      · skip
        refine gz_lload E dX0_commonDivisor_50 rfl ?_
        exact ret _ _ _ _ dX0_commonDivisor_52 (by rw [← h5]; first | (have e : b = 0 := by omega); rw [e, Nat.gcd_zero_right] | (have e : b = 0 := by (have hk : k = 100 := by omega); subst hk; have h7 := h6 (by omega); have e1 : (pg_fb (100 - 100)).1 = 1 := rfl; have e2 : (pg_fb (100 - 100)).2 = 1 := rfl; omega); rw [e, Nat.gcd_zero_right])
      · skip
        refine gz_lload E dX0_commonDivisor_22 rfl ?_
        refine gz_lconst (v := lI 0) E dX0_commonDivisor_24 (by decide) ?_
        refine gz_lcL_eq (tgt := 50) E dX0_commonDivisor_25 dX0_commonDivisor_26 (by decide) (by omega) (by omega) (by omega) (by omega) (fun q25 => ?_) (fun q25 => ?_)
        · skip
          refine gz_lload E dX0_commonDivisor_50 rfl ?_
          exact ret _ _ _ _ dX0_commonDivisor_52 (by rw [← h5]; first | (have e : b = 0 := by omega); rw [e, Nat.gcd_zero_right] | (have e : b = 0 := by (have hk : k = 100 := by omega); subst hk; have h7 := h6 (by omega); have e1 : (pg_fb (100 - 100)).1 = 1 := rfl; have e2 : (pg_fb (100 - 100)).2 = 1 := rfl; omega); rw [e, Nat.gcd_zero_right])
        · skip
          refine gz_lload E dX0_commonDivisor_29 rfl ?_
          refine gz_lload E dX0_commonDivisor_31 rfl ?_
          refine gz_lremN E dX0_commonDivisor_33 (by omega) (by omega) (by omega) ?_
          refine gz_lstore (lv' := [(4, _), (6, _), (8, _), (9, _)]) E dX0_commonDivisor_34 (by decide) rfl ?_
          refine gz_lload E dX0_commonDivisor_36 rfl ?_
          refine gz_lstore (lv' := [(4, _), (6, _), (8, _), (9, _)]) E dX0_commonDivisor_38 (by decide) rfl ?_
          refine gz_lload E dX0_commonDivisor_40 rfl ?_
          refine gz_lstore (lv' := [(4, _), (6, _), (8, _), (9, _)]) E dX0_commonDivisor_42 (by decide) rfl ?_
          refine gz_iinc (lv' := [(4, _), (6, _), (8, _), (9, _)]) E dX0_commonDivisor_44 rfl (gz_nI1 _) (by decide) rfl ?_
          refine gz_goto (tgt := 15) E dX0_commonDivisor_47 (by decide) ?_
          refine gz_sub (lv' := [(4, _), (6, _), (8, _)]) [0, 1, 2] rfl ?_
          exact ih (k + 1) b (a % b) (by omega) (by omega) (by omega) (by have := Nat.mod_lt a (show 0 < b by omega); omega) (by rw [← h5, Nat.gcd_comm b, Nat.gcd_comm a, ← Nat.gcd_rec b a]) (fun _ => ⟨Nat.mod_lt a (by omega), by
        have e : 100 - (k + 1) + 1 = 100 - k ∨ k = 100 := by omega
        by_cases hk : 1 ≤ k
        · have h7 := h6 hk
          rcases e with e | e
          · rw [← e] at h7
            exact pg_fb_s (by omega) h7.1 h7.2
          · omega
        · have hk0 : k = 0 := by omega
          subst hk0
          exact Or.inr (by have := pg_fb_99; show b < (pg_fb 99).2; omega)⟩)
  refine gz_lload_n E dX0_commonDivisor_0 rfl rfl ?_
  refine gz_absI E dX0_commonDivisor_1 cdw_lk cdw_st cdw_in cdw_co (Nat.le_of_ble_eq_true rfl) (Nat.le_of_ble_eq_true rfl) (by omega) (by omega) ?_
  refine gz_lstore (lv' := [(0, _), (2, _), (4, _)]) E dX0_commonDivisor_4 (by decide) rfl ?_
  refine gz_lload_n E dX0_commonDivisor_6 rfl rfl ?_
  refine gz_absI E dX0_commonDivisor_7 cdw_lk cdw_st cdw_in cdw_co (Nat.le_of_ble_eq_true rfl) (Nat.le_of_ble_eq_true rfl) (by omega) (by omega) ?_
  refine gz_lstore (lv' := [(0, _), (2, _), (4, _), (6, _)]) E dX0_commonDivisor_10 (by decide) rfl ?_
  refine gz_iconst (v := nI 0) E dX0_commonDivisor_12 (by decide) ?_
  refine gz_istore (lv' := [(0, _), (2, _), (4, _), (6, _), (8, _)]) E dX0_commonDivisor_13 (by decide) rfl ?_
  refine gz_sub (lv' := [(4, _), (6, _), (8, _)]) [2, 3, 4] rfl ?_
  exact loop 101 0 P.natAbs Q.natAbs (by omega) (by omega) (by omega) (by omega) rfl (fun h => absurd h (by omega))
theorem pg_dig (t : Nat) (h : t < 4096) {k : Nat} (hk : k < 3) : (nI t >>> (nI (4 * k) &&& 31)) &&& nI 15 = nI (t / 16 ^ k % 16) := by
  rcases (show k = 0 ∨ k = 1 ∨ k = 2 by omega) with rfl | rfl | rfl
  · rw [pk_shrN (by omega) _ 0 (by decide +kernel), pk_andN (by omega) 4 (by decide +kernel)]
  · rw [pk_shrN (by omega) _ 4 (by decide +kernel), pk_andN (by omega) 4 (by decide +kernel)]
  · rw [pk_shrN (by omega) _ 8 (by decide +kernel), pk_andN (by omega) 4 (by decide +kernel)]
abbrev rmX0_triangleCorner : Room := { frames := 1, cells := 0, slots := 0, locals := 21 }
theorem inwX0_triangleCorner : ∀ w ∈ wsX00, w ∈ wsX0_triangleCorner := fun _ h => List.mem_cons_of_mem _ (List.mem_append_right _ h)
set_option maxRecDepth 20000 in
theorem flX0_triangleCorner_20 : Cond.fieldLink RX0 20 RX0 (TX0 3).2.1 (TX0 3).2.2.1 ∈ wsX0_triangleCorner := by decide +kernel
set_option maxRecDepth 20000 in
set_option maxHeartbeats 4000000 in
theorem mtX0_triangleCorner (ht : tc ≤ 23) {i k : Nat} (hi : i < tc) (hT : TT i < 4096) (hk : k < 3) : gz_Ki l yX0_triangleCorner wsX0_triangleCorner rmX0_triangleCorner D [(cI, .int), (cJ, .long)] [.ref (ad 0), .int (nI i), .int (nI k)] (wC ad cI n X Y tc TT NB RG rc KT kc tl GR) (fun r w1 => r = nI (TT i / 16 ^ k % 16) ∧ w1 = (wC ad cI n X Y tc TT NB RG rc KT kc tl GR)) := by
  refine gz_ofi (cc := cX0_triangleCorner) (maxL := 3) (own := RX0) (by decide +kernel) rfl rfl rfl (Nat.le_of_ble_eq_true rfl) ?_
  intro z E ret
  show gz_G z _ 0 [(0, .ref (ad 0)), (1, .int (nI i)), (2, .int (nI k))] []
  refine gz_aload_n E dX0_triangleCorner_0 rfl rfl ?_
  refine gz_iload_n E dX0_triangleCorner_1 rfl rfl ?_
  refine gz_cali (n := 1) E 0 dX0_triangleCorner_2 gX0_triangleCorner_X0_isTriangle (mtX0_isTriangle ht _) rfl rfl ⟨rfl, rfl⟩ (by decide +kernel) ⟨Nat.le_of_ble_eq_true rfl, Nat.le_of_ble_eq_true rfl⟩ rfl rfl rfl rfl (Nat.le_of_ble_eq_true rfl) (fun r2 w2 hr2 => ?_)
  obtain ⟨hr2, rfl⟩ := hr2
  refine gz_ifB_ne (tgt := 10) E hr2 dX0_triangleCorner_5 (by decide) (fun q5 => ?_) (fun q5 => ?_)
  · skip
    refine gz_aload_n E dX0_triangleCorner_10 rfl rfl ?_
    refine gz_get E inwX0_triangleCorner 0 3 dX0_triangleCorner_11 flX0_triangleCorner_20 rfl rfl (by decide) rfl rfl ?_
    refine gz_iload_n E dX0_triangleCorner_14 rfl rfl ?_
    refine gz_ialdN E 3 0 dX0_triangleCorner_15 rfl rfl (by decide) rfl (by omega) ?_
    refine gz_iconst (v := nI 4) E dX0_triangleCorner_16 (by decide) ?_
    refine gz_iload_n E dX0_triangleCorner_17 rfl rfl ?_
    refine gz_imulN E dX0_triangleCorner_18 ?_
    refine gz_ishr E dX0_triangleCorner_19 ?_
    refine gz_bipush (v := nI 15) E dX0_triangleCorner_20 (by decide) ?_
    refine gz_iand E dX0_triangleCorner_22 ?_
    exact ret _ _ _ _ dX0_triangleCorner_23 rfl ⟨pg_dig _ hT hk, rfl⟩
  · exact absurd ⟨i, hi, rfl⟩ q5
abbrev rmX0_hasCorner : Room := { frames := 2, cells := 0, slots := 0, locals := 43 }
set_option maxRecDepth 20000 in
set_option maxHeartbeats 4000000 in
theorem mtX0_hasCorner (ht : tc ≤ 23) {i a : Nat} (hi : i < tc) (hT : TT i < 4096) (ha : a < 2 ^ 31) : gz_Ki l yX0_hasCorner wsX0_hasCorner rmX0_hasCorner D [(cI, .int), (cJ, .long)] [.ref (ad 0), .int (nI i), .int (nI a)] (wC ad cI n X Y tc TT NB RG rc KT kc tl GR) (fun r w1 => gz_B r (TT i % 16 = a ∨ TT i / 16 % 16 = a ∨ TT i / 256 % 16 = a) ∧ w1 = (wC ad cI n X Y tc TT NB RG rc KT kc tl GR)) := by
  refine gz_ofi (cc := cX0_hasCorner) (maxL := 3) (own := RX0) (by decide +kernel) rfl rfl rfl (Nat.le_of_ble_eq_true rfl) ?_
  intro z E ret
  show gz_G z _ 0 [(0, .ref (ad 0)), (1, .int (nI i)), (2, .int (nI a))] []
  refine gz_aload_n E dX0_hasCorner_0 rfl rfl ?_
  refine gz_iload_n E dX0_hasCorner_1 rfl rfl ?_
  refine gz_iconst (v := nI 0) E dX0_hasCorner_2 (by decide) ?_
  refine gz_cali (n := 2) E 0 dX0_hasCorner_3 gX0_hasCorner_X0_triangleCorner (mtX0_triangleCorner ht (by assumption) (by assumption) (by decide)) rfl rfl ⟨rfl, rfl⟩ (by decide +kernel) ⟨Nat.le_of_ble_eq_true rfl, Nat.le_of_ble_eq_true rfl⟩ rfl rfl rfl rfl (Nat.le_of_ble_eq_true rfl) (fun r3 w3 hr3 => ?_)
  obtain ⟨rfl, rfl⟩ := hr3
  refine gz_iload_n E dX0_hasCorner_6 rfl rfl ?_
  refine gz_icN_eq (tgt := 30) E dX0_hasCorner_7 (by decide) (by omega) (by omega) (fun q7 => ?_) (fun q7 => ?_)
  · skip
    refine gz_iconst (v := 1) E dX0_hasCorner_30 (by decide) ?_
    refine gz_goto (tgt := 35) E dX0_hasCorner_31 (by decide) ?_
    exact ret _ _ _ _ dX0_hasCorner_35 rfl ⟨by first | exact gz_B_t (by omega) | exact gz_B_f (by omega), rfl⟩
  · skip
    refine gz_aload_n E dX0_hasCorner_10 rfl rfl ?_
    refine gz_iload_n E dX0_hasCorner_11 rfl rfl ?_
    refine gz_iconst (v := nI 1) E dX0_hasCorner_12 (by decide) ?_
    refine gz_cali (n := 2) E 0 dX0_hasCorner_13 gX0_hasCorner_X0_triangleCorner (mtX0_triangleCorner ht (by assumption) (by assumption) (by decide)) rfl rfl ⟨rfl, rfl⟩ (by decide +kernel) ⟨Nat.le_of_ble_eq_true rfl, Nat.le_of_ble_eq_true rfl⟩ rfl rfl rfl rfl (Nat.le_of_ble_eq_true rfl) (fun r13 w13 hr13 => ?_)
    obtain ⟨rfl, rfl⟩ := hr13
    refine gz_iload_n E dX0_hasCorner_16 rfl rfl ?_
    refine gz_icN_eq (tgt := 30) E dX0_hasCorner_17 (by decide) (by omega) (by omega) (fun q17 => ?_) (fun q17 => ?_)
    · skip
      refine gz_iconst (v := 1) E dX0_hasCorner_30 (by decide) ?_
      refine gz_goto (tgt := 35) E dX0_hasCorner_31 (by decide) ?_
      exact ret _ _ _ _ dX0_hasCorner_35 rfl ⟨by first | exact gz_B_t (by omega) | exact gz_B_f (by omega), rfl⟩
    · skip
      refine gz_aload_n E dX0_hasCorner_20 rfl rfl ?_
      refine gz_iload_n E dX0_hasCorner_21 rfl rfl ?_
      refine gz_iconst (v := nI 2) E dX0_hasCorner_22 (by decide) ?_
      refine gz_cali (n := 2) E 0 dX0_hasCorner_23 gX0_hasCorner_X0_triangleCorner (mtX0_triangleCorner ht (by assumption) (by assumption) (by decide)) rfl rfl ⟨rfl, rfl⟩ (by decide +kernel) ⟨Nat.le_of_ble_eq_true rfl, Nat.le_of_ble_eq_true rfl⟩ rfl rfl rfl rfl (Nat.le_of_ble_eq_true rfl) (fun r23 w23 hr23 => ?_)
      obtain ⟨rfl, rfl⟩ := hr23
      refine gz_iload_n E dX0_hasCorner_26 rfl rfl ?_
      refine gz_icN_ne (tgt := 34) E dX0_hasCorner_27 (by decide) (by omega) (by omega) (fun q27 => ?_) (fun q27 => ?_)
      · skip
        refine gz_iconst (v := 0) E dX0_hasCorner_34 (by decide) ?_
        exact ret _ _ _ _ dX0_hasCorner_35 rfl ⟨by first | exact gz_B_t (by omega) | exact gz_B_f (by omega), rfl⟩
      · skip
        refine gz_iconst (v := 1) E dX0_hasCorner_30 (by decide) ?_
        refine gz_goto (tgt := 35) E dX0_hasCorner_31 (by decide) ?_
        exact ret _ _ _ _ dX0_hasCorner_35 rfl ⟨by first | exact gz_B_t (by omega) | exact gz_B_f (by omega), rfl⟩
abbrev rmX0_isTooFar : Room := { frames := 0, cells := 0, slots := 0, locals := 0 }
set_option maxRecDepth 20000 in
set_option maxHeartbeats 4000000 in
theorem mtX0_isTooFar {x : Int} (h1 : -2147483648 ≤ x) (h2 : x < 2147483648) : gz_Si l yX0_isTooFar wsX0_isTooFar rmX0_isTooFar [.int (iI x)] (fun r => gz_B r (x < -30000 ∨ 30000 < x)) := by
  refine gz_sofi (cc := cX0_isTooFar) (maxL := 1) (own := RX0) (by decide +kernel) rfl rfl rfl (Nat.le_of_ble_eq_true rfl) ?_
  intro z D E ret
  show gz_G z _ 0 [(0, .int (iI x))] []
  refine gz_iload_n E dX0_isTooFar_0 rfl rfl ?_
  refine gz_sipush (v := iI (-30000)) E dX0_isTooFar_1 (by decide) ?_
  refine gz_icI_lt (tgt := 14) E dX0_isTooFar_4 (by decide) (by omega) (by omega) (by omega) (by omega) (fun q4 => ?_) (fun q4 => ?_)
  · skip
    refine gz_iconst (v := 1) E dX0_isTooFar_14 (by decide) ?_
    refine gz_goto (tgt := 19) E dX0_isTooFar_15 (by decide) ?_
    exact ret _ _ _ _ dX0_isTooFar_19 rfl (by first | exact gz_B_t (by omega) | exact gz_B_f (by omega))
  · skip
    refine gz_iload_n E dX0_isTooFar_7 rfl rfl ?_
    refine gz_sipush (v := iI (30000)) E dX0_isTooFar_8 (by decide) ?_
    refine gz_icI_le (tgt := 18) E dX0_isTooFar_11 (by decide) (by omega) (by omega) (by omega) (by omega) (fun q11 => ?_) (fun q11 => ?_)
    · skip
      refine gz_iconst (v := 0) E dX0_isTooFar_18 (by decide) ?_
      exact ret _ _ _ _ dX0_isTooFar_19 rfl (by first | exact gz_B_t (by omega) | exact gz_B_f (by omega))
    · skip
      refine gz_iconst (v := 1) E dX0_isTooFar_14 (by decide) ?_
      refine gz_goto (tgt := 19) E dX0_isTooFar_15 (by decide) ?_
      exact ret _ _ _ _ dX0_isTooFar_19 rfl (by first | exact gz_B_t (by omega) | exact gz_B_f (by omega))
abbrev rmX0_siteAt : Room := { frames := 0, cells := 0, slots := 0, locals := 0 }
theorem inwX0_siteAt : ∀ w ∈ wsX00, w ∈ wsX0_siteAt := fun _ h => List.mem_cons_of_mem _ (List.mem_append_right _ h)
set_option maxRecDepth 20000 in
theorem flX0_siteAt_16 : Cond.fieldLink RX0 16 RX0 (TX0 2).2.1 (TX0 2).2.2.1 ∈ wsX0_siteAt := by decide +kernel
set_option maxRecDepth 20000 in
theorem flX0_siteAt_9 : Cond.fieldLink RX0 9 RX0 (TX0 0).2.1 (TX0 0).2.2.1 ∈ wsX0_siteAt := by decide +kernel
set_option maxRecDepth 20000 in
theorem flX0_siteAt_13 : Cond.fieldLink RX0 13 RX0 (TX0 1).2.1 (TX0 1).2.2.1 ∈ wsX0_siteAt := by decide +kernel
set_option maxRecDepth 20000 in
set_option maxHeartbeats 4000000 in
theorem mtX0_siteAt (SB : pg_ok n X Y) {x y : Int} (x1 : -2147483648 ≤ x) (x2 : x < 2147483648) (y1 : -2147483648 ≤ y) (y2 : y < 2147483648) : gz_Ki l yX0_siteAt wsX0_siteAt rmX0_siteAt D [(cI, .int), (cJ, .long)] [.ref (ad 0), .int (iI x), .int (iI y)] (wC ad cI n X Y tc TT NB RG rc KT kc tl GR) (fun r w1 => ((∃ k, k < n ∧ X k = x ∧ Y k = y ∧ r = nI k) ∨ (r = -1 ∧ ∀ k, k < n → ¬ (X k = x ∧ Y k = y))) ∧ w1 = (wC ad cI n X Y tc TT NB RG rc KT kc tl GR)) := by
  refine gz_ofi (cc := cX0_siteAt) (maxL := 4) (own := RX0) (by decide +kernel) rfl rfl rfl (Nat.le_of_ble_eq_true rfl) ?_
  intro z E ret
  have hn := SB.1
  show gz_G z _ 0 [(0, .ref (ad 0)), (1, .int (iI x)), (2, .int (iI y))] []
  have loop : ∀ (f k : Nat), n < f + k → k ≤ n → (∀ j, j < k → ¬ (X j = x ∧ Y j = y)) → gz_G z (wC ad cI n X Y tc TT NB RG rc KT kc tl GR) 2 [(0, .ref (ad 0)), (1, .int (iI x)), (2, .int (iI y)), (3, .int (nI k))] [] := by
    intro f
    induction f with
    | zero => intro k h1 h2; exact absurd h1 (by omega)
    | succ f ih =>
      intro k h1 h2 h3
      refine gz_iload_n E dX0_siteAt_2 rfl rfl ?_
      refine gz_aload_n E dX0_siteAt_3 rfl rfl ?_
      refine gz_get E inwX0_siteAt 0 2 dX0_siteAt_4 flX0_siteAt_16 rfl rfl (by decide) rfl rfl ?_
      refine gz_icN_ge (tgt := 38) E dX0_siteAt_7 (by decide) (by omega) (by omega) (fun q7 => ?_) (fun q7 => ?_)
      · skip
        refine gz_iconst (v := -1) E dX0_siteAt_38 (by decide) ?_
        exact ret _ _ _ _ dX0_siteAt_39 rfl ⟨Or.inr ⟨rfl, fun j hj => h3 j (by omega)⟩, rfl⟩
      · skip
        have hB := SB.2.1 k (by omega)
        refine gz_aload_n E dX0_siteAt_10 rfl rfl ?_
        refine gz_get E inwX0_siteAt 0 0 dX0_siteAt_11 flX0_siteAt_9 rfl rfl (by decide) rfl rfl ?_
        refine gz_iload_n E dX0_siteAt_14 rfl rfl ?_
        refine gz_ialdN E 1 0 dX0_siteAt_15 rfl rfl (by decide) rfl (by omega) ?_
        refine gz_iload_n E dX0_siteAt_16 rfl rfl ?_
        refine gz_icI_ne (tgt := 32) E dX0_siteAt_17 (by decide) (by omega) (by omega) (by omega) (by omega) (fun q17 => ?_) (fun q17 => ?_)
        · skip
          refine gz_iinc (lv' := [(0, _), (1, _), (2, _), (3, _)]) E dX0_siteAt_32 rfl (gz_nI1 _) (by decide) rfl ?_
          refine gz_goto (tgt := 2) E dX0_siteAt_35 (by decide) ?_
          exact ih (k + 1) (by omega) (by omega) (fun j hj => by
            rcases (show j < k ∨ j = k by omega) with e | e
            · exact h3 j e
            · rw [e]; omega)
        · skip
          refine gz_aload_n E dX0_siteAt_20 rfl rfl ?_
          refine gz_get E inwX0_siteAt 0 1 dX0_siteAt_21 flX0_siteAt_13 rfl rfl (by decide) rfl rfl ?_
          refine gz_iload_n E dX0_siteAt_24 rfl rfl ?_
          refine gz_ialdN E 2 0 dX0_siteAt_25 rfl rfl (by decide) rfl (by omega) ?_
          refine gz_iload_n E dX0_siteAt_26 rfl rfl ?_
          refine gz_icI_ne (tgt := 32) E dX0_siteAt_27 (by decide) (by omega) (by omega) (by omega) (by omega) (fun q27 => ?_) (fun q27 => ?_)
          · skip
            refine gz_iinc (lv' := [(0, _), (1, _), (2, _), (3, _)]) E dX0_siteAt_32 rfl (gz_nI1 _) (by decide) rfl ?_
            refine gz_goto (tgt := 2) E dX0_siteAt_35 (by decide) ?_
            exact ih (k + 1) (by omega) (by omega) (fun j hj => by
              rcases (show j < k ∨ j = k by omega) with e | e
              · exact h3 j e
              · rw [e]; omega)
          · skip
            refine gz_iload_n E dX0_siteAt_30 rfl rfl ?_
            exact ret _ _ _ _ dX0_siteAt_31 rfl ⟨Or.inl ⟨k, by omega, by omega, by omega, rfl⟩, rfl⟩
  refine gz_iconst (v := nI 0) E dX0_siteAt_0 (by decide) ?_
  refine gz_istore_n (lv' := [(0, _), (1, _), (2, _), (3, _)]) E dX0_siteAt_1 rfl (by decide) rfl ?_
  exact loop (n + 1) 0 (by omega) (by omega) (fun j hj => absurd hj (by omega))
theorem pg_sg1 {x : Int} (h : 0 < x) : (1 : Int32) = iI (pg_sg x) := by unfold pg_sg; rw [if_pos h]; rfl
theorem pg_sgm {x : Int} (h : x < 0) : (-1 : Int32) = iI (pg_sg x) := by unfold pg_sg; rw [if_neg (by omega), if_pos h]; rfl
theorem pg_sgz {x : Int} (h : x = 0) : (0 : Int32) = iI (pg_sg x) := by unfold pg_sg; rw [if_neg (by omega), if_neg (by omega)]; rfl
abbrev rmX0_circleSide : Room := { frames := 2, cells := 0, slots := 0, locals := 47 }
set_option maxRecDepth 20000 in
theorem cwX0_circleSide_164 : Jvm.Cond.constantLong RX0 164 (1048575) ∈ wsX0_circleSide := by decide +kernel
set_option maxRecDepth 20000 in
set_option maxHeartbeats 4000000 in
theorem mtX0_circleSide (SB : pg_ok n X Y) {a b c d : Nat} (ha : a < n) (hb : b < n) (hc : c < n) (hd : d < n) : gz_Ki l yX0_circleSide wsX0_circleSide rmX0_circleSide D [(cI, .int), (cJ, .long)] [.ref (ad 0), .int (nI a), .int (nI b), .int (nI c), .int (nI d)] (wC ad cI n X Y tc TT NB RG rc KT kc tl GR) (fun r w1 => r = iI (pg_sg (pg_ic X Y a b c d)) ∧ w1 = (wC ad cI n X Y tc TT NB RG rc KT kc tl GR)) := by
  refine gz_ofi (cc := cX0_circleSide) (maxL := 21) (own := RX0) (by decide +kernel) rfl rfl rfl (Nat.le_of_ble_eq_true rfl) ?_
  intro z E ret
  have g1 := pg_gp_b SB hd ha
  have g2 := pg_gp_b SB hd hb
  have g3 := pg_gp_b SB hd hc
  have t1 := pg_tn_b SB hd hb hc
  have t2 := pg_tn_b SB hd hc ha
  have t3 := pg_tn_b SB hd ha hb
  have S : pg_ic X Y a b c d = _ := pg_split (2 ^ 20) (pg_gp X Y d a) (pg_gp X Y d b) (pg_gp X Y d c) (pg_tn X Y d b c) (pg_tn X Y d c a) (pg_tn X Y d a b)
  have m0 := pg_mulb (a := pg_gp X Y d a / 2 ^ 20) (b := pg_tn X Y d b c) (A := 7200) (B := 7200000000) (by omega) (by omega) (by omega) (by omega)
  have l0 := pg_mulb (a := pg_gp X Y d a % 2 ^ 20) (b := pg_tn X Y d b c) (A := 1048576) (B := 7200000000) (by omega) (by omega) (by omega) (by omega)
  have m1 := pg_mulb (a := pg_gp X Y d b / 2 ^ 20) (b := pg_tn X Y d c a) (A := 7200) (B := 7200000000) (by omega) (by omega) (by omega) (by omega)
  have l1 := pg_mulb (a := pg_gp X Y d b % 2 ^ 20) (b := pg_tn X Y d c a) (A := 1048576) (B := 7200000000) (by omega) (by omega) (by omega) (by omega)
  have m2 := pg_mulb (a := pg_gp X Y d c / 2 ^ 20) (b := pg_tn X Y d a b) (A := 7200) (B := 7200000000) (by omega) (by omega) (by omega) (by omega)
  have l2 := pg_mulb (a := pg_gp X Y d c % 2 ^ 20) (b := pg_tn X Y d a b) (A := 1048576) (B := 7200000000) (by omega) (by omega) (by omega) (by omega)
  show gz_G z _ 0 [(0, .ref (ad 0)), (1, .int (nI a)), (2, .int (nI b)), (3, .int (nI c)), (4, .int (nI d))] []
  refine gz_aload_n E dX0_circleSide_0 rfl rfl ?_
  refine gz_iload E dX0_circleSide_1 rfl ?_
  refine gz_iload_n E dX0_circleSide_3 rfl rfl ?_
  refine gz_call (n := 2) E 0 dX0_circleSide_4 gX0_circleSide_X0_gap (mtX0_gap SB (by assumption) (by assumption)) rfl rfl ⟨rfl, rfl⟩ (by decide +kernel) ⟨Nat.le_of_ble_eq_true rfl, Nat.le_of_ble_eq_true rfl⟩ rfl rfl rfl rfl (Nat.le_of_ble_eq_true rfl) (fun r4 w4 hr4 => ?_)
  obtain ⟨rfl, rfl⟩ := hr4
  refine gz_lstore (lv' := [(0, _), (1, _), (2, _), (3, _), (4, _), (5, _)]) E dX0_circleSide_7 (by decide) rfl ?_
  refine gz_aload_n E dX0_circleSide_9 rfl rfl ?_
  refine gz_iload E dX0_circleSide_10 rfl ?_
  refine gz_iload_n E dX0_circleSide_12 rfl rfl ?_
  refine gz_call (n := 2) E 0 dX0_circleSide_13 gX0_circleSide_X0_gap (mtX0_gap SB (by assumption) (by assumption)) rfl rfl ⟨rfl, rfl⟩ (by decide +kernel) ⟨Nat.le_of_ble_eq_true rfl, Nat.le_of_ble_eq_true rfl⟩ rfl rfl rfl rfl (Nat.le_of_ble_eq_true rfl) (fun r13 w13 hr13 => ?_)
  obtain ⟨rfl, rfl⟩ := hr13
  refine gz_lstore (lv' := [(0, _), (1, _), (2, _), (3, _), (4, _), (5, _), (7, _)]) E dX0_circleSide_16 (by decide) rfl ?_
  refine gz_aload_n E dX0_circleSide_18 rfl rfl ?_
  refine gz_iload E dX0_circleSide_19 rfl ?_
  refine gz_iload_n E dX0_circleSide_21 rfl rfl ?_
  refine gz_call (n := 2) E 0 dX0_circleSide_22 gX0_circleSide_X0_gap (mtX0_gap SB (by assumption) (by assumption)) rfl rfl ⟨rfl, rfl⟩ (by decide +kernel) ⟨Nat.le_of_ble_eq_true rfl, Nat.le_of_ble_eq_true rfl⟩ rfl rfl rfl rfl (Nat.le_of_ble_eq_true rfl) (fun r22 w22 hr22 => ?_)
  obtain ⟨rfl, rfl⟩ := hr22
  refine gz_lstore (lv' := [(0, _), (1, _), (2, _), (3, _), (4, _), (5, _), (7, _), (9, _)]) E dX0_circleSide_25 (by decide) rfl ?_
  refine gz_aload_n E dX0_circleSide_27 rfl rfl ?_
  refine gz_iload E dX0_circleSide_28 rfl ?_
  refine gz_iload_n E dX0_circleSide_30 rfl rfl ?_
  refine gz_iload_n E dX0_circleSide_31 rfl rfl ?_
  refine gz_call (n := 3) E 0 dX0_circleSide_32 gX0_circleSide_X0_turn (mtX0_turn SB (by assumption) (by assumption) (by assumption)) rfl rfl ⟨rfl, rfl⟩ (by decide +kernel) ⟨Nat.le_of_ble_eq_true rfl, Nat.le_of_ble_eq_true rfl⟩ rfl rfl rfl rfl (Nat.le_of_ble_eq_true rfl) (fun r32 w32 hr32 => ?_)
  obtain ⟨rfl, rfl⟩ := hr32
  refine gz_lstore (lv' := [(0, _), (1, _), (2, _), (3, _), (4, _), (5, _), (7, _), (9, _), (11, _)]) E dX0_circleSide_35 (by decide) rfl ?_
  refine gz_aload_n E dX0_circleSide_37 rfl rfl ?_
  refine gz_iload E dX0_circleSide_38 rfl ?_
  refine gz_iload_n E dX0_circleSide_40 rfl rfl ?_
  refine gz_iload_n E dX0_circleSide_41 rfl rfl ?_
  refine gz_call (n := 3) E 0 dX0_circleSide_42 gX0_circleSide_X0_turn (mtX0_turn SB (by assumption) (by assumption) (by assumption)) rfl rfl ⟨rfl, rfl⟩ (by decide +kernel) ⟨Nat.le_of_ble_eq_true rfl, Nat.le_of_ble_eq_true rfl⟩ rfl rfl rfl rfl (Nat.le_of_ble_eq_true rfl) (fun r42 w42 hr42 => ?_)
  obtain ⟨rfl, rfl⟩ := hr42
  refine gz_lstore (lv' := [(0, _), (1, _), (2, _), (3, _), (4, _), (5, _), (7, _), (9, _), (11, _), (13, _)]) E dX0_circleSide_45 (by decide) rfl ?_
  refine gz_aload_n E dX0_circleSide_47 rfl rfl ?_
  refine gz_iload E dX0_circleSide_48 rfl ?_
  refine gz_iload_n E dX0_circleSide_50 rfl rfl ?_
  refine gz_iload_n E dX0_circleSide_51 rfl rfl ?_
  refine gz_call (n := 3) E 0 dX0_circleSide_52 gX0_circleSide_X0_turn (mtX0_turn SB (by assumption) (by assumption) (by assumption)) rfl rfl ⟨rfl, rfl⟩ (by decide +kernel) ⟨Nat.le_of_ble_eq_true rfl, Nat.le_of_ble_eq_true rfl⟩ rfl rfl rfl rfl (Nat.le_of_ble_eq_true rfl) (fun r52 w52 hr52 => ?_)
  obtain ⟨rfl, rfl⟩ := hr52
  refine gz_lstore (lv' := [(0, _), (1, _), (2, _), (3, _), (4, _), (5, _), (7, _), (9, _), (11, _), (13, _), (15, _)]) E dX0_circleSide_55 (by decide) rfl ?_
  refine gz_lload E dX0_circleSide_57 rfl ?_
  refine gz_bipush (v := nI 20) E dX0_circleSide_59 (by decide) ?_
  refine gz_lshrI E 20 dX0_circleSide_61 (by decide) (by decide +kernel) (by omega) (by omega) ?_
  refine gz_lload E dX0_circleSide_62 rfl ?_
  refine gz_lmulL E dX0_circleSide_64 ?_
  refine gz_lload E dX0_circleSide_65 rfl ?_
  refine gz_bipush (v := nI 20) E dX0_circleSide_67 (by decide) ?_
  refine gz_lshrI E 20 dX0_circleSide_69 (by decide) (by decide +kernel) (by omega) (by omega) ?_
  refine gz_lload E dX0_circleSide_70 rfl ?_
  refine gz_lmulL E dX0_circleSide_72 ?_
  refine gz_laddL E dX0_circleSide_73 ?_
  refine gz_lload E dX0_circleSide_74 rfl ?_
  refine gz_bipush (v := nI 20) E dX0_circleSide_76 (by decide) ?_
  refine gz_lshrI E 20 dX0_circleSide_78 (by decide) (by decide +kernel) (by omega) (by omega) ?_
  refine gz_lload E dX0_circleSide_79 rfl ?_
  refine gz_lmulL E dX0_circleSide_81 ?_
  refine gz_laddL E dX0_circleSide_82 ?_
  refine gz_lstore (lv' := [(0, _), (1, _), (2, _), (3, _), (4, _), (5, _), (7, _), (9, _), (11, _), (13, _), (15, _), (17, _)]) E dX0_circleSide_83 (by decide) rfl ?_
  refine gz_lload E dX0_circleSide_85 rfl ?_
  refine gz_ldc2 (v := lI 1048575) E dX0_circleSide_87 cwX0_circleSide_164 ?_
  refine gz_landI E 20 dX0_circleSide_90 (by decide) (by decide) ?_
  refine gz_lload E dX0_circleSide_91 rfl ?_
  refine gz_lmulL E dX0_circleSide_93 ?_
  refine gz_lload E dX0_circleSide_94 rfl ?_
  refine gz_ldc2 (v := lI 1048575) E dX0_circleSide_96 cwX0_circleSide_164 ?_
  refine gz_landI E 20 dX0_circleSide_99 (by decide) (by decide) ?_
  refine gz_lload E dX0_circleSide_100 rfl ?_
  refine gz_lmulL E dX0_circleSide_102 ?_
  refine gz_laddL E dX0_circleSide_103 ?_
  refine gz_lload E dX0_circleSide_104 rfl ?_
  refine gz_ldc2 (v := lI 1048575) E dX0_circleSide_106 cwX0_circleSide_164 ?_
  refine gz_landI E 20 dX0_circleSide_109 (by decide) (by decide) ?_
  refine gz_lload E dX0_circleSide_110 rfl ?_
  refine gz_lmulL E dX0_circleSide_112 ?_
  refine gz_laddL E dX0_circleSide_113 ?_
  refine gz_lstore (lv' := [(0, _), (1, _), (2, _), (3, _), (4, _), (5, _), (7, _), (9, _), (11, _), (13, _), (15, _), (17, _), (19, _)]) E dX0_circleSide_114 (by decide) rfl ?_
  refine gz_lload E dX0_circleSide_116 rfl ?_
  refine gz_lload E dX0_circleSide_118 rfl ?_
  refine gz_bipush (v := nI 20) E dX0_circleSide_120 (by decide) ?_
  refine gz_lshrI E 20 dX0_circleSide_122 (by decide) (by decide +kernel) (by omega) (by omega) ?_
  refine gz_laddL E dX0_circleSide_123 ?_
  refine gz_lstore (lv' := [(0, _), (1, _), (2, _), (3, _), (4, _), (5, _), (7, _), (9, _), (11, _), (13, _), (15, _), (17, _), (19, _)]) E dX0_circleSide_124 (by decide) rfl ?_
  refine gz_lload E dX0_circleSide_126 rfl ?_
  refine gz_lconst (v := lI 0) E dX0_circleSide_128 (by decide) ?_
  refine gz_lcL_eq (tgt := 146) E dX0_circleSide_129 dX0_circleSide_130 (by decide) (by omega) (by omega) (by omega) (by omega) (fun q129 => ?_) (fun q129 => ?_)
  · skip
    refine gz_lload E dX0_circleSide_146 rfl ?_
    refine gz_ldc2 (v := lI 1048575) E dX0_circleSide_148 cwX0_circleSide_164 ?_
    refine gz_landI E 20 dX0_circleSide_151 (by decide) (by decide) ?_
    refine gz_lconst (v := lI 0) E dX0_circleSide_152 (by decide) ?_
    refine gz_lcL_eq (tgt := 161) E dX0_circleSide_153 dX0_circleSide_154 (by decide) (by omega) (by omega) (by omega) (by omega) (fun q153 => ?_) (fun q153 => ?_)
    · skip
      refine gz_iconst (v := 0) E dX0_circleSide_161 (by decide) ?_
      exact ret _ _ _ _ dX0_circleSide_162 rfl ⟨by first | exact pg_sg1 (by omega) | exact pg_sgm (by omega) | exact pg_sgz (by omega), rfl⟩
    · skip
      refine gz_iconst (v := 1) E dX0_circleSide_157 (by decide) ?_
      refine gz_goto (tgt := 162) E dX0_circleSide_158 (by decide) ?_
      exact ret _ _ _ _ dX0_circleSide_162 rfl ⟨by first | exact pg_sg1 (by omega) | exact pg_sgm (by omega) | exact pg_sgz (by omega), rfl⟩
  · skip
    refine gz_lload E dX0_circleSide_133 rfl ?_
    refine gz_lconst (v := lI 0) E dX0_circleSide_135 (by decide) ?_
    refine gz_lcL_le (tgt := 144) E dX0_circleSide_136 dX0_circleSide_137 (by decide) (by omega) (by omega) (by omega) (by omega) (fun q136 => ?_) (fun q136 => ?_)
    · skip
      refine gz_iconst (v := -1) E dX0_circleSide_144 (by decide) ?_
      exact ret _ _ _ _ dX0_circleSide_145 rfl ⟨by first | exact pg_sg1 (by omega) | exact pg_sgm (by omega) | exact pg_sgz (by omega), rfl⟩
    · skip
      refine gz_iconst (v := 1) E dX0_circleSide_140 (by decide) ?_
      refine gz_goto (tgt := 145) E dX0_circleSide_141 (by decide) ?_
      exact ret _ _ _ _ dX0_circleSide_145 rfl ⟨by first | exact pg_sg1 (by omega) | exact pg_sgm (by omega) | exact pg_sgz (by omega), rfl⟩
theorem pg_TR_t {n : Nat} {X Y : Nat → Int} {a b c : Nat} (hab : a < b) (hbc : b < c) (hc : c < n) (ht : pg_tn X Y a b c ≠ 0) (h : ∀ d, d < n → pg_Q X Y a b c d) : pg_TR n X Y (a, b, c) := (pg_Q_TR hab hbc hc).mp ⟨ht, h⟩
theorem pg_TR_f0 {n : Nat} {X Y : Nat → Int} {a b c : Nat} (hab : a < b) (hbc : b < c) (hc : c < n) (ht : pg_tn X Y a b c = 0) : ¬ pg_TR n X Y (a, b, c) := fun q => ((pg_Q_TR hab hbc hc).mpr q).1 ht
theorem pg_TR_f {n : Nat} {X Y : Nat → Int} {a b c d : Nat} (hab : a < b) (hbc : b < c) (hc : c < n) (hd : d < n) (h : ¬ pg_Q X Y a b c d) : ¬ pg_TR n X Y (a, b, c) := fun q => h (((pg_Q_TR hab hbc hc).mpr q).2 d hd)
abbrev rmX0_isDueTriangle : Room := { frames := 3, cells := 0, slots := 0, locals := 87 }
theorem inwX0_isDueTriangle : ∀ w ∈ wsX00, w ∈ wsX0_isDueTriangle := fun _ h => List.mem_cons_of_mem _ (List.mem_append_right _ h)
set_option maxRecDepth 20000 in
theorem flX0_isDueTriangle_16 : Cond.fieldLink RX0 16 RX0 (TX0 2).2.1 (TX0 2).2.2.1 ∈ wsX0_isDueTriangle := by decide +kernel
set_option maxRecDepth 20000 in
set_option maxHeartbeats 4000000 in
theorem mtX0_isDueTriangle (SB : pg_ok n X Y) {a b c : Nat} (hab : a < b) (hbc : b < c) (hc : c < n) : gz_Ki l yX0_isDueTriangle wsX0_isDueTriangle rmX0_isDueTriangle D [(cI, .int), (cJ, .long)] [.ref (ad 0), .int (nI a), .int (nI b), .int (nI c)] (wC ad cI n X Y tc TT NB RG rc KT kc tl GR) (fun r w1 => gz_B r (pg_TR n X Y (a, b, c)) ∧ w1 = (wC ad cI n X Y tc TT NB RG rc KT kc tl GR)) := by
  refine gz_ofi (cc := cX0_isDueTriangle) (maxL := 9) (own := RX0) (by decide +kernel) rfl rfl rfl (Nat.le_of_ble_eq_true rfl) ?_
  intro z E ret
  have hn := SB.1
  have ha : a < n := by omega
  have hb : b < n := by omega
  have tb := pg_tn_b SB ha hb hc
  show gz_G z _ 0 [(0, .ref (ad 0)), (1, .int (nI a)), (2, .int (nI b)), (3, .int (nI c))] []
  by_cases ht : pg_tn X Y a b c = 0
  · skip
    refine gz_aload_n E dX0_isDueTriangle_0 rfl rfl ?_
    refine gz_iload_n E dX0_isDueTriangle_1 rfl rfl ?_
    refine gz_iload_n E dX0_isDueTriangle_2 rfl rfl ?_
    refine gz_iload_n E dX0_isDueTriangle_3 rfl rfl ?_
    refine gz_call (n := 3) E 0 dX0_isDueTriangle_4 gX0_isDueTriangle_X0_turn (mtX0_turn SB (by assumption) (by assumption) (by assumption)) rfl rfl ⟨rfl, rfl⟩ (by decide +kernel) ⟨Nat.le_of_ble_eq_true rfl, Nat.le_of_ble_eq_true rfl⟩ rfl rfl rfl rfl (Nat.le_of_ble_eq_true rfl) (fun r4 w4 hr4 => ?_)
    obtain ⟨rfl, rfl⟩ := hr4
    refine gz_lstore (lv' := [(0, _), (1, _), (2, _), (3, _), (4, _)]) E dX0_isDueTriangle_7 (by decide) rfl ?_
    refine gz_lload E dX0_isDueTriangle_9 rfl ?_
    refine gz_lconst (v := lI 0) E dX0_isDueTriangle_11 (by decide) ?_
    refine gz_lcL_ne (tgt := 18) E dX0_isDueTriangle_12 dX0_isDueTriangle_13 (by decide) (by omega) (by omega) (by omega) (by omega) (fun q12 => ?_) (fun q12 => ?_)
    · exact absurd ht q12
    · skip
      refine gz_iconst (v := 0) E dX0_isDueTriangle_16 (by decide) ?_
      exact ret _ _ _ _ dX0_isDueTriangle_17 rfl ⟨gz_B_f (pg_TR_f0 hab hbc hc ht), rfl⟩
  have loop : ∀ (f k : Nat), n < f + k → k ≤ n → (∀ d, d < k → pg_Q X Y a b c d) → gz_G z (wC ad cI n X Y tc TT NB RG rc KT kc tl GR) 21 [(0, .ref (ad 0)), (1, .int (nI a)), (2, .int (nI b)), (3, .int (nI c)), (4, .long (lI (pg_tn X Y a b c))), (6, .int (nI k))] [] := by
    intro f
    induction f with
    | zero => intro k h1 h2; exact absurd h1 (by omega)
    | succ f ih =>
      intro k h1 h2 h3
      refine gz_iload E dX0_isDueTriangle_21 rfl ?_
      refine gz_aload_n E dX0_isDueTriangle_23 rfl rfl ?_
      refine gz_get E inwX0_isDueTriangle 0 2 dX0_isDueTriangle_24 flX0_isDueTriangle_16 rfl rfl (by decide) rfl rfl ?_
      refine gz_icN_ge (tgt := 156) E dX0_isDueTriangle_27 (by decide) (by omega) (by omega) (fun q27 => ?_) (fun q27 => ?_)
      · skip
        refine gz_iconst (v := 1) E dX0_isDueTriangle_156 (by decide) ?_
        exact ret _ _ _ _ dX0_isDueTriangle_157 rfl ⟨by first | exact gz_B_t (pg_TR_t hab hbc hc ht (fun d hd => h3 d (by omega))) | exact gz_B_f (pg_TR_f hab hbc hc (by assumption) (by unfold pg_Q; omega)), rfl⟩
      · skip
        refine gz_iload E dX0_isDueTriangle_30 rfl ?_
        refine gz_iload_n E dX0_isDueTriangle_32 rfl rfl ?_
        refine gz_icN_eq (tgt := 150) E dX0_isDueTriangle_33 (by decide) (by omega) (by omega) (fun q33 => ?_) (fun q33 => ?_)
        · skip
          refine gz_iinc (lv' := [(0, _), (1, _), (2, _), (3, _), (4, _), (6, _)]) E dX0_isDueTriangle_150 rfl (gz_nI1 _) (by decide) rfl ?_
          refine gz_goto (tgt := 21) E dX0_isDueTriangle_153 (by decide) ?_
          exact ih (k + 1) (by omega) (by omega) (fun j hj => by
            rcases (show j < k ∨ j = k by omega) with e | e
            · exact h3 j e
            · rw [e]; unfold pg_Q; omega)
        · skip
          refine gz_iload E dX0_isDueTriangle_36 rfl ?_
          refine gz_iload_n E dX0_isDueTriangle_38 rfl rfl ?_
          refine gz_icN_eq (tgt := 150) E dX0_isDueTriangle_39 (by decide) (by omega) (by omega) (fun q39 => ?_) (fun q39 => ?_)
          · skip
            refine gz_iinc (lv' := [(0, _), (1, _), (2, _), (3, _), (4, _), (6, _)]) E dX0_isDueTriangle_150 rfl (gz_nI1 _) (by decide) rfl ?_
            refine gz_goto (tgt := 21) E dX0_isDueTriangle_153 (by decide) ?_
            exact ih (k + 1) (by omega) (by omega) (fun j hj => by
              rcases (show j < k ∨ j = k by omega) with e | e
              · exact h3 j e
              · rw [e]; unfold pg_Q; omega)
          · skip
            refine gz_iload E dX0_isDueTriangle_42 rfl ?_
            refine gz_iload_n E dX0_isDueTriangle_44 rfl rfl ?_
            refine gz_icN_ne (tgt := 51) E dX0_isDueTriangle_45 (by decide) (by omega) (by omega) (fun q45 => ?_) (fun q45 => ?_)
            · skip
              have hkn : k < n := by omega
              have sb := pg_sg_b (pg_ic X Y a b c k)
              have s1 := pg_sg_pos (x := pg_ic X Y a b c k)
              have s2 := pg_sg_neg (x := pg_ic X Y a b c k)
              have s3 := pg_sg_0 (x := pg_ic X Y a b c k)
              have tk := pg_tn_b SB hb hc hkn
              have cc4 : pg_ic X Y a b c k = 0 → pg_tn X Y b c k ≠ 0 := fun q => pg_cc SB hb hc hkn ht q (by omega) (by omega)
              refine gz_aload_n E dX0_isDueTriangle_51 rfl rfl ?_
              refine gz_iload_n E dX0_isDueTriangle_52 rfl rfl ?_
              refine gz_iload_n E dX0_isDueTriangle_53 rfl rfl ?_
              refine gz_iload_n E dX0_isDueTriangle_54 rfl rfl ?_
              refine gz_iload E dX0_isDueTriangle_55 rfl ?_
              refine gz_cali (n := 4) E 0 dX0_isDueTriangle_57 gX0_isDueTriangle_X0_circleSide (mtX0_circleSide SB (by assumption) (by assumption) (by assumption) (by assumption)) rfl rfl ⟨rfl, rfl⟩ (by decide +kernel) ⟨Nat.le_of_ble_eq_true rfl, Nat.le_of_ble_eq_true rfl⟩ rfl rfl rfl rfl (Nat.le_of_ble_eq_true rfl) (fun r57 w57 hr57 => ?_)
              obtain ⟨rfl, rfl⟩ := hr57
              refine gz_istore (lv' := [(0, _), (1, _), (2, _), (3, _), (4, _), (6, _), (7, _)]) E dX0_isDueTriangle_60 (by decide) rfl ?_
              refine gz_iload E dX0_isDueTriangle_62 rfl ?_
              refine gz_ifI_ne (tgt := 123) E dX0_isDueTriangle_64 (by decide) (by omega) (by omega) (fun q64 => ?_) (fun q64 => ?_)
              · skip
                refine gz_iload E dX0_isDueTriangle_123 rfl ?_
                refine gz_ifI_le (tgt := 132) E dX0_isDueTriangle_125 (by decide) (by omega) (by omega) (fun q125 => ?_) (fun q125 => ?_)
                · skip
                  refine gz_iconst (v := nI 0) E dX0_isDueTriangle_132 (by decide) ?_
                  refine gz_lload E dX0_isDueTriangle_133 rfl ?_
                  refine gz_lconst (v := lI 0) E dX0_isDueTriangle_135 (by decide) ?_
                  refine gz_lcL_le (tgt := 144) E dX0_isDueTriangle_136 dX0_isDueTriangle_137 (by decide) (by omega) (by omega) (by omega) (by omega) (fun q136 => ?_) (fun q136 => ?_)
                  · skip
                    refine gz_iconst (v := nI 0) E dX0_isDueTriangle_144 (by decide) ?_
                    refine gz_icN_ne (tgt := 150) E dX0_isDueTriangle_145 (by decide) (by omega) (by omega) (fun q145 => ?_) (fun q145 => ?_)
                    · skip
                      refine gz_iinc (lv' := [(0, _), (1, _), (2, _), (3, _), (4, _), (6, _), (7, _)]) E dX0_isDueTriangle_150 rfl (gz_nI1 _) (by decide) rfl ?_
                      refine gz_goto (tgt := 21) E dX0_isDueTriangle_153 (by decide) ?_
                      refine gz_sub (lv' := [(0, _), (1, _), (2, _), (3, _), (4, _), (6, _)]) [0, 1, 2, 3, 4, 5] rfl ?_
                      exact ih (k + 1) (by omega) (by omega) (fun j hj => by
                        rcases (show j < k ∨ j = k by omega) with e | e
                        · exact h3 j e
                        · rw [e]; unfold pg_Q; omega)
                    · skip
                      refine gz_iconst (v := 0) E dX0_isDueTriangle_148 (by decide) ?_
                      exact ret _ _ _ _ dX0_isDueTriangle_149 rfl ⟨by first | exact gz_B_t (pg_TR_t hab hbc hc ht (fun d hd => h3 d (by omega))) | exact gz_B_f (pg_TR_f hab hbc hc (by assumption) (by unfold pg_Q; omega)), rfl⟩
                  · skip
                    refine gz_iconst (v := nI 1) E dX0_isDueTriangle_140 (by decide) ?_
                    refine gz_goto (tgt := 145) E dX0_isDueTriangle_141 (by decide) ?_
                    refine gz_icN_ne (tgt := 150) E dX0_isDueTriangle_145 (by decide) (by omega) (by omega) (fun q145 => ?_) (fun q145 => ?_)
                    · skip
                      refine gz_iinc (lv' := [(0, _), (1, _), (2, _), (3, _), (4, _), (6, _), (7, _)]) E dX0_isDueTriangle_150 rfl (gz_nI1 _) (by decide) rfl ?_
                      refine gz_goto (tgt := 21) E dX0_isDueTriangle_153 (by decide) ?_
                      refine gz_sub (lv' := [(0, _), (1, _), (2, _), (3, _), (4, _), (6, _)]) [0, 1, 2, 3, 4, 5] rfl ?_
                      exact ih (k + 1) (by omega) (by omega) (fun j hj => by
                        rcases (show j < k ∨ j = k by omega) with e | e
                        · exact h3 j e
                        · rw [e]; unfold pg_Q; omega)
                    · skip
                      refine gz_iconst (v := 0) E dX0_isDueTriangle_148 (by decide) ?_
                      exact ret _ _ _ _ dX0_isDueTriangle_149 rfl ⟨by first | exact gz_B_t (pg_TR_t hab hbc hc ht (fun d hd => h3 d (by omega))) | exact gz_B_f (pg_TR_f hab hbc hc (by assumption) (by unfold pg_Q; omega)), rfl⟩
                · skip
                  refine gz_iconst (v := nI 1) E dX0_isDueTriangle_128 (by decide) ?_
                  refine gz_goto (tgt := 133) E dX0_isDueTriangle_129 (by decide) ?_
                  refine gz_lload E dX0_isDueTriangle_133 rfl ?_
                  refine gz_lconst (v := lI 0) E dX0_isDueTriangle_135 (by decide) ?_
                  refine gz_lcL_le (tgt := 144) E dX0_isDueTriangle_136 dX0_isDueTriangle_137 (by decide) (by omega) (by omega) (by omega) (by omega) (fun q136 => ?_) (fun q136 => ?_)
                  · skip
                    refine gz_iconst (v := nI 0) E dX0_isDueTriangle_144 (by decide) ?_
                    refine gz_icN_ne (tgt := 150) E dX0_isDueTriangle_145 (by decide) (by omega) (by omega) (fun q145 => ?_) (fun q145 => ?_)
                    · skip
                      refine gz_iinc (lv' := [(0, _), (1, _), (2, _), (3, _), (4, _), (6, _), (7, _)]) E dX0_isDueTriangle_150 rfl (gz_nI1 _) (by decide) rfl ?_
                      refine gz_goto (tgt := 21) E dX0_isDueTriangle_153 (by decide) ?_
                      refine gz_sub (lv' := [(0, _), (1, _), (2, _), (3, _), (4, _), (6, _)]) [0, 1, 2, 3, 4, 5] rfl ?_
                      exact ih (k + 1) (by omega) (by omega) (fun j hj => by
                        rcases (show j < k ∨ j = k by omega) with e | e
                        · exact h3 j e
                        · rw [e]; unfold pg_Q; omega)
                    · skip
                      refine gz_iconst (v := 0) E dX0_isDueTriangle_148 (by decide) ?_
                      exact ret _ _ _ _ dX0_isDueTriangle_149 rfl ⟨by first | exact gz_B_t (pg_TR_t hab hbc hc ht (fun d hd => h3 d (by omega))) | exact gz_B_f (pg_TR_f hab hbc hc (by assumption) (by unfold pg_Q; omega)), rfl⟩
                  · skip
                    refine gz_iconst (v := nI 1) E dX0_isDueTriangle_140 (by decide) ?_
                    refine gz_goto (tgt := 145) E dX0_isDueTriangle_141 (by decide) ?_
                    refine gz_icN_ne (tgt := 150) E dX0_isDueTriangle_145 (by decide) (by omega) (by omega) (fun q145 => ?_) (fun q145 => ?_)
                    · skip
                      refine gz_iinc (lv' := [(0, _), (1, _), (2, _), (3, _), (4, _), (6, _), (7, _)]) E dX0_isDueTriangle_150 rfl (gz_nI1 _) (by decide) rfl ?_
                      refine gz_goto (tgt := 21) E dX0_isDueTriangle_153 (by decide) ?_
                      refine gz_sub (lv' := [(0, _), (1, _), (2, _), (3, _), (4, _), (6, _)]) [0, 1, 2, 3, 4, 5] rfl ?_
                      exact ih (k + 1) (by omega) (by omega) (fun j hj => by
                        rcases (show j < k ∨ j = k by omega) with e | e
                        · exact h3 j e
                        · rw [e]; unfold pg_Q; omega)
                    · skip
                      refine gz_iconst (v := 0) E dX0_isDueTriangle_148 (by decide) ?_
                      exact ret _ _ _ _ dX0_isDueTriangle_149 rfl ⟨by first | exact gz_B_t (pg_TR_t hab hbc hc ht (fun d hd => h3 d (by omega))) | exact gz_B_f (pg_TR_f hab hbc hc (by assumption) (by unfold pg_Q; omega)), rfl⟩
              · skip
                refine gz_aload_n E dX0_isDueTriangle_67 rfl rfl ?_
                refine gz_iload_n E dX0_isDueTriangle_68 rfl rfl ?_
                refine gz_iload_n E dX0_isDueTriangle_69 rfl rfl ?_
                refine gz_iload E dX0_isDueTriangle_70 rfl ?_
                refine gz_call (n := 3) E 0 dX0_isDueTriangle_72 gX0_isDueTriangle_X0_turn (mtX0_turn SB (by assumption) (by assumption) (by assumption)) rfl rfl ⟨rfl, rfl⟩ (by decide +kernel) ⟨Nat.le_of_ble_eq_true rfl, Nat.le_of_ble_eq_true rfl⟩ rfl rfl rfl rfl (Nat.le_of_ble_eq_true rfl) (fun r72 w72 hr72 => ?_)
                obtain ⟨rfl, rfl⟩ := hr72
                refine gz_lconst (v := lI 0) E dX0_isDueTriangle_75 (by decide) ?_
                refine gz_lcL_le (tgt := 84) E dX0_isDueTriangle_76 dX0_isDueTriangle_77 (by decide) (by omega) (by omega) (by omega) (by omega) (fun q76 => ?_) (fun q76 => ?_)
                · skip
                  refine gz_iconst (v := nI 0) E dX0_isDueTriangle_84 (by decide) ?_
                  refine gz_lload E dX0_isDueTriangle_85 rfl ?_
                  refine gz_lconst (v := lI 0) E dX0_isDueTriangle_87 (by decide) ?_
                  refine gz_lcL_le (tgt := 96) E dX0_isDueTriangle_88 dX0_isDueTriangle_89 (by decide) (by omega) (by omega) (by omega) (by omega) (fun q88 => ?_) (fun q88 => ?_)
                  · skip
                    refine gz_iconst (v := nI 0) E dX0_isDueTriangle_96 (by decide) ?_
                    refine gz_icN_eq (tgt := 104) E dX0_isDueTriangle_97 (by decide) (by omega) (by omega) (fun q97 => ?_) (fun q97 => ?_)
                    · skip
                      refine gz_iconst (v := nI 0) E dX0_isDueTriangle_104 (by decide) ?_
                      refine gz_istore (lv' := [(0, _), (1, _), (2, _), (3, _), (4, _), (6, _), (7, _), (8, _)]) E dX0_isDueTriangle_105 (by decide) rfl ?_
                      refine gz_iload E dX0_isDueTriangle_107 rfl ?_
                      refine gz_iload_n E dX0_isDueTriangle_109 rfl rfl ?_
                      refine gz_icN_lt (tgt := 118) E dX0_isDueTriangle_110 (by decide) (by omega) (by omega) (fun q110 => ?_) (fun q110 => ?_)
                      · skip
                        refine gz_iconst (v := 0) E dX0_isDueTriangle_118 (by decide) ?_
                        exact ret _ _ _ _ dX0_isDueTriangle_119 rfl ⟨by first | exact gz_B_t (pg_TR_t hab hbc hc ht (fun d hd => h3 d (by omega))) | exact gz_B_f (pg_TR_f hab hbc hc (by assumption) (by unfold pg_Q; omega)), rfl⟩
                      · skip
                        refine gz_iload E dX0_isDueTriangle_113 rfl ?_
                        refine gz_ifN_eq (tgt := 120) E dX0_isDueTriangle_115 (by decide) (by omega) (fun q115 => ?_) (fun q115 => ?_)
                        · skip
                          refine gz_goto (tgt := 150) E dX0_isDueTriangle_120 (by decide) ?_
                          refine gz_iinc (lv' := [(0, _), (1, _), (2, _), (3, _), (4, _), (6, _), (7, _), (8, _)]) E dX0_isDueTriangle_150 rfl (gz_nI1 _) (by decide) rfl ?_
                          refine gz_goto (tgt := 21) E dX0_isDueTriangle_153 (by decide) ?_
                          refine gz_sub (lv' := [(0, _), (1, _), (2, _), (3, _), (4, _), (6, _)]) [0, 1, 2, 3, 4, 5] rfl ?_
                          exact ih (k + 1) (by omega) (by omega) (fun j hj => by
                            rcases (show j < k ∨ j = k by omega) with e | e
                            · exact h3 j e
                            · rw [e]; unfold pg_Q; omega)
                        · skip
                          refine gz_iconst (v := 0) E dX0_isDueTriangle_118 (by decide) ?_
                          exact ret _ _ _ _ dX0_isDueTriangle_119 rfl ⟨by first | exact gz_B_t (pg_TR_t hab hbc hc ht (fun d hd => h3 d (by omega))) | exact gz_B_f (pg_TR_f hab hbc hc (by assumption) (by unfold pg_Q; omega)), rfl⟩
                    · skip
                      refine gz_iconst (v := nI 1) E dX0_isDueTriangle_100 (by decide) ?_
                      refine gz_goto (tgt := 105) E dX0_isDueTriangle_101 (by decide) ?_
                      refine gz_istore (lv' := [(0, _), (1, _), (2, _), (3, _), (4, _), (6, _), (7, _), (8, _)]) E dX0_isDueTriangle_105 (by decide) rfl ?_
                      refine gz_iload E dX0_isDueTriangle_107 rfl ?_
                      refine gz_iload_n E dX0_isDueTriangle_109 rfl rfl ?_
                      refine gz_icN_lt (tgt := 118) E dX0_isDueTriangle_110 (by decide) (by omega) (by omega) (fun q110 => ?_) (fun q110 => ?_)
                      · skip
                        refine gz_iconst (v := 0) E dX0_isDueTriangle_118 (by decide) ?_
                        exact ret _ _ _ _ dX0_isDueTriangle_119 rfl ⟨by first | exact gz_B_t (pg_TR_t hab hbc hc ht (fun d hd => h3 d (by omega))) | exact gz_B_f (pg_TR_f hab hbc hc (by assumption) (by unfold pg_Q; omega)), rfl⟩
                      · skip
                        refine gz_iload E dX0_isDueTriangle_113 rfl ?_
                        refine gz_ifN_eq (tgt := 120) E dX0_isDueTriangle_115 (by decide) (by omega) (fun q115 => ?_) (fun q115 => ?_)
                        · skip
                          refine gz_goto (tgt := 150) E dX0_isDueTriangle_120 (by decide) ?_
                          refine gz_iinc (lv' := [(0, _), (1, _), (2, _), (3, _), (4, _), (6, _), (7, _), (8, _)]) E dX0_isDueTriangle_150 rfl (gz_nI1 _) (by decide) rfl ?_
                          refine gz_goto (tgt := 21) E dX0_isDueTriangle_153 (by decide) ?_
                          refine gz_sub (lv' := [(0, _), (1, _), (2, _), (3, _), (4, _), (6, _)]) [0, 1, 2, 3, 4, 5] rfl ?_
                          exact ih (k + 1) (by omega) (by omega) (fun j hj => by
                            rcases (show j < k ∨ j = k by omega) with e | e
                            · exact h3 j e
                            · rw [e]; unfold pg_Q; omega)
                        · skip
                          refine gz_iconst (v := 0) E dX0_isDueTriangle_118 (by decide) ?_
                          exact ret _ _ _ _ dX0_isDueTriangle_119 rfl ⟨by first | exact gz_B_t (pg_TR_t hab hbc hc ht (fun d hd => h3 d (by omega))) | exact gz_B_f (pg_TR_f hab hbc hc (by assumption) (by unfold pg_Q; omega)), rfl⟩
                  · skip
                    refine gz_iconst (v := nI 1) E dX0_isDueTriangle_92 (by decide) ?_
                    refine gz_goto (tgt := 97) E dX0_isDueTriangle_93 (by decide) ?_
                    refine gz_icN_eq (tgt := 104) E dX0_isDueTriangle_97 (by decide) (by omega) (by omega) (fun q97 => ?_) (fun q97 => ?_)
                    · skip
                      refine gz_iconst (v := nI 0) E dX0_isDueTriangle_104 (by decide) ?_
                      refine gz_istore (lv' := [(0, _), (1, _), (2, _), (3, _), (4, _), (6, _), (7, _), (8, _)]) E dX0_isDueTriangle_105 (by decide) rfl ?_
                      refine gz_iload E dX0_isDueTriangle_107 rfl ?_
                      refine gz_iload_n E dX0_isDueTriangle_109 rfl rfl ?_
                      refine gz_icN_lt (tgt := 118) E dX0_isDueTriangle_110 (by decide) (by omega) (by omega) (fun q110 => ?_) (fun q110 => ?_)
                      · skip
                        refine gz_iconst (v := 0) E dX0_isDueTriangle_118 (by decide) ?_
                        exact ret _ _ _ _ dX0_isDueTriangle_119 rfl ⟨by first | exact gz_B_t (pg_TR_t hab hbc hc ht (fun d hd => h3 d (by omega))) | exact gz_B_f (pg_TR_f hab hbc hc (by assumption) (by unfold pg_Q; omega)), rfl⟩
                      · skip
                        refine gz_iload E dX0_isDueTriangle_113 rfl ?_
                        refine gz_ifN_eq (tgt := 120) E dX0_isDueTriangle_115 (by decide) (by omega) (fun q115 => ?_) (fun q115 => ?_)
                        · skip
                          refine gz_goto (tgt := 150) E dX0_isDueTriangle_120 (by decide) ?_
                          refine gz_iinc (lv' := [(0, _), (1, _), (2, _), (3, _), (4, _), (6, _), (7, _), (8, _)]) E dX0_isDueTriangle_150 rfl (gz_nI1 _) (by decide) rfl ?_
                          refine gz_goto (tgt := 21) E dX0_isDueTriangle_153 (by decide) ?_
                          refine gz_sub (lv' := [(0, _), (1, _), (2, _), (3, _), (4, _), (6, _)]) [0, 1, 2, 3, 4, 5] rfl ?_
                          exact ih (k + 1) (by omega) (by omega) (fun j hj => by
                            rcases (show j < k ∨ j = k by omega) with e | e
                            · exact h3 j e
                            · rw [e]; unfold pg_Q; omega)
                        · skip
                          refine gz_iconst (v := 0) E dX0_isDueTriangle_118 (by decide) ?_
                          exact ret _ _ _ _ dX0_isDueTriangle_119 rfl ⟨by first | exact gz_B_t (pg_TR_t hab hbc hc ht (fun d hd => h3 d (by omega))) | exact gz_B_f (pg_TR_f hab hbc hc (by assumption) (by unfold pg_Q; omega)), rfl⟩
                    · skip
                      refine gz_iconst (v := nI 1) E dX0_isDueTriangle_100 (by decide) ?_
                      refine gz_goto (tgt := 105) E dX0_isDueTriangle_101 (by decide) ?_
                      refine gz_istore (lv' := [(0, _), (1, _), (2, _), (3, _), (4, _), (6, _), (7, _), (8, _)]) E dX0_isDueTriangle_105 (by decide) rfl ?_
                      refine gz_iload E dX0_isDueTriangle_107 rfl ?_
                      refine gz_iload_n E dX0_isDueTriangle_109 rfl rfl ?_
                      refine gz_icN_lt (tgt := 118) E dX0_isDueTriangle_110 (by decide) (by omega) (by omega) (fun q110 => ?_) (fun q110 => ?_)
                      · skip
                        refine gz_iconst (v := 0) E dX0_isDueTriangle_118 (by decide) ?_
                        exact ret _ _ _ _ dX0_isDueTriangle_119 rfl ⟨by first | exact gz_B_t (pg_TR_t hab hbc hc ht (fun d hd => h3 d (by omega))) | exact gz_B_f (pg_TR_f hab hbc hc (by assumption) (by unfold pg_Q; omega)), rfl⟩
                      · skip
                        refine gz_iload E dX0_isDueTriangle_113 rfl ?_
                        refine gz_ifN_eq (tgt := 120) E dX0_isDueTriangle_115 (by decide) (by omega) (fun q115 => ?_) (fun q115 => ?_)
                        · skip
                          refine gz_goto (tgt := 150) E dX0_isDueTriangle_120 (by decide) ?_
                          refine gz_iinc (lv' := [(0, _), (1, _), (2, _), (3, _), (4, _), (6, _), (7, _), (8, _)]) E dX0_isDueTriangle_150 rfl (gz_nI1 _) (by decide) rfl ?_
                          refine gz_goto (tgt := 21) E dX0_isDueTriangle_153 (by decide) ?_
                          refine gz_sub (lv' := [(0, _), (1, _), (2, _), (3, _), (4, _), (6, _)]) [0, 1, 2, 3, 4, 5] rfl ?_
                          exact ih (k + 1) (by omega) (by omega) (fun j hj => by
                            rcases (show j < k ∨ j = k by omega) with e | e
                            · exact h3 j e
                            · rw [e]; unfold pg_Q; omega)
                        · skip
                          refine gz_iconst (v := 0) E dX0_isDueTriangle_118 (by decide) ?_
                          exact ret _ _ _ _ dX0_isDueTriangle_119 rfl ⟨by first | exact gz_B_t (pg_TR_t hab hbc hc ht (fun d hd => h3 d (by omega))) | exact gz_B_f (pg_TR_f hab hbc hc (by assumption) (by unfold pg_Q; omega)), rfl⟩
                · skip
                  refine gz_iconst (v := nI 1) E dX0_isDueTriangle_80 (by decide) ?_
                  refine gz_goto (tgt := 85) E dX0_isDueTriangle_81 (by decide) ?_
                  refine gz_lload E dX0_isDueTriangle_85 rfl ?_
                  refine gz_lconst (v := lI 0) E dX0_isDueTriangle_87 (by decide) ?_
                  refine gz_lcL_le (tgt := 96) E dX0_isDueTriangle_88 dX0_isDueTriangle_89 (by decide) (by omega) (by omega) (by omega) (by omega) (fun q88 => ?_) (fun q88 => ?_)
                  · skip
                    refine gz_iconst (v := nI 0) E dX0_isDueTriangle_96 (by decide) ?_
                    refine gz_icN_eq (tgt := 104) E dX0_isDueTriangle_97 (by decide) (by omega) (by omega) (fun q97 => ?_) (fun q97 => ?_)
                    · skip
                      refine gz_iconst (v := nI 0) E dX0_isDueTriangle_104 (by decide) ?_
                      refine gz_istore (lv' := [(0, _), (1, _), (2, _), (3, _), (4, _), (6, _), (7, _), (8, _)]) E dX0_isDueTriangle_105 (by decide) rfl ?_
                      refine gz_iload E dX0_isDueTriangle_107 rfl ?_
                      refine gz_iload_n E dX0_isDueTriangle_109 rfl rfl ?_
                      refine gz_icN_lt (tgt := 118) E dX0_isDueTriangle_110 (by decide) (by omega) (by omega) (fun q110 => ?_) (fun q110 => ?_)
                      · skip
                        refine gz_iconst (v := 0) E dX0_isDueTriangle_118 (by decide) ?_
                        exact ret _ _ _ _ dX0_isDueTriangle_119 rfl ⟨by first | exact gz_B_t (pg_TR_t hab hbc hc ht (fun d hd => h3 d (by omega))) | exact gz_B_f (pg_TR_f hab hbc hc (by assumption) (by unfold pg_Q; omega)), rfl⟩
                      · skip
                        refine gz_iload E dX0_isDueTriangle_113 rfl ?_
                        refine gz_ifN_eq (tgt := 120) E dX0_isDueTriangle_115 (by decide) (by omega) (fun q115 => ?_) (fun q115 => ?_)
                        · skip
                          refine gz_goto (tgt := 150) E dX0_isDueTriangle_120 (by decide) ?_
                          refine gz_iinc (lv' := [(0, _), (1, _), (2, _), (3, _), (4, _), (6, _), (7, _), (8, _)]) E dX0_isDueTriangle_150 rfl (gz_nI1 _) (by decide) rfl ?_
                          refine gz_goto (tgt := 21) E dX0_isDueTriangle_153 (by decide) ?_
                          refine gz_sub (lv' := [(0, _), (1, _), (2, _), (3, _), (4, _), (6, _)]) [0, 1, 2, 3, 4, 5] rfl ?_
                          exact ih (k + 1) (by omega) (by omega) (fun j hj => by
                            rcases (show j < k ∨ j = k by omega) with e | e
                            · exact h3 j e
                            · rw [e]; unfold pg_Q; omega)
                        · skip
                          refine gz_iconst (v := 0) E dX0_isDueTriangle_118 (by decide) ?_
                          exact ret _ _ _ _ dX0_isDueTriangle_119 rfl ⟨by first | exact gz_B_t (pg_TR_t hab hbc hc ht (fun d hd => h3 d (by omega))) | exact gz_B_f (pg_TR_f hab hbc hc (by assumption) (by unfold pg_Q; omega)), rfl⟩
                    · skip
                      refine gz_iconst (v := nI 1) E dX0_isDueTriangle_100 (by decide) ?_
                      refine gz_goto (tgt := 105) E dX0_isDueTriangle_101 (by decide) ?_
                      refine gz_istore (lv' := [(0, _), (1, _), (2, _), (3, _), (4, _), (6, _), (7, _), (8, _)]) E dX0_isDueTriangle_105 (by decide) rfl ?_
                      refine gz_iload E dX0_isDueTriangle_107 rfl ?_
                      refine gz_iload_n E dX0_isDueTriangle_109 rfl rfl ?_
                      refine gz_icN_lt (tgt := 118) E dX0_isDueTriangle_110 (by decide) (by omega) (by omega) (fun q110 => ?_) (fun q110 => ?_)
                      · skip
                        refine gz_iconst (v := 0) E dX0_isDueTriangle_118 (by decide) ?_
                        exact ret _ _ _ _ dX0_isDueTriangle_119 rfl ⟨by first | exact gz_B_t (pg_TR_t hab hbc hc ht (fun d hd => h3 d (by omega))) | exact gz_B_f (pg_TR_f hab hbc hc (by assumption) (by unfold pg_Q; omega)), rfl⟩
                      · skip
                        refine gz_iload E dX0_isDueTriangle_113 rfl ?_
                        refine gz_ifN_eq (tgt := 120) E dX0_isDueTriangle_115 (by decide) (by omega) (fun q115 => ?_) (fun q115 => ?_)
                        · skip
                          refine gz_goto (tgt := 150) E dX0_isDueTriangle_120 (by decide) ?_
                          refine gz_iinc (lv' := [(0, _), (1, _), (2, _), (3, _), (4, _), (6, _), (7, _), (8, _)]) E dX0_isDueTriangle_150 rfl (gz_nI1 _) (by decide) rfl ?_
                          refine gz_goto (tgt := 21) E dX0_isDueTriangle_153 (by decide) ?_
                          refine gz_sub (lv' := [(0, _), (1, _), (2, _), (3, _), (4, _), (6, _)]) [0, 1, 2, 3, 4, 5] rfl ?_
                          exact ih (k + 1) (by omega) (by omega) (fun j hj => by
                            rcases (show j < k ∨ j = k by omega) with e | e
                            · exact h3 j e
                            · rw [e]; unfold pg_Q; omega)
                        · skip
                          refine gz_iconst (v := 0) E dX0_isDueTriangle_118 (by decide) ?_
                          exact ret _ _ _ _ dX0_isDueTriangle_119 rfl ⟨by first | exact gz_B_t (pg_TR_t hab hbc hc ht (fun d hd => h3 d (by omega))) | exact gz_B_f (pg_TR_f hab hbc hc (by assumption) (by unfold pg_Q; omega)), rfl⟩
                  · skip
                    refine gz_iconst (v := nI 1) E dX0_isDueTriangle_92 (by decide) ?_
                    refine gz_goto (tgt := 97) E dX0_isDueTriangle_93 (by decide) ?_
                    refine gz_icN_eq (tgt := 104) E dX0_isDueTriangle_97 (by decide) (by omega) (by omega) (fun q97 => ?_) (fun q97 => ?_)
                    · skip
                      refine gz_iconst (v := nI 0) E dX0_isDueTriangle_104 (by decide) ?_
                      refine gz_istore (lv' := [(0, _), (1, _), (2, _), (3, _), (4, _), (6, _), (7, _), (8, _)]) E dX0_isDueTriangle_105 (by decide) rfl ?_
                      refine gz_iload E dX0_isDueTriangle_107 rfl ?_
                      refine gz_iload_n E dX0_isDueTriangle_109 rfl rfl ?_
                      refine gz_icN_lt (tgt := 118) E dX0_isDueTriangle_110 (by decide) (by omega) (by omega) (fun q110 => ?_) (fun q110 => ?_)
                      · skip
                        refine gz_iconst (v := 0) E dX0_isDueTriangle_118 (by decide) ?_
                        exact ret _ _ _ _ dX0_isDueTriangle_119 rfl ⟨by first | exact gz_B_t (pg_TR_t hab hbc hc ht (fun d hd => h3 d (by omega))) | exact gz_B_f (pg_TR_f hab hbc hc (by assumption) (by unfold pg_Q; omega)), rfl⟩
                      · skip
                        refine gz_iload E dX0_isDueTriangle_113 rfl ?_
                        refine gz_ifN_eq (tgt := 120) E dX0_isDueTriangle_115 (by decide) (by omega) (fun q115 => ?_) (fun q115 => ?_)
                        · skip
                          refine gz_goto (tgt := 150) E dX0_isDueTriangle_120 (by decide) ?_
                          refine gz_iinc (lv' := [(0, _), (1, _), (2, _), (3, _), (4, _), (6, _), (7, _), (8, _)]) E dX0_isDueTriangle_150 rfl (gz_nI1 _) (by decide) rfl ?_
                          refine gz_goto (tgt := 21) E dX0_isDueTriangle_153 (by decide) ?_
                          refine gz_sub (lv' := [(0, _), (1, _), (2, _), (3, _), (4, _), (6, _)]) [0, 1, 2, 3, 4, 5] rfl ?_
                          exact ih (k + 1) (by omega) (by omega) (fun j hj => by
                            rcases (show j < k ∨ j = k by omega) with e | e
                            · exact h3 j e
                            · rw [e]; unfold pg_Q; omega)
                        · skip
                          refine gz_iconst (v := 0) E dX0_isDueTriangle_118 (by decide) ?_
                          exact ret _ _ _ _ dX0_isDueTriangle_119 rfl ⟨by first | exact gz_B_t (pg_TR_t hab hbc hc ht (fun d hd => h3 d (by omega))) | exact gz_B_f (pg_TR_f hab hbc hc (by assumption) (by unfold pg_Q; omega)), rfl⟩
                    · skip
                      refine gz_iconst (v := nI 1) E dX0_isDueTriangle_100 (by decide) ?_
                      refine gz_goto (tgt := 105) E dX0_isDueTriangle_101 (by decide) ?_
                      refine gz_istore (lv' := [(0, _), (1, _), (2, _), (3, _), (4, _), (6, _), (7, _), (8, _)]) E dX0_isDueTriangle_105 (by decide) rfl ?_
                      refine gz_iload E dX0_isDueTriangle_107 rfl ?_
                      refine gz_iload_n E dX0_isDueTriangle_109 rfl rfl ?_
                      refine gz_icN_lt (tgt := 118) E dX0_isDueTriangle_110 (by decide) (by omega) (by omega) (fun q110 => ?_) (fun q110 => ?_)
                      · skip
                        refine gz_iconst (v := 0) E dX0_isDueTriangle_118 (by decide) ?_
                        exact ret _ _ _ _ dX0_isDueTriangle_119 rfl ⟨by first | exact gz_B_t (pg_TR_t hab hbc hc ht (fun d hd => h3 d (by omega))) | exact gz_B_f (pg_TR_f hab hbc hc (by assumption) (by unfold pg_Q; omega)), rfl⟩
                      · skip
                        refine gz_iload E dX0_isDueTriangle_113 rfl ?_
                        refine gz_ifN_eq (tgt := 120) E dX0_isDueTriangle_115 (by decide) (by omega) (fun q115 => ?_) (fun q115 => ?_)
                        · skip
                          refine gz_goto (tgt := 150) E dX0_isDueTriangle_120 (by decide) ?_
                          refine gz_iinc (lv' := [(0, _), (1, _), (2, _), (3, _), (4, _), (6, _), (7, _), (8, _)]) E dX0_isDueTriangle_150 rfl (gz_nI1 _) (by decide) rfl ?_
                          refine gz_goto (tgt := 21) E dX0_isDueTriangle_153 (by decide) ?_
                          refine gz_sub (lv' := [(0, _), (1, _), (2, _), (3, _), (4, _), (6, _)]) [0, 1, 2, 3, 4, 5] rfl ?_
                          exact ih (k + 1) (by omega) (by omega) (fun j hj => by
                            rcases (show j < k ∨ j = k by omega) with e | e
                            · exact h3 j e
                            · rw [e]; unfold pg_Q; omega)
                        · skip
                          refine gz_iconst (v := 0) E dX0_isDueTriangle_118 (by decide) ?_
                          exact ret _ _ _ _ dX0_isDueTriangle_119 rfl ⟨by first | exact gz_B_t (pg_TR_t hab hbc hc ht (fun d hd => h3 d (by omega))) | exact gz_B_f (pg_TR_f hab hbc hc (by assumption) (by unfold pg_Q; omega)), rfl⟩
            · skip
              refine gz_goto (tgt := 150) E dX0_isDueTriangle_48 (by decide) ?_
              refine gz_iinc (lv' := [(0, _), (1, _), (2, _), (3, _), (4, _), (6, _)]) E dX0_isDueTriangle_150 rfl (gz_nI1 _) (by decide) rfl ?_
              refine gz_goto (tgt := 21) E dX0_isDueTriangle_153 (by decide) ?_
              exact ih (k + 1) (by omega) (by omega) (fun j hj => by
                rcases (show j < k ∨ j = k by omega) with e | e
                · exact h3 j e
                · rw [e]; unfold pg_Q; omega)
  refine gz_aload_n E dX0_isDueTriangle_0 rfl rfl ?_
  refine gz_iload_n E dX0_isDueTriangle_1 rfl rfl ?_
  refine gz_iload_n E dX0_isDueTriangle_2 rfl rfl ?_
  refine gz_iload_n E dX0_isDueTriangle_3 rfl rfl ?_
  refine gz_call (n := 3) E 0 dX0_isDueTriangle_4 gX0_isDueTriangle_X0_turn (mtX0_turn SB (by assumption) (by assumption) (by assumption)) rfl rfl ⟨rfl, rfl⟩ (by decide +kernel) ⟨Nat.le_of_ble_eq_true rfl, Nat.le_of_ble_eq_true rfl⟩ rfl rfl rfl rfl (Nat.le_of_ble_eq_true rfl) (fun r4 w4 hr4 => ?_)
  obtain ⟨rfl, rfl⟩ := hr4
  refine gz_lstore (lv' := [(0, _), (1, _), (2, _), (3, _), (4, _)]) E dX0_isDueTriangle_7 (by decide) rfl ?_
  refine gz_lload E dX0_isDueTriangle_9 rfl ?_
  refine gz_lconst (v := lI 0) E dX0_isDueTriangle_11 (by decide) ?_
  refine gz_lcL_ne (tgt := 18) E dX0_isDueTriangle_12 dX0_isDueTriangle_13 (by decide) (by omega) (by omega) (by omega) (by omega) (fun q12 => ?_) (fun q12 => ?_)
  · skip
    refine gz_iconst (v := nI 0) E dX0_isDueTriangle_18 (by decide) ?_
    refine gz_istore (lv' := [(0, _), (1, _), (2, _), (3, _), (4, _), (6, _)]) E dX0_isDueTriangle_19 (by decide) rfl ?_
    exact loop (n + 1) 0 (by omega) (by omega) (fun j hj => absurd hj (by omega))
  · exact absurd q12 ht
end CB
end
section
/-! what the parts of a state say of the sites -/
section PS
variable {X Y : Nat → Int} {n : Nat}
/-- no other site on the straight way from a to b -/
def pg_WF (n : Nat) (X Y : Nat → Int) (a b : Nat) : Prop := ∀ m, m < n → ¬ (pg_tn X Y a b m = 0 ∧ pg_dt X Y m a b < 0)
/-- a, b is a side of the whole, every site on it between them -/
def pg_RS (n : Nat) (X Y : Nat → Int) (a b : Nat) : Prop := ∀ m, m < n → 0 ≤ pg_tn X Y a b m ∧ ¬ (pg_tn X Y a b m = 0 ∧ 0 < pg_dt X Y m a b)
def pg_NR (n : Nat) (X Y : Nat → Int) (a b : Nat) : Prop := ∀ m, m < n → 0 ≤ pg_tn X Y a b m
/-- b follows a on the way round; nothing follows a -/
def pg_NX (n : Nat) (X Y : Nat → Int) (a b : Nat) : Prop := b < n ∧ b ≠ a ∧ pg_RS n X Y a b ∧ ∀ c, c < b → c ≠ a → ¬ pg_RS n X Y a c
def pg_NN (n : Nat) (X Y : Nat → Int) (a : Nat) : Prop := ∀ b, b < n → b ≠ a → ¬ pg_RS n X Y a b
theorem pg_NX_u {a b b' : Nat} (h : pg_NX n X Y a b) (h' : pg_NX n X Y a b') : b = b' := by
  rcases Nat.lt_trichotomy b b' with q | q | q
  · exact absurd h.2.2.1 (h'.2.2.2 b q h.2.1)
  · exact q
  · exact absurd h'.2.2.1 (h.2.2.2 b' q h'.2.1)
theorem pg_NX_NN {a b : Nat} (h : pg_NX n X Y a b) (h' : pg_NN n X Y a) : False := h' b h.1 h.2.1 h.2.2.1
def pg_cd (A B C : Nat → Nat) (t : Nat) : Nat := A t * 256 + B t * 16 + C t
/-- A, B, C number the triangles whose number in the order is below q, in this order -/
def pg_EN (n : Nat) (X Y : Nat → Int) (q tc : Nat) (A B C : Nat → Nat) : Prop := (∀ t, t < tc → pg_TR n X Y (A t, B t, C t) ∧ pg_cd A B C t < q) ∧ (∀ t, t + 1 < tc → pg_cd A B C t < pg_cd A B C (t + 1)) ∧ ∀ a b c, pg_TR n X Y (a, b, c) → a * 256 + b * 16 + c < q → ∃ t, t < tc ∧ A t = a ∧ B t = b ∧ C t = c
theorem pg_TR_lt {a b c : Nat} (h : pg_TR n X Y (a, b, c)) : a < b ∧ b < c ∧ c < n := by
  obtain ⟨h1, h2, h3⟩ := h
  refine ⟨h1, h2, ?_⟩
  rcases h3 with h3 | h3
  · exact h3.2.2.1
  · exact h3.2.1
theorem pg_EN_0 {A B C : Nat → Nat} : pg_EN n X Y 0 0 A B C := ⟨fun t h => absurd h (by omega), fun t h => absurd h (by omega), fun a b c _ h => absurd h (by omega)⟩
theorem pg_EN_jump {q q' tc : Nat} {A B C : Nat → Nat} (h : pg_EN n X Y q tc A B C) (hq : q ≤ q') (hn : ∀ a b c, a < b → b < c → c < n → a * 256 + b * 16 + c < q' → a * 256 + b * 16 + c < q) : pg_EN n X Y q' tc A B C :=
  ⟨fun t ht => ⟨(h.1 t ht).1, by have := (h.1 t ht).2; omega⟩, h.2.1, fun a b c hT hlt => by
    obtain ⟨k1, k2, k3⟩ := pg_TR_lt hT
    exact h.2.2 a b c hT (hn a b c k1 k2 k3 hlt)⟩
theorem pg_EN_no {a b c tc : Nat} {A B C : Nat → Nat} (hn : n ≤ 14) (hb : b < n) (hc : c < n) (h : pg_EN n X Y (a * 256 + b * 16 + c) tc A B C) (hT : ¬ pg_TR n X Y (a, b, c)) : pg_EN n X Y (a * 256 + b * 16 + (c + 1)) tc A B C :=
  ⟨fun t ht => ⟨(h.1 t ht).1, by have := (h.1 t ht).2; omega⟩, h.2.1, fun a' b' c' hT' hlt => by
    obtain ⟨k1, k2, k3⟩ := pg_TR_lt hT'
    by_cases e : a' * 256 + b' * 16 + c' < a * 256 + b * 16 + c
    · exact h.2.2 a' b' c' hT' e
    · have e1 : a' = a := by omega
      have e2 : b' = b := by omega
      have e3 : c' = c := by omega
      subst e1 e2 e3
      exact absurd hT' hT⟩
theorem pg_cd_mono {tc : Nat} {A B C : Nat → Nat} (h : ∀ t, t + 1 < tc → pg_cd A B C t < pg_cd A B C (t + 1)) : ∀ (j i : Nat), i < j → j < tc → pg_cd A B C i < pg_cd A B C j
  | 0, i, h1, _ => absurd h1 (by omega)
  | j + 1, i, h1, h2 => by
    have a := h j h2
    by_cases e : i = j
    · rw [e]; exact a
    · have := pg_cd_mono h j i (by omega) (by omega)
      omega
theorem pg_nd {tc : Nat} {A B C : Nat → Nat} (h : ∀ t, t + 1 < tc → pg_cd A B C t < pg_cd A B C (t + 1)) : ((List.range tc).map (fun t => (A t, B t, C t))).Nodup := by
  unfold List.Nodup
  rw [List.pairwise_map]
  refine List.Pairwise.imp_of_mem ?_ (List.pairwise_lt_range (n := tc))
  intro i j hi hj hij e
  have e1 := Prod.mk.inj e
  have e2 := Prod.mk.inj e1.2
  have := pg_cd_mono h j i hij (List.mem_range.mp hj)
  unfold pg_cd at this
  omega
theorem pg_EN_23 (ok : pg_ok n X Y) {q tc : Nat} {A B C : Nat → Nat} (h : pg_EN n X Y q tc A B C) : tc ≤ 23 := by
  have := pg_bound ok _ (pg_nd h.2.1) (fun t ht => by
    obtain ⟨i, h1, h2⟩ := List.mem_map.mp ht
    rw [← h2]
    exact (h.1 i (List.mem_range.mp h1)).1)
  rw [List.length_map, List.length_range] at this
  exact this
theorem pg_EN_add {a b c tc : Nat} {A B C : Nat → Nat} (hn : n ≤ 14) (hb : b < n) (hc : c < n) (h : pg_EN n X Y (a * 256 + b * 16 + c) tc A B C) (hT : pg_TR n X Y (a, b, c)) : pg_EN n X Y (a * 256 + b * 16 + (c + 1)) (tc + 1) (fun i => if i = tc then a else A i) (fun i => if i = tc then b else B i) (fun i => if i = tc then c else C i) := by
  have cd1 : pg_cd (fun i => if i = tc then a else A i) (fun i => if i = tc then b else B i) (fun i => if i = tc then c else C i) tc = a * 256 + b * 16 + c := by simp [pg_cd]
  have cd2 : ∀ t, t ≠ tc → pg_cd (fun i => if i = tc then a else A i) (fun i => if i = tc then b else B i) (fun i => if i = tc then c else C i) t = pg_cd A B C t := fun t ht => by simp [pg_cd, ht]
  refine ⟨fun t ht => ?_, fun t ht => ?_, fun a' b' c' hT' hlt => ?_⟩
  · by_cases e : t = tc
    · subst e
      refine ⟨by simpa using hT, ?_⟩
      rw [cd1]; omega
    · refine ⟨by simpa [e] using (h.1 t (by omega)).1, ?_⟩
      rw [cd2 t e]
      have := (h.1 t (by omega)).2
      omega
  · by_cases e : t + 1 = tc
    · rw [e, cd1, cd2 t (by omega)]
      exact (h.1 t (by omega)).2
    · rw [cd2 t (by omega), cd2 (t + 1) e]
      exact h.2.1 t (by omega)
  · obtain ⟨k1, k2, k3⟩ := pg_TR_lt hT'
    by_cases e : a' * 256 + b' * 16 + c' < a * 256 + b * 16 + c
    · obtain ⟨t, t1, t2, t3, t4⟩ := h.2.2 a' b' c' hT' e
      have n1 : t ≠ tc := by omega
      exact ⟨t, by omega, by simp [n1, t2], by simp [n1, t3], by simp [n1, t4]⟩
    · have e1 : a' = a := by omega
      have e2 : b' = b := by omega
      have e3 : c' = c := by omega
      exact ⟨tc, by omega, by simp [e1], by simp [e2], by simp [e3]⟩
theorem pg_EN_lt (ok : pg_ok n X Y) {a b c tc : Nat} {A B C : Nat → Nat} (hb : b < n) (hc : c < n) (h : pg_EN n X Y (a * 256 + b * 16 + c) tc A B C) (hT : pg_TR n X Y (a, b, c)) : tc < 23 := by
  have := pg_EN_23 ok (pg_EN_add ok.1 hb hc h hT)
  omega
/-- two full rows of the triangles are one -/
theorem pg_EN_u {tc tc' : Nat} {A B C A' B' C' : Nat → Nat} (hn : n ≤ 14) (h : pg_EN n X Y 4096 tc A B C) (h' : pg_EN n X Y 4096 tc' A' B' C') : tc = tc' ∧ ∀ t, t < tc → A t = A' t ∧ B t = B' t ∧ C t = C' t := by
  have key : ∀ (p q : Nat) (F G : Nat → Nat), (∀ j i, i < j → j < p → F i < F j) → (∀ j i, i < j → j < q → G i < G j) → (∀ i, i < p → ∃ j, j < q ∧ G j = F i) → (∀ j, j < q → ∃ i, i < p ∧ F i = G j) → ∀ t, (t < p → t < q ∧ F t = G t) ∧ (t < q → t < p ∧ F t = G t) := by
    intro p q F G mF mG iF iG t
    induction t using Nat.strongRecOn with
    | ind t ih =>
      constructor
      · intro ht
        obtain ⟨j, j1, j2⟩ := iF t ht
        rcases Nat.lt_trichotomy j t with e | e | e
        · have a := (ih j e).2 j1
          have b := mF t j e ht
          omega
        · subst e; exact ⟨j1, j2.symm⟩
        · have htq : t < q := by omega
          obtain ⟨i, i1, i2⟩ := iG t htq
          have g := mG j t e j1
          rcases Nat.lt_trichotomy i t with d | d | d
          · have a := (ih i d).1 i1
            have b := mG t i d htq
            omega
          · subst d; omega
          · have b := mF i t d i1
            omega
      · intro ht
        obtain ⟨i, i1, i2⟩ := iG t ht
        rcases Nat.lt_trichotomy i t with e | e | e
        · have a := (ih i e).1 i1
          have b := mG t i e ht
          omega
        · subst e; exact ⟨i1, i2⟩
        · have htp : t < p := by omega
          obtain ⟨j, j1, j2⟩ := iF t htp
          have g := mF i t e i1
          rcases Nat.lt_trichotomy j t with d | d | d
          · have a := (ih j d).2 j1
            have b := mF t j d htp
            omega
          · subst d; omega
          · have b := mG j t d j1
            omega
  have b16 : ∀ {a b c : Nat}, pg_TR n X Y (a, b, c) → a < 14 ∧ b < 14 ∧ c < 14 := fun hT => by
    have := pg_TR_lt hT
    omega
  have r := key tc tc' (pg_cd A B C) (pg_cd A' B' C') (pg_cd_mono h.2.1) (pg_cd_mono h'.2.1) (fun i hi => by
    obtain ⟨t, t1, t2, t3, t4⟩ := h'.2.2 _ _ _ (h.1 i hi).1 (h.1 i hi).2
    exact ⟨t, t1, by simp [pg_cd, t2, t3, t4]⟩) (fun i hi => by
    obtain ⟨t, t1, t2, t3, t4⟩ := h.2.2 _ _ _ (h'.1 i hi).1 (h'.1 i hi).2
    exact ⟨t, t1, by simp [pg_cd, t2, t3, t4]⟩)
  refine ⟨?_, fun t ht => ?_⟩
  · rcases Nat.lt_trichotomy tc tc' with e | e | e
    · have := ((r tc).2 e).1; omega
    · exact e
    · have := ((r tc').1 e).1; omega
  · obtain ⟨k1, k2⟩ := (r t).1 ht
    have a := b16 (h.1 t ht).1
    have b := b16 (h'.1 t k1).1
    unfold pg_cd at k2
    omega
end PS
end
section
/-! the class: sides of the whole, ways, the next corner -/
section CC
variable {l : Launch} {D : va_G} {ad : Nat → Nat} {cI cJ : ClassId} {n tc rc kc : Nat} {X Y : Nat → Int} {TT NB RG KT GR : Nat → Nat} {tl : Int}
abbrev rmX0_isWayFree : Room := { frames := 2, cells := 0, slots := 0, locals := 44 }
theorem inwX0_isWayFree : ∀ w ∈ wsX00, w ∈ wsX0_isWayFree := fun _ h => List.mem_cons_of_mem _ (List.mem_append_right _ h)
set_option maxRecDepth 20000 in
theorem flX0_isWayFree_16 : Cond.fieldLink RX0 16 RX0 (TX0 2).2.1 (TX0 2).2.2.1 ∈ wsX0_isWayFree := by decide +kernel
set_option maxRecDepth 20000 in
set_option maxHeartbeats 4000000 in
theorem mtX0_isWayFree (SB : pg_ok n X Y) {a b : Nat} (ha : a < n) (hb : b < n) : gz_Ki l yX0_isWayFree wsX0_isWayFree rmX0_isWayFree D [(cI, .int), (cJ, .long)] [.ref (ad 0), .int (nI a), .int (nI b)] (wC ad cI n X Y tc TT NB RG rc KT kc tl GR) (fun r w1 => gz_B r (pg_WF n X Y a b) ∧ w1 = (wC ad cI n X Y tc TT NB RG rc KT kc tl GR)) := by
  refine gz_ofi (cc := cX0_isWayFree) (maxL := 4) (own := RX0) (by decide +kernel) rfl rfl rfl (Nat.le_of_ble_eq_true rfl) ?_
  intro z E ret
  have hn := SB.1
  show gz_G z _ 0 [(0, .ref (ad 0)), (1, .int (nI a)), (2, .int (nI b))] []
  have loop : ∀ (f k : Nat), n < f + k → k ≤ n → (∀ m, m < k → ¬ (pg_tn X Y a b m = 0 ∧ pg_dt X Y m a b < 0)) → gz_G z (wC ad cI n X Y tc TT NB RG rc KT kc tl GR) 2 [(0, .ref (ad 0)), (1, .int (nI a)), (2, .int (nI b)), (3, .int (nI k))] [] := by
    intro f
    induction f with
    | zero => intro k h1 h2; exact absurd h1 (by omega)
    | succ f ih =>
      intro k h1 h2 h3
      refine gz_iload_n E dX0_isWayFree_2 rfl rfl ?_
      refine gz_aload_n E dX0_isWayFree_3 rfl rfl ?_
      refine gz_get E inwX0_isWayFree 0 2 dX0_isWayFree_4 flX0_isWayFree_16 rfl rfl (by decide) rfl rfl ?_
      refine gz_icN_ge (tgt := 42) E dX0_isWayFree_7 (by decide) (by omega) (by omega) (fun q7 => ?_) (fun q7 => ?_)
      · skip
        refine gz_iconst (v := 1) E dX0_isWayFree_42 (by decide) ?_
        exact ret _ _ _ _ dX0_isWayFree_43 rfl ⟨by first | exact gz_B_t (fun m hm => h3 m (by omega)) | exact gz_B_f (fun q => absurd (q k (by omega)) (by omega)), rfl⟩
      · skip
        have hk : k < n := by omega
        have tk := pg_tn_b SB ha hb hk
        have dk := pg_dt_b SB hk ha hb
        refine gz_aload_n E dX0_isWayFree_10 rfl rfl ?_
        refine gz_iload_n E dX0_isWayFree_11 rfl rfl ?_
        refine gz_iload_n E dX0_isWayFree_12 rfl rfl ?_
        refine gz_iload_n E dX0_isWayFree_13 rfl rfl ?_
        refine gz_call (n := 3) E 0 dX0_isWayFree_14 gX0_isWayFree_X0_turn (mtX0_turn SB (by assumption) (by assumption) (by assumption)) rfl rfl ⟨rfl, rfl⟩ (by decide +kernel) ⟨Nat.le_of_ble_eq_true rfl, Nat.le_of_ble_eq_true rfl⟩ rfl rfl rfl rfl (Nat.le_of_ble_eq_true rfl) (fun r14 w14 hr14 => ?_)
        obtain ⟨rfl, rfl⟩ := hr14
        refine gz_lconst (v := lI 0) E dX0_isWayFree_17 (by decide) ?_
        refine gz_lcL_ne (tgt := 36) E dX0_isWayFree_18 dX0_isWayFree_19 (by decide) (by omega) (by omega) (by omega) (by omega) (fun q18 => ?_) (fun q18 => ?_)
        · skip
          refine gz_iinc (lv' := [(0, _), (1, _), (2, _), (3, _)]) E dX0_isWayFree_36 rfl (gz_nI1 _) (by decide) rfl ?_
          refine gz_goto (tgt := 2) E dX0_isWayFree_39 (by decide) ?_
          exact ih (k + 1) (by omega) (by omega) (fun j hj => by
            rcases (show j < k ∨ j = k by omega) with e | e
            · exact h3 j e
            · rw [e]; omega)
        · skip
          refine gz_aload_n E dX0_isWayFree_22 rfl rfl ?_
          refine gz_iload_n E dX0_isWayFree_23 rfl rfl ?_
          refine gz_iload_n E dX0_isWayFree_24 rfl rfl ?_
          refine gz_iload_n E dX0_isWayFree_25 rfl rfl ?_
          refine gz_call (n := 3) E 0 dX0_isWayFree_26 gX0_isWayFree_X0_dot (mtX0_dot SB (by assumption) (by assumption) (by assumption)) rfl rfl ⟨rfl, rfl⟩ (by decide +kernel) ⟨Nat.le_of_ble_eq_true rfl, Nat.le_of_ble_eq_true rfl⟩ rfl rfl rfl rfl (Nat.le_of_ble_eq_true rfl) (fun r26 w26 hr26 => ?_)
          obtain ⟨rfl, rfl⟩ := hr26
          refine gz_lconst (v := lI 0) E dX0_isWayFree_29 (by decide) ?_
          refine gz_lcL_ge (tgt := 36) E dX0_isWayFree_30 dX0_isWayFree_31 (by decide) (by omega) (by omega) (by omega) (by omega) (fun q30 => ?_) (fun q30 => ?_)
          · skip
            refine gz_iinc (lv' := [(0, _), (1, _), (2, _), (3, _)]) E dX0_isWayFree_36 rfl (gz_nI1 _) (by decide) rfl ?_
            refine gz_goto (tgt := 2) E dX0_isWayFree_39 (by decide) ?_
            exact ih (k + 1) (by omega) (by omega) (fun j hj => by
              rcases (show j < k ∨ j = k by omega) with e | e
              · exact h3 j e
              · rw [e]; omega)
          · skip
            refine gz_iconst (v := 0) E dX0_isWayFree_34 (by decide) ?_
            exact ret _ _ _ _ dX0_isWayFree_35 rfl ⟨by first | exact gz_B_t (fun m hm => h3 m (by omega)) | exact gz_B_f (fun q => absurd (q k (by omega)) (by omega)), rfl⟩
  refine gz_iconst (v := nI 0) E dX0_isWayFree_0 (by decide) ?_
  refine gz_istore_n (lv' := [(0, _), (1, _), (2, _), (3, _)]) E dX0_isWayFree_1 rfl (by decide) rfl ?_
  exact loop (n + 1) 0 (by omega) (by omega) (fun j hj => absurd hj (by omega))
abbrev rmX0_isRingSide : Room := { frames := 2, cells := 0, slots := 0, locals := 44 }
theorem inwX0_isRingSide : ∀ w ∈ wsX00, w ∈ wsX0_isRingSide := fun _ h => List.mem_cons_of_mem _ (List.mem_append_right _ h)
set_option maxRecDepth 20000 in
theorem flX0_isRingSide_16 : Cond.fieldLink RX0 16 RX0 (TX0 2).2.1 (TX0 2).2.2.1 ∈ wsX0_isRingSide := by decide +kernel
set_option maxRecDepth 20000 in
set_option maxHeartbeats 4000000 in
theorem mtX0_isRingSide (SB : pg_ok n X Y) {a b : Nat} (ha : a < n) (hb : b < n) : gz_Ki l yX0_isRingSide wsX0_isRingSide rmX0_isRingSide D [(cI, .int), (cJ, .long)] [.ref (ad 0), .int (nI a), .int (nI b)] (wC ad cI n X Y tc TT NB RG rc KT kc tl GR) (fun r w1 => gz_B r (pg_RS n X Y a b) ∧ w1 = (wC ad cI n X Y tc TT NB RG rc KT kc tl GR)) := by
  refine gz_ofi (cc := cX0_isRingSide) (maxL := 6) (own := RX0) (by decide +kernel) rfl rfl rfl (Nat.le_of_ble_eq_true rfl) ?_
  intro z E ret
  have hn := SB.1
  show gz_G z _ 0 [(0, .ref (ad 0)), (1, .int (nI a)), (2, .int (nI b))] []
  have loop : ∀ (f k : Nat), n < f + k → k ≤ n → (∀ m, m < k → 0 ≤ pg_tn X Y a b m ∧ ¬ (pg_tn X Y a b m = 0 ∧ 0 < pg_dt X Y m a b)) → gz_G z (wC ad cI n X Y tc TT NB RG rc KT kc tl GR) 2 [(0, .ref (ad 0)), (1, .int (nI a)), (2, .int (nI b)), (3, .int (nI k))] [] := by
    intro f
    induction f with
    | zero => intro k h1 h2; exact absurd h1 (by omega)
    | succ f ih =>
      intro k h1 h2 h3
      refine gz_iload_n E dX0_isRingSide_2 rfl rfl ?_
      refine gz_aload_n E dX0_isRingSide_3 rfl rfl ?_
      refine gz_get E inwX0_isRingSide 0 2 dX0_isRingSide_4 flX0_isRingSide_16 rfl rfl (by decide) rfl rfl ?_
      refine gz_icN_ge (tgt := 53) E dX0_isRingSide_7 (by decide) (by omega) (by omega) (fun q7 => ?_) (fun q7 => ?_)
      · skip
        refine gz_iconst (v := 1) E dX0_isRingSide_53 (by decide) ?_
        exact ret _ _ _ _ dX0_isRingSide_54 rfl ⟨by first | exact gz_B_t (fun m hm => h3 m (by omega)) | exact gz_B_f (fun q => absurd (q k (by omega)) (by omega)), rfl⟩
      · skip
        have hk : k < n := by omega
        have tk := pg_tn_b SB ha hb hk
        have dk := pg_dt_b SB hk ha hb
        refine gz_aload_n E dX0_isRingSide_10 rfl rfl ?_
        refine gz_iload_n E dX0_isRingSide_11 rfl rfl ?_
        refine gz_iload_n E dX0_isRingSide_12 rfl rfl ?_
        refine gz_iload_n E dX0_isRingSide_13 rfl rfl ?_
        refine gz_call (n := 3) E 0 dX0_isRingSide_14 gX0_isRingSide_X0_turn (mtX0_turn SB (by assumption) (by assumption) (by assumption)) rfl rfl ⟨rfl, rfl⟩ (by decide +kernel) ⟨Nat.le_of_ble_eq_true rfl, Nat.le_of_ble_eq_true rfl⟩ rfl rfl rfl rfl (Nat.le_of_ble_eq_true rfl) (fun r14 w14 hr14 => ?_)
        obtain ⟨rfl, rfl⟩ := hr14
        refine gz_lstore (lv' := [(0, _), (1, _), (2, _), (3, _), (4, _)]) E dX0_isRingSide_17 (by decide) rfl ?_
        refine gz_lload E dX0_isRingSide_19 rfl ?_
        refine gz_lconst (v := lI 0) E dX0_isRingSide_21 (by decide) ?_
        refine gz_lcL_lt (tgt := 45) E dX0_isRingSide_22 dX0_isRingSide_23 (by decide) (by omega) (by omega) (by omega) (by omega) (fun q22 => ?_) (fun q22 => ?_)
        · skip
          refine gz_iconst (v := 0) E dX0_isRingSide_45 (by decide) ?_
          exact ret _ _ _ _ dX0_isRingSide_46 rfl ⟨by first | exact gz_B_t (fun m hm => h3 m (by omega)) | exact gz_B_f (fun q => absurd (q k (by omega)) (by omega)), rfl⟩
        · skip
          refine gz_lload E dX0_isRingSide_26 rfl ?_
          refine gz_lconst (v := lI 0) E dX0_isRingSide_28 (by decide) ?_
          refine gz_lcL_ne (tgt := 47) E dX0_isRingSide_29 dX0_isRingSide_30 (by decide) (by omega) (by omega) (by omega) (by omega) (fun q29 => ?_) (fun q29 => ?_)
          · skip
            refine gz_iinc (lv' := [(0, _), (1, _), (2, _), (3, _), (4, _)]) E dX0_isRingSide_47 rfl (gz_nI1 _) (by decide) rfl ?_
            refine gz_goto (tgt := 2) E dX0_isRingSide_50 (by decide) ?_
            refine gz_sub (lv' := [(0, _), (1, _), (2, _), (3, _)]) [0, 1, 2, 3] rfl ?_
            exact ih (k + 1) (by omega) (by omega) (fun j hj => by
              rcases (show j < k ∨ j = k by omega) with e | e
              · exact h3 j e
              · rw [e]; omega)
          · skip
            refine gz_aload_n E dX0_isRingSide_33 rfl rfl ?_
            refine gz_iload_n E dX0_isRingSide_34 rfl rfl ?_
            refine gz_iload_n E dX0_isRingSide_35 rfl rfl ?_
            refine gz_iload_n E dX0_isRingSide_36 rfl rfl ?_
            refine gz_call (n := 3) E 0 dX0_isRingSide_37 gX0_isRingSide_X0_dot (mtX0_dot SB (by assumption) (by assumption) (by assumption)) rfl rfl ⟨rfl, rfl⟩ (by decide +kernel) ⟨Nat.le_of_ble_eq_true rfl, Nat.le_of_ble_eq_true rfl⟩ rfl rfl rfl rfl (Nat.le_of_ble_eq_true rfl) (fun r37 w37 hr37 => ?_)
            obtain ⟨rfl, rfl⟩ := hr37
            refine gz_lconst (v := lI 0) E dX0_isRingSide_40 (by decide) ?_
            refine gz_lcL_le (tgt := 47) E dX0_isRingSide_41 dX0_isRingSide_42 (by decide) (by omega) (by omega) (by omega) (by omega) (fun q41 => ?_) (fun q41 => ?_)
            · skip
              refine gz_iinc (lv' := [(0, _), (1, _), (2, _), (3, _), (4, _)]) E dX0_isRingSide_47 rfl (gz_nI1 _) (by decide) rfl ?_
              refine gz_goto (tgt := 2) E dX0_isRingSide_50 (by decide) ?_
              refine gz_sub (lv' := [(0, _), (1, _), (2, _), (3, _)]) [0, 1, 2, 3] rfl ?_
              exact ih (k + 1) (by omega) (by omega) (fun j hj => by
                rcases (show j < k ∨ j = k by omega) with e | e
                · exact h3 j e
                · rw [e]; omega)
            · skip
              refine gz_iconst (v := 0) E dX0_isRingSide_45 (by decide) ?_
              exact ret _ _ _ _ dX0_isRingSide_46 rfl ⟨by first | exact gz_B_t (fun m hm => h3 m (by omega)) | exact gz_B_f (fun q => absurd (q k (by omega)) (by omega)), rfl⟩
  refine gz_iconst (v := nI 0) E dX0_isRingSide_0 (by decide) ?_
  refine gz_istore_n (lv' := [(0, _), (1, _), (2, _), (3, _)]) E dX0_isRingSide_1 rfl (by decide) rfl ?_
  exact loop (n + 1) 0 (by omega) (by omega) (fun j hj => absurd hj (by omega))
abbrev rmX0_noneTurnsRight : Room := { frames := 2, cells := 0, slots := 0, locals := 44 }
theorem inwX0_noneTurnsRight : ∀ w ∈ wsX00, w ∈ wsX0_noneTurnsRight := fun _ h => List.mem_cons_of_mem _ (List.mem_append_right _ h)
set_option maxRecDepth 20000 in
theorem flX0_noneTurnsRight_16 : Cond.fieldLink RX0 16 RX0 (TX0 2).2.1 (TX0 2).2.2.1 ∈ wsX0_noneTurnsRight := by decide +kernel
set_option maxRecDepth 20000 in
set_option maxHeartbeats 4000000 in
theorem mtX0_noneTurnsRight (SB : pg_ok n X Y) {a b : Nat} (ha : a < n) (hb : b < n) : gz_Ki l yX0_noneTurnsRight wsX0_noneTurnsRight rmX0_noneTurnsRight D [(cI, .int), (cJ, .long)] [.ref (ad 0), .int (nI a), .int (nI b)] (wC ad cI n X Y tc TT NB RG rc KT kc tl GR) (fun r w1 => gz_B r (pg_NR n X Y a b) ∧ w1 = (wC ad cI n X Y tc TT NB RG rc KT kc tl GR)) := by
  refine gz_ofi (cc := cX0_noneTurnsRight) (maxL := 4) (own := RX0) (by decide +kernel) rfl rfl rfl (Nat.le_of_ble_eq_true rfl) ?_
  intro z E ret
  have hn := SB.1
  show gz_G z _ 0 [(0, .ref (ad 0)), (1, .int (nI a)), (2, .int (nI b))] []
  have loop : ∀ (f k : Nat), n < f + k → k ≤ n → (∀ m, m < k → 0 ≤ pg_tn X Y a b m) → gz_G z (wC ad cI n X Y tc TT NB RG rc KT kc tl GR) 2 [(0, .ref (ad 0)), (1, .int (nI a)), (2, .int (nI b)), (3, .int (nI k))] [] := by
    intro f
    induction f with
    | zero => intro k h1 h2; exact absurd h1 (by omega)
    | succ f ih =>
      intro k h1 h2 h3
      refine gz_iload_n E dX0_noneTurnsRight_2 rfl rfl ?_
      refine gz_aload_n E dX0_noneTurnsRight_3 rfl rfl ?_
      refine gz_get E inwX0_noneTurnsRight 0 2 dX0_noneTurnsRight_4 flX0_noneTurnsRight_16 rfl rfl (by decide) rfl rfl ?_
      refine gz_icN_ge (tgt := 30) E dX0_noneTurnsRight_7 (by decide) (by omega) (by omega) (fun q7 => ?_) (fun q7 => ?_)
      · skip
        refine gz_iconst (v := 1) E dX0_noneTurnsRight_30 (by decide) ?_
        exact ret _ _ _ _ dX0_noneTurnsRight_31 rfl ⟨by first | exact gz_B_t (fun m hm => h3 m (by omega)) | exact gz_B_f (fun q => absurd (q k (by omega)) (by omega)), rfl⟩
      · skip
        have hk : k < n := by omega
        have tk := pg_tn_b SB ha hb hk
        have dk := pg_dt_b SB hk ha hb
        refine gz_aload_n E dX0_noneTurnsRight_10 rfl rfl ?_
        refine gz_iload_n E dX0_noneTurnsRight_11 rfl rfl ?_
        refine gz_iload_n E dX0_noneTurnsRight_12 rfl rfl ?_
        refine gz_iload_n E dX0_noneTurnsRight_13 rfl rfl ?_
        refine gz_call (n := 3) E 0 dX0_noneTurnsRight_14 gX0_noneTurnsRight_X0_turn (mtX0_turn SB (by assumption) (by assumption) (by assumption)) rfl rfl ⟨rfl, rfl⟩ (by decide +kernel) ⟨Nat.le_of_ble_eq_true rfl, Nat.le_of_ble_eq_true rfl⟩ rfl rfl rfl rfl (Nat.le_of_ble_eq_true rfl) (fun r14 w14 hr14 => ?_)
        obtain ⟨rfl, rfl⟩ := hr14
        refine gz_lconst (v := lI 0) E dX0_noneTurnsRight_17 (by decide) ?_
        refine gz_lcL_ge (tgt := 24) E dX0_noneTurnsRight_18 dX0_noneTurnsRight_19 (by decide) (by omega) (by omega) (by omega) (by omega) (fun q18 => ?_) (fun q18 => ?_)
        · skip
          refine gz_iinc (lv' := [(0, _), (1, _), (2, _), (3, _)]) E dX0_noneTurnsRight_24 rfl (gz_nI1 _) (by decide) rfl ?_
          refine gz_goto (tgt := 2) E dX0_noneTurnsRight_27 (by decide) ?_
          exact ih (k + 1) (by omega) (by omega) (fun j hj => by
            rcases (show j < k ∨ j = k by omega) with e | e
            · exact h3 j e
            · rw [e]; omega)
        · skip
          refine gz_iconst (v := 0) E dX0_noneTurnsRight_22 (by decide) ?_
          exact ret _ _ _ _ dX0_noneTurnsRight_23 rfl ⟨by first | exact gz_B_t (fun m hm => h3 m (by omega)) | exact gz_B_f (fun q => absurd (q k (by omega)) (by omega)), rfl⟩
  refine gz_iconst (v := nI 0) E dX0_noneTurnsRight_0 (by decide) ?_
  refine gz_istore_n (lv' := [(0, _), (1, _), (2, _), (3, _)]) E dX0_noneTurnsRight_1 rfl (by decide) rfl ?_
  exact loop (n + 1) 0 (by omega) (by omega) (fun j hj => absurd hj (by omega))
abbrev rmX0_nextCorner : Room := { frames := 3, cells := 0, slots := 0, locals := 69 }
theorem inwX0_nextCorner : ∀ w ∈ wsX00, w ∈ wsX0_nextCorner := fun _ h => List.mem_cons_of_mem _ (List.mem_append_right _ h)
set_option maxRecDepth 20000 in
theorem flX0_nextCorner_16 : Cond.fieldLink RX0 16 RX0 (TX0 2).2.1 (TX0 2).2.2.1 ∈ wsX0_nextCorner := by decide +kernel
set_option maxRecDepth 20000 in
set_option maxHeartbeats 4000000 in
theorem mtX0_nextCorner (SB : pg_ok n X Y) {a : Nat} (ha : a < n) : gz_Ki l yX0_nextCorner wsX0_nextCorner rmX0_nextCorner D [(cI, .int), (cJ, .long)] [.ref (ad 0), .int (nI a)] (wC ad cI n X Y tc TT NB RG rc KT kc tl GR) (fun r w1 => ((∃ b, pg_NX n X Y a b ∧ r = nI b) ∨ (r = -1 ∧ pg_NN n X Y a)) ∧ w1 = (wC ad cI n X Y tc TT NB RG rc KT kc tl GR)) := by
  refine gz_ofi (cc := cX0_nextCorner) (maxL := 3) (own := RX0) (by decide +kernel) rfl rfl rfl (Nat.le_of_ble_eq_true rfl) ?_
  intro z E ret
  have hn := SB.1
  show gz_G z _ 0 [(0, .ref (ad 0)), (1, .int (nI a))] []
  have loop : ∀ (f k : Nat), n < f + k → k ≤ n → (∀ c, c < k → c ≠ a → ¬ pg_RS n X Y a c) → gz_G z (wC ad cI n X Y tc TT NB RG rc KT kc tl GR) 2 [(0, .ref (ad 0)), (1, .int (nI a)), (2, .int (nI k))] [] := by
    intro f
    induction f with
    | zero => intro k h1 h2; exact absurd h1 (by omega)
    | succ f ih =>
      intro k h1 h2 h3
      refine gz_iload_n E dX0_nextCorner_2 rfl rfl ?_
      refine gz_aload_n E dX0_nextCorner_3 rfl rfl ?_
      refine gz_get E inwX0_nextCorner 0 2 dX0_nextCorner_4 flX0_nextCorner_16 rfl rfl (by decide) rfl rfl ?_
      refine gz_icN_ge (tgt := 32) E dX0_nextCorner_7 (by decide) (by omega) (by omega) (fun q7 => ?_) (fun q7 => ?_)
      · skip
        refine gz_iconst (v := -1) E dX0_nextCorner_32 (by decide) ?_
        exact ret _ _ _ _ dX0_nextCorner_33 rfl ⟨Or.inr ⟨rfl, fun b hb hne => h3 b (by omega) hne⟩, rfl⟩
      · skip
        have hk : k < n := by omega
        refine gz_iload_n E dX0_nextCorner_10 rfl rfl ?_
        refine gz_iload_n E dX0_nextCorner_11 rfl rfl ?_
        refine gz_icN_eq (tgt := 26) E dX0_nextCorner_12 (by decide) (by omega) (by omega) (fun q12 => ?_) (fun q12 => ?_)
        · skip
          refine gz_iinc (lv' := [(0, _), (1, _), (2, _)]) E dX0_nextCorner_26 rfl (gz_nI1 _) (by decide) rfl ?_
          refine gz_goto (tgt := 2) E dX0_nextCorner_29 (by decide) ?_
          exact ih (k + 1) (by omega) (by omega) (fun j hj hne => by
            rcases (show j < k ∨ j = k by omega) with e | e
            · exact h3 j e hne
            · first | exact absurd (e.trans (by assumption)) hne | (rw [e]; assumption))
        · skip
          refine gz_aload_n E dX0_nextCorner_15 rfl rfl ?_
          refine gz_iload_n E dX0_nextCorner_16 rfl rfl ?_
          refine gz_iload_n E dX0_nextCorner_17 rfl rfl ?_
          refine gz_cali (n := 2) E 0 dX0_nextCorner_18 gX0_nextCorner_X0_isRingSide (mtX0_isRingSide SB (by assumption) (by assumption)) rfl rfl ⟨rfl, rfl⟩ (by decide +kernel) ⟨Nat.le_of_ble_eq_true rfl, Nat.le_of_ble_eq_true rfl⟩ rfl rfl rfl rfl (Nat.le_of_ble_eq_true rfl) (fun r18 w18 hr18 => ?_)
          obtain ⟨hr18, rfl⟩ := hr18
          refine gz_ifB_eq (tgt := 26) E hr18 dX0_nextCorner_21 (by decide) (fun q21 => ?_) (fun q21 => ?_)
          · skip
            refine gz_iinc (lv' := [(0, _), (1, _), (2, _)]) E dX0_nextCorner_26 rfl (gz_nI1 _) (by decide) rfl ?_
            refine gz_goto (tgt := 2) E dX0_nextCorner_29 (by decide) ?_
            exact ih (k + 1) (by omega) (by omega) (fun j hj hne => by
              rcases (show j < k ∨ j = k by omega) with e | e
              · exact h3 j e hne
              · first | exact absurd (e.trans (by assumption)) hne | (rw [e]; assumption))
          · skip
            refine gz_iload_n E dX0_nextCorner_24 rfl rfl ?_
            exact ret _ _ _ _ dX0_nextCorner_25 rfl ⟨Or.inl ⟨k, ⟨by omega, by omega, by assumption, h3⟩, rfl⟩, rfl⟩
  refine gz_iconst (v := nI 0) E dX0_nextCorner_0 (by decide) ?_
  refine gz_istore_n (lv' := [(0, _), (1, _), (2, _)]) E dX0_nextCorner_1 rfl (by decide) rfl ?_
  exact loop (n + 1) 0 (by omega) (by omega) (fun j hj => absurd hj (by omega))
abbrev rmX0_leastCorner : Room := { frames := 4, cells := 0, slots := 0, locals := 91 }
theorem inwX0_leastCorner : ∀ w ∈ wsX00, w ∈ wsX0_leastCorner := fun _ h => List.mem_cons_of_mem _ (List.mem_append_right _ h)
set_option maxRecDepth 20000 in
theorem flX0_leastCorner_16 : Cond.fieldLink RX0 16 RX0 (TX0 2).2.1 (TX0 2).2.2.1 ∈ wsX0_leastCorner := by decide +kernel
set_option maxRecDepth 20000 in
set_option maxHeartbeats 4000000 in
theorem mtX0_leastCorner (SB : pg_ok n X Y) : gz_Ki l yX0_leastCorner wsX0_leastCorner rmX0_leastCorner D [(cI, .int), (cJ, .long)] [.ref (ad 0)] (wC ad cI n X Y tc TT NB RG rc KT kc tl GR) (fun r w1 => ((n = 1 ∧ r = nI 0) ∨ (n ≠ 1 ∧ ∃ a b, a < n ∧ pg_NX n X Y a b ∧ (∀ c, c < a → pg_NN n X Y c) ∧ r = nI a) ∨ (n ≠ 1 ∧ r = -1 ∧ ∀ c, c < n → pg_NN n X Y c)) ∧ w1 = (wC ad cI n X Y tc TT NB RG rc KT kc tl GR)) := by
  refine gz_ofi (cc := cX0_leastCorner) (maxL := 2) (own := RX0) (by decide +kernel) rfl rfl rfl (Nat.le_of_ble_eq_true rfl) ?_
  intro z E ret
  have hn := SB.1
  show gz_G z _ 0 [(0, .ref (ad 0))] []
  have loop : n ≠ 1 → ∀ (f k : Nat), n < f + k → k ≤ n → (∀ c, c < k → pg_NN n X Y c) → gz_G z (wC ad cI n X Y tc TT NB RG rc KT kc tl GR) 12 [(0, .ref (ad 0)), (1, .int (nI k))] [] := by
    intro hn1 f
    induction f with
    | zero => intro k h1 h2; exact absurd h1 (by omega)
    | succ f ih =>
      intro k h1 h2 h3
      refine gz_iload_n E dX0_leastCorner_12 rfl rfl ?_
      refine gz_aload_n E dX0_leastCorner_13 rfl rfl ?_
      refine gz_get E inwX0_leastCorner 0 2 dX0_leastCorner_14 flX0_leastCorner_16 rfl rfl (by decide) rfl rfl ?_
      refine gz_icN_ge (tgt := 36) E dX0_leastCorner_17 (by decide) (by omega) (by omega) (fun q17 => ?_) (fun q17 => ?_)
      · skip
        refine gz_iconst (v := -1) E dX0_leastCorner_36 (by decide) ?_
        exact ret _ _ _ _ dX0_leastCorner_37 rfl ⟨Or.inr (Or.inr ⟨by omega, rfl, fun c hc => h3 c (by omega)⟩), rfl⟩
      · skip
        have hk : k < n := by omega
        refine gz_aload_n E dX0_leastCorner_20 rfl rfl ?_
        refine gz_iload_n E dX0_leastCorner_21 rfl rfl ?_
        refine gz_cali (n := 1) E 0 dX0_leastCorner_22 gX0_leastCorner_X0_nextCorner (mtX0_nextCorner SB (by assumption)) rfl rfl ⟨rfl, rfl⟩ (by decide +kernel) ⟨Nat.le_of_ble_eq_true rfl, Nat.le_of_ble_eq_true rfl⟩ rfl rfl rfl rfl (Nat.le_of_ble_eq_true rfl) (fun r22 w22 hr22 => ?_)
        obtain ⟨hr22, rfl⟩ := hr22
        refine gz_if_lt (tgt := 30) E dX0_leastCorner_25 (by decide) (fun q25 => ?_) (fun q25 => ?_)
        · skip
          refine gz_iinc (lv' := [(0, _), (1, _)]) E dX0_leastCorner_30 rfl (gz_nI1 _) (by decide) rfl ?_
          refine gz_goto (tgt := 12) E dX0_leastCorner_33 (by decide) ?_
          exact ih (k + 1) (by omega) (by omega) (fun j hj => by
            rcases (show j < k ∨ j = k by omega) with e | e
            · exact h3 j e
            · rcases hr22 with ⟨b, hb1, hb2⟩ | ⟨-, hb⟩
              · exact absurd (hb2 ▸ q25) (nI_pos (by have := hb1.1; omega))
              · rw [e]; exact hb)
        · skip
          refine gz_iload_n E dX0_leastCorner_28 rfl rfl ?_
          rcases hr22 with ⟨b, hb1, hb2⟩ | ⟨hb, -⟩
          · exact ret _ _ _ _ dX0_leastCorner_29 rfl ⟨Or.inr (Or.inl ⟨by omega, k, b, by omega, hb1, h3, rfl⟩), rfl⟩
          · exact absurd (by rw [hb]; decide) q25
  refine gz_aload_n E dX0_leastCorner_0 rfl rfl ?_
  refine gz_get E inwX0_leastCorner 0 2 dX0_leastCorner_1 flX0_leastCorner_16 rfl rfl (by decide) rfl rfl ?_
  refine gz_iconst (v := nI 1) E dX0_leastCorner_4 (by decide) ?_
  refine gz_icN_ne (tgt := 10) E dX0_leastCorner_5 (by decide) (by omega) (by omega) (fun q5 => ?_) (fun q5 => ?_)
  · skip
    refine gz_iconst (v := nI 0) E dX0_leastCorner_10 (by decide) ?_
    refine gz_istore_n (lv' := [(0, _), (1, _)]) E dX0_leastCorner_11 rfl (by decide) rfl ?_
    exact loop (by omega) (n + 1) 0 (by omega) (by omega) (fun j hj => absurd hj (by omega))
  · skip
    refine gz_iconst (v := 0) E dX0_leastCorner_8 (by decide) ?_
    exact ret _ _ _ _ dX0_leastCorner_9 rfl ⟨Or.inl ⟨by omega, rfl⟩, rfl⟩
end CC
end
section
/-! the row of triangles packed; the tree's steps -/
section PT
variable {X Y : Nat → Int} {n : Nat}
def pg_ENT (n : Nat) (X Y : Nat → Int) (q tc : Nat) (TT : Nat → Nat) : Prop := ∃ A B C, pg_EN n X Y q tc A B C ∧ ∀ t, t < tc → TT t = A t + 16 * B t + 256 * C t
theorem pg_ENT_0 {TT : Nat → Nat} : pg_ENT n X Y 0 0 TT := ⟨fun _ => 0, fun _ => 0, fun _ => 0, pg_EN_0, fun t h => absurd h (by omega)⟩
theorem pg_ENT_jump {q q' tc : Nat} {TT : Nat → Nat} (h : pg_ENT n X Y q tc TT) (hq : q ≤ q') (hn : ∀ a b c, a < b → b < c → c < n → a * 256 + b * 16 + c < q' → a * 256 + b * 16 + c < q) : pg_ENT n X Y q' tc TT := by
  obtain ⟨A, B, C, h1, h2⟩ := h
  exact ⟨A, B, C, pg_EN_jump h1 hq hn, h2⟩
theorem pg_ENT_no {a b c tc : Nat} {TT : Nat → Nat} (hn : n ≤ 14) (hb : b < n) (hc : c < n) (h : pg_ENT n X Y (a * 256 + b * 16 + c) tc TT) (hT : ¬ pg_TR n X Y (a, b, c)) : pg_ENT n X Y (a * 256 + b * 16 + (c + 1)) tc TT := by
  obtain ⟨A, B, C, h1, h2⟩ := h
  exact ⟨A, B, C, pg_EN_no hn hb hc h1 hT, h2⟩
theorem pg_ENT_add {a b c tc : Nat} {TT : Nat → Nat} (hn : n ≤ 14) (hb : b < n) (hc : c < n) (h : pg_ENT n X Y (a * 256 + b * 16 + c) tc TT) (hT : pg_TR n X Y (a, b, c)) : pg_ENT n X Y (a * 256 + b * 16 + (c + 1)) (tc + 1) (fun i => if i = tc then a + 16 * b + 256 * c else TT i) := by
  obtain ⟨A, B, C, h1, h2⟩ := h
  refine ⟨_, _, _, pg_EN_add hn hb hc h1 hT, fun t ht => ?_⟩
  by_cases e : t = tc
  · simp [e]
  · simp only [if_neg e]
    exact h2 t (by omega)
theorem pg_ENT_lt (ok : pg_ok n X Y) {a b c tc : Nat} {TT : Nat → Nat} (hb : b < n) (hc : c < n) (h : pg_ENT n X Y (a * 256 + b * 16 + c) tc TT) (hT : pg_TR n X Y (a, b, c)) : tc < 23 := by
  obtain ⟨A, B, C, h1, h2⟩ := h
  exact pg_EN_lt ok hb hc h1 hT
set_option maxRecDepth 20000 in
theorem pg_ENT_A {tc a : Nat} {TT : Nat → Nat} (hn : n ≤ 14) (h : pg_ENT n X Y (a * 256) tc TT) : pg_ENT n X Y (a * 256 + (a + 1) * 16) tc TT := by
  refine pg_ENT_jump h ?_ ?_
  · omega
  · intro a' b' c' _ _ _ _
    omega
set_option maxRecDepth 20000 in
theorem pg_ENT_B {tc a b : Nat} {TT : Nat → Nat} (hn : n ≤ 14) (hb : b < n) (h : pg_ENT n X Y (a * 256 + b * 16) tc TT) : pg_ENT n X Y (a * 256 + b * 16 + (b + 1)) tc TT := by
  refine pg_ENT_jump h ?_ ?_
  · omega
  · intro a' b' c' _ _ _ _
    omega
set_option maxRecDepth 20000 in
theorem pg_ENT_C {tc a b : Nat} {TT : Nat → Nat} (hn : n ≤ 14) (h : pg_ENT n X Y (a * 256 + b * 16 + n) tc TT) : pg_ENT n X Y (a * 256 + (b + 1) * 16) tc TT := by
  refine pg_ENT_jump h ?_ ?_
  · omega
  · intro a' b' c' _ _ _ _
    omega
set_option maxRecDepth 20000 in
theorem pg_ENT_D {tc a : Nat} {TT : Nat → Nat} (hn : n ≤ 14) (h : pg_ENT n X Y (a * 256 + n * 16) tc TT) : pg_ENT n X Y ((a + 1) * 256) tc TT := by
  refine pg_ENT_jump h ?_ ?_
  · omega
  · intro a' b' c' _ _ _ _
    omega
set_option maxRecDepth 20000 in
theorem pg_ENT_E {tc : Nat} {TT : Nat → Nat} (hn : n ≤ 14) (h : pg_ENT n X Y (n * 256) tc TT) : pg_ENT n X Y 4096 tc TT := by
  refine pg_ENT_jump h ?_ ?_
  · omega
  · intro a' b' c' _ _ _ _
    omega
theorem pg_ENT_23 (ok : pg_ok n X Y) {q tc : Nat} {TT : Nat → Nat} (h : pg_ENT n X Y q tc TT) : tc ≤ 23 := by
  obtain ⟨A, B, C, h1, h2⟩ := h
  exact pg_EN_23 ok h1
/-- an edge's bit -/
def pg_EB (NB : Nat → Nat) (i j : Nat) : Prop := NB i / 2 ^ j % 2 = 1
theorem pg_EB_tb {NB : Nat → Nat} {i j : Nat} : pg_EB NB i j ↔ (NB i).testBit j = true := by
  unfold pg_EB
  rw [Nat.testBit_eq_decide_div_mod_eq]
  simp
theorem pg_EB_or {x j k : Nat} : (x ||| 2 ^ k) / 2 ^ j % 2 = 1 ↔ (x / 2 ^ j % 2 = 1 ∨ j = k) := by
  have h1 : (x ||| 2 ^ k).testBit j = (x.testBit j || (2 ^ k).testBit j) := Nat.testBit_or x (2 ^ k) j
  rw [Nat.testBit_two_pow] at h1
  rw [Nat.testBit_eq_decide_div_mod_eq, Nat.testBit_eq_decide_div_mod_eq] at h1
  constructor
  · intro h
    rw [h] at h1
    by_cases e : x / 2 ^ j % 2 = 1
    · exact Or.inl e
    · simp [e] at h1
      exact Or.inr h1.symm
  · intro h
    rcases h with h | h
    · simp [h] at h1; exact h1
    · simp [h] at h1; rw [h]; exact h1
/-- a pair that may be taken; the pair that is taken -/
def pg_CA (n : Nat) (E : Nat → Nat → Prop) (GR : Nat → Nat) (a b : Nat) : Prop := a < b ∧ b < n ∧ E a b ∧ GR a ≠ GR b
def pg_SEL (n : Nat) (X Y : Nat → Int) (E : Nat → Nat → Prop) (GR : Nat → Nat) (x y : Nat) : Prop := pg_CA n E GR x y ∧ ∀ a b, pg_CA n E GR a b → pg_gp X Y x y < pg_gp X Y a b ∨ (pg_gp X Y x y = pg_gp X Y a b ∧ x * 16 + y ≤ a * 16 + b)
theorem pg_SEL_u {E : Nat → Nat → Prop} {GR : Nat → Nat} {x y x' y' : Nat} (hn : n ≤ 14) (h : pg_SEL n X Y E GR x y) (h' : pg_SEL n X Y E GR x' y') : x = x' ∧ y = y' := by
  have a := h.2 x' y' h'.1
  have b := h'.2 x y h.1
  have c := h.1
  have d := h'.1
  unfold pg_CA at c d
  omega
theorem pg_SEL_c {E E' : Nat → Nat → Prop} {GR GR' : Nat → Nat} {x y : Nat} (hE : ∀ a b, a < n → b < n → (E a b ↔ E' a b)) (hG : ∀ i, i < n → GR i = GR' i) (h : pg_SEL n X Y E GR x y) : pg_SEL n X Y E' GR' x y := by
  have ca : ∀ a b, pg_CA n E GR a b ↔ pg_CA n E' GR' a b := fun a b => by
    unfold pg_CA
    constructor
    · rintro ⟨h1, h2, h3, h4⟩
      exact ⟨h1, h2, (hE a b (by omega) h2).mp h3, by rw [← hG a (by omega), ← hG b h2]; exact h4⟩
    · rintro ⟨h1, h2, h3, h4⟩
      exact ⟨h1, h2, (hE a b (by omega) h2).mpr h3, by rw [hG a (by omega), hG b h2]; exact h4⟩
  exact ⟨(ca x y).mp h.1, fun a b hab => h.2 a b ((ca a b).mpr hab)⟩
/-- the best pair so far: of those ahead of q -/
def pg_ST (n : Nat) (X Y : Nat → Int) (E : Nat → Nat → Prop) (GR : Nat → Nat) (q : Nat) (u v : Int32) (g : Int64) : Prop := (u = -1 ∧ v = -1 ∧ ∀ a b, pg_CA n E GR a b → q ≤ a * 16 + b) ∨ ∃ x y, u = nI x ∧ v = nI y ∧ g = lI (pg_gp X Y x y) ∧ pg_CA n E GR x y ∧ x * 16 + y < q ∧ ∀ a b, pg_CA n E GR a b → a * 16 + b < q → pg_gp X Y x y < pg_gp X Y a b ∨ (pg_gp X Y x y = pg_gp X Y a b ∧ x * 16 + y ≤ a * 16 + b)
theorem pg_ST_0 {E : Nat → Nat → Prop} {GR : Nat → Nat} {g : Int64} : pg_ST n X Y E GR 0 (-1) (-1) g := Or.inl ⟨rfl, rfl, fun a b _ => Nat.zero_le _⟩
theorem pg_ST_jump {E : Nat → Nat → Prop} {GR : Nat → Nat} {q q' : Nat} {u v : Int32} {g : Int64} (h : pg_ST n X Y E GR q u v g) (hq : q ≤ q') (hj : ∀ a b, a < b → b < n → a * 16 + b < q' → a * 16 + b < q) : pg_ST n X Y E GR q' u v g := by
  rcases h with ⟨h1, h2, h3⟩ | ⟨x, y, h1, h2, h3, h4, h5, h6⟩
  · refine Or.inl ⟨h1, h2, fun a b hab => ?_⟩
    have k := h3 a b hab
    have j := hj a b hab.1 hab.2.1
    omega
  · exact Or.inr ⟨x, y, h1, h2, h3, h4, by omega, fun a b hab hlt => h6 a b hab (hj a b hab.1 hab.2.1 hlt)⟩
theorem pg_ST_skip {E : Nat → Nat → Prop} {GR : Nat → Nat} {a b : Nat} {u v : Int32} {g : Int64} (hn : n ≤ 14) (hb : b < n) (h : pg_ST n X Y E GR (a * 16 + b) u v g) (hc : ¬ pg_CA n E GR a b) : pg_ST n X Y E GR (a * 16 + (b + 1)) u v g := by
  rcases h with ⟨h1, h2, h3⟩ | ⟨x, y, h1, h2, h3, h4, h5, h6⟩
  · refine Or.inl ⟨h1, h2, fun a' b' hab => ?_⟩
    have k := h3 a' b' hab
    by_cases e : a' * 16 + b' = a * 16 + b
    · have l := hab.2.1
      have e1 : a' = a := by omega
      have e2 : b' = b := by omega
      subst e1 e2
      exact absurd hab hc
    · omega
  · refine Or.inr ⟨x, y, h1, h2, h3, h4, by omega, fun a' b' hab hlt => ?_⟩
    by_cases e : a' * 16 + b' = a * 16 + b
    · have l := hab.2.1
      have e1 : a' = a := by omega
      have e2 : b' = b := by omega
      subst e1 e2
      exact absurd hab hc
    · exact h6 a' b' hab (by omega)
theorem pg_ST_keep (ok : pg_ok n X Y) {E : Nat → Nat → Prop} {GR : Nat → Nat} {a b : Nat} {u v : Int32} {g : Int64} (ha : a < n) (hb : b < n) (h : pg_ST n X Y E GR (a * 16 + b) u v g) (hu : ¬ u < 0) (hg : g ≤ lI (pg_gp X Y a b)) : pg_ST n X Y E GR (a * 16 + (b + 1)) u v g := by
  have hn := ok.1
  rcases h with ⟨h1, h2, h3⟩ | ⟨x, y, h1, h2, h3, h4, h5, h6⟩
  · exact absurd (by rw [h1]; decide) hu
  · refine Or.inr ⟨x, y, h1, h2, h3, h4, by omega, fun a' b' hab hlt => ?_⟩
    by_cases e : a' * 16 + b' = a * 16 + b
    · have l := hab.2.1
      have e1 : a' = a := by omega
      have e2 : b' = b := by omega
      subst e1 e2
      have hx : x < n := by have := h4.1; have := h4.2.1; omega
      have g1 := pg_gp_b ok hx h4.2.1
      have g2 := pg_gp_b ok ha hb
      rw [h3, lI_le (by omega) (by omega) (by omega) (by omega)] at hg
      omega
    · exact h6 a' b' hab (by omega)
theorem pg_ST_new (ok : pg_ok n X Y) {E : Nat → Nat → Prop} {GR : Nat → Nat} {a b : Nat} {u v : Int32} {g : Int64} (h : pg_ST n X Y E GR (a * 16 + b) u v g) (hc : pg_CA n E GR a b) (hu : u < 0 ∨ ¬ g ≤ lI (pg_gp X Y a b)) : pg_ST n X Y E GR (a * 16 + (b + 1)) (nI a) (nI b) (lI (pg_gp X Y a b)) := by
  have hn := ok.1
  have ha : a < n := by have := hc.1; have := hc.2.1; omega
  have hb : b < n := hc.2.1
  refine Or.inr ⟨a, b, rfl, rfl, rfl, hc, by omega, fun a' b' hab hlt => ?_⟩
  by_cases e : a' * 16 + b' = a * 16 + b
  · have l := hab.2.1
    have e1 : a' = a := by omega
    have e2 : b' = b := by omega
    subst e1 e2
    exact Or.inr ⟨rfl, Nat.le_refl _⟩
  · rcases h with ⟨h1, h2, h3⟩ | ⟨x, y, h1, h2, h3, h4, h5, h6⟩
    · have := h3 a' b' hab
      omega
    · have hx : x < n := by have := h4.1; have := h4.2.1; omega
      have g1 := pg_gp_b ok hx h4.2.1
      have g2 := pg_gp_b ok ha hb
      have k := h6 a' b' hab (by omega)
      rcases hu with hu | hu
      · exact absurd (h1 ▸ hu) (nI_pos (by omega))
      · rw [h3, lI_le (by omega) (by omega) (by omega) (by omega)] at hu
        omega
theorem pg_ST_fin {E : Nat → Nat → Prop} {GR : Nat → Nat} {u v : Int32} {g : Int64} (hn : n ≤ 14) (h : pg_ST n X Y E GR (n * 16) u v g) : (u = -1 ∧ ∀ a b, ¬ pg_CA n E GR a b) ∨ ∃ x y, u = nI x ∧ v = nI y ∧ pg_SEL n X Y E GR x y := by
  rcases h with ⟨h1, h2, h3⟩ | ⟨x, y, h1, h2, h3, h4, h5, h6⟩
  · refine Or.inl ⟨h1, fun a b hab => ?_⟩
    have k := h3 a b hab
    have := hab.1
    have := hab.2.1
    omega
  · refine Or.inr ⟨x, y, h1, h2, h4, fun a b hab => h6 a b hab ?_⟩
    have := hab.1
    have := hab.2.1
    omega
/-- the groups after the edges LS t, GT t for t below s were taken -/
def pg_gr (n : Nat) (LS GT : Nat → Nat) : Nat → Nat → Nat
  | 0, i => i
  | s + 1, i => if i < n ∧ pg_gr n LS GT s i = pg_gr n LS GT s (GT s) then pg_gr n LS GT s (LS s) else pg_gr n LS GT s i
def pg_tot (X Y : Nat → Int) (LS GT : Nat → Nat) : Nat → Int
  | 0 => 0
  | s + 1 => pg_tot X Y LS GT s + pg_gp X Y (LS s) (GT s)
/-- the first s edges of the tree -/
def pg_TS (n : Nat) (X Y : Nat → Int) (E : Nat → Nat → Prop) (LS GT : Nat → Nat) (s : Nat) : Prop := ∀ t, t < s → pg_SEL n X Y E (pg_gr n LS GT t) (LS t) (GT t)
theorem pg_gr_c {LS GT LS' GT' : Nat → Nat} : ∀ s, (∀ t, t < s → LS t = LS' t ∧ GT t = GT' t) → ∀ i, pg_gr n LS GT s i = pg_gr n LS' GT' s i
  | 0, _, _ => rfl
  | s + 1, h, i => by
    have ih := pg_gr_c s (fun t ht => h t (by omega))
    have e := h s (by omega)
    unfold pg_gr
    rw [ih i, ih (GT s), ih (LS s), e.1, e.2]
theorem pg_tot_c {LS GT LS' GT' : Nat → Nat} : ∀ s, (∀ t, t < s → LS t = LS' t ∧ GT t = GT' t) → pg_tot X Y LS GT s = pg_tot X Y LS' GT' s
  | 0, _ => rfl
  | s + 1, h => by
    have ih := pg_tot_c s (fun t ht => h t (by omega))
    have e := h s (by omega)
    unfold pg_tot
    rw [ih, e.1, e.2]
theorem pg_TS_u {E : Nat → Nat → Prop} {LS GT LS' GT' : Nat → Nat} (hn : n ≤ 14) : ∀ s, pg_TS n X Y E LS GT s → pg_TS n X Y E LS' GT' s → ∀ t, t < s → LS t = LS' t ∧ GT t = GT' t
  | 0, _, _ => fun t h => absurd h (by omega)
  | s + 1, h, h' => by
    have ih := pg_TS_u hn s (fun t ht => h t (by omega)) (fun t ht => h' t (by omega))
    intro t ht
    by_cases e : t = s
    · subst e
      exact pg_SEL_u hn (h t (by omega)) (pg_SEL_c (fun _ _ _ _ => Iff.rfl) (fun i _ => (pg_gr_c t ih i).symm) (h' t (by omega)))
    · exact ih t (by omega)
theorem pg_TS_add {E : Nat → Nat → Prop} {LS GT : Nat → Nat} {s x y : Nat} (h : pg_TS n X Y E LS GT s) (hs : pg_SEL n X Y E (pg_gr n LS GT s) x y) : pg_TS n X Y E (fun i => if i = s then x else LS i) (fun i => if i = s then y else GT i) (s + 1) := by
  intro t ht
  have c : ∀ u, u ≤ s → ∀ i, pg_gr n (fun i => if i = s then x else LS i) (fun i => if i = s then y else GT i) u i = pg_gr n LS GT u i := fun u hu => pg_gr_c u (fun v hv => by
    have : v ≠ s := by omega
    simp [this])
  refine pg_SEL_c (GR := pg_gr n LS GT t) (fun _ _ _ _ => Iff.rfl) (fun i _ => (c t (by omega) i).symm) ?_
  by_cases e : t = s
  · subst e
    simpa using hs
  · simp only [if_neg e]
    exact h t (by omega)
/-- as long as fewer than n - 1 edges are taken, there are two groups -/
theorem pg_gr_two {E : Nat → Nat → Prop} {LS GT : Nat → Nat} : ∀ s, s ≤ n → pg_TS n X Y E LS GT s → ∃ l : List Nat, l.Nodup ∧ n ≤ l.length + s ∧ ∀ v ∈ l, ∃ i, i < n ∧ pg_gr n LS GT s i = v
  | 0, _, _ => ⟨List.range n, List.nodup_range, by simp, fun v hv => ⟨v, List.mem_range.mp hv, rfl⟩⟩
  | s + 1, hs, h => by
    obtain ⟨l, nd, hl, hv⟩ := pg_gr_two s (by omega) (fun t ht => h t (by omega))
    have hsel := (h s (by omega)).1
    refine ⟨l.erase (pg_gr n LS GT s (GT s)), nd.erase _, ?_, fun v hm => ?_⟩
    · have : l.length - 1 ≤ (l.erase (pg_gr n LS GT s (GT s))).length := by
        rw [List.length_erase]
        split <;> omega
      omega
    · obtain ⟨k1, k2⟩ := nd.mem_erase_iff.mp hm
      obtain ⟨i, i1, i2⟩ := hv v k2
      refine ⟨i, i1, ?_⟩
      unfold pg_gr
      rw [if_neg (fun q => k1 (by rw [← i2]; exact q.2))]
      exact i2
theorem pg_TS_more {E : Nat → Nat → Prop} {LS GT : Nat → Nat} {s : Nat} (hs : s + 1 < n) (h : pg_TS n X Y E LS GT s) : ∃ i j, i < n ∧ j < n ∧ pg_gr n LS GT s i ≠ pg_gr n LS GT s j := by
  obtain ⟨l, nd, hl, hv⟩ := pg_gr_two s (by omega) h
  match l, nd, hl, hv with
  | [], _, hl, _ => simp at hl; omega
  | [_], _, hl, _ => simp at hl; omega
  | a :: b :: l, nd, _, hv =>
    obtain ⟨i, i1, i2⟩ := hv a List.mem_cons_self
    obtain ⟨j, j1, j2⟩ := hv b (List.mem_cons_of_mem _ List.mem_cons_self)
    refine ⟨i, j, i1, j1, fun e => ?_⟩
    rw [i2, j2] at e
    exact (List.nodup_cons.mp nd).1 (e ▸ List.mem_cons_self)
/-- the corners from f on, one behind the other, k of them -/
def pg_CH (n : Nat) (X Y : Nat → Int) (f k : Nat) (RG : Nat → Nat) : Prop := (0 < k → RG 0 = f) ∧ (∀ i, i < k → RG i < n) ∧ ∀ i, i + 1 < k → pg_NX n X Y (RG i) (RG (i + 1)) ∧ RG (i + 1) ≠ f
end PT
end
section
/-! the class: the making of the triangles, of the edges, of the ring, of the tree -/
section CD
variable {l : Launch} {D : va_G} {ad : Nat → Nat} {cI cJ : ClassId} {n tc rc kc : Nat} {X Y : Nat → Int} {TT NB RG KT GR : Nat → Nat} {tl : Int}
theorem gz_orN (a b : Nat) : nI a ||| nI b = nI (a ||| b) := by
  apply Int32.toBitVec_inj.1
  show BitVec.ofNat 32 a ||| BitVec.ofNat 32 b = BitVec.ofNat 32 (a ||| b)
  apply BitVec.eq_of_getLsbD_eq
  intro i hi
  simp [hi]
theorem gz_sm : ∀ k, k < 32 → ((nI k &&& 31).toBitVec.smod 32).toNat = k := by decide +kernel
theorem gz_or3 : ∀ a, a < 16 → ∀ b, b < 16 → ∀ c, c < 16 → (a ||| b * 16) ||| c * 256 = a + 16 * b + 256 * c := by decide +kernel
theorem gz_or2 : ∀ a, a < 16 → ∀ b, b < 16 → a ||| b * 16 = a + 16 * b := by decide +kernel
theorem gz_pk3 {a b c : Nat} (ha : a < 16) (hb : b < 16) (hc : c < 16) : (nI a ||| (nI b <<< (nI 4 &&& 31))) ||| (nI c <<< (nI 8 &&& 31)) = nI (a + 16 * b + 256 * c) := by
  rw [pk_shlN _ 4 (gz_sm 4 (by decide)) (by omega), pk_shlN _ 8 (gz_sm 8 (by decide)) (by omega), gz_orN, gz_orN]
  exact congrArg nI (gz_or3 a ha b hb c hc)
theorem gz_pk2 {a b : Nat} (ha : a < 16) (hb : b < 16) : nI a ||| (nI b <<< (nI 4 &&& 31)) = nI (a + 16 * b) := by
  rw [pk_shlN _ 4 (gz_sm 4 (by decide)) (by omega), gz_orN]
  exact congrArg nI (gz_or2 a ha b hb)
abbrev rmX0_keepTriangle : Room := { frames := 0, cells := 0, slots := 0, locals := 0 }
theorem inwX0_keepTriangle : ∀ w ∈ wsX00, w ∈ wsX0_keepTriangle := fun _ h => List.mem_cons_of_mem _ (List.mem_append_right _ h)
set_option maxRecDepth 20000 in
theorem flX0_keepTriangle_23 : Cond.fieldLink RX0 23 RX0 (TX0 4).2.1 (TX0 4).2.2.1 ∈ wsX0_keepTriangle := by decide +kernel
set_option maxRecDepth 20000 in
theorem flX0_keepTriangle_20 : Cond.fieldLink RX0 20 RX0 (TX0 3).2.1 (TX0 3).2.2.1 ∈ wsX0_keepTriangle := by decide +kernel
set_option maxRecDepth 20000 in
set_option maxHeartbeats 4000000 in
theorem mtX0_keepTriangle {a b c : Nat} (htc : tc < 23) (ha : a < 16) (hb : b < 16) (hc : c < 16) : gz_Kv l yX0_keepTriangle wsX0_keepTriangle rmX0_keepTriangle D [(cI, .int), (cJ, .long)] [.ref (ad 0), .int (nI a), .int (nI b), .int (nI c)] (wC ad cI n X Y tc TT NB RG rc KT kc tl GR) (fun w1 => w1 = (wC ad cI n X Y (tc + 1) (fun i => if i = tc then a + 16 * b + 256 * c else TT i) NB RG rc KT kc tl GR)) := by
  refine gz_ofv (cc := cX0_keepTriangle) (maxL := 4) (own := RX0) (by decide +kernel) rfl rfl rfl (Nat.le_of_ble_eq_true rfl) ?_
  intro z E ret
  show gz_G z _ 0 [(0, .ref (ad 0)), (1, .int (nI a)), (2, .int (nI b)), (3, .int (nI c))] []
  refine gz_aload_n E dX0_keepTriangle_0 rfl rfl ?_
  refine gz_get E inwX0_keepTriangle 0 4 dX0_keepTriangle_1 flX0_keepTriangle_23 rfl rfl (by decide) rfl rfl ?_
  refine gz_bipush (v := nI 23) E dX0_keepTriangle_4 (by decide) ?_
  refine gz_icN_ge (tgt := 38) E dX0_keepTriangle_6 (by decide) (by omega) (by omega) (fun q6 => ?_) (fun q6 => ?_)
  · exact absurd q6 (by omega)
  · skip
    refine gz_aload_n E dX0_keepTriangle_9 rfl rfl ?_
    refine gz_get E inwX0_keepTriangle 0 3 dX0_keepTriangle_10 flX0_keepTriangle_20 rfl rfl (by decide) rfl rfl ?_
    refine gz_aload_n E dX0_keepTriangle_13 rfl rfl ?_
    refine gz_get E inwX0_keepTriangle 0 4 dX0_keepTriangle_14 flX0_keepTriangle_23 rfl rfl (by decide) rfl rfl ?_
    refine gz_iload_n E dX0_keepTriangle_17 rfl rfl ?_
    refine gz_iload_n E dX0_keepTriangle_18 rfl rfl ?_
    refine gz_iconst (v := nI 4) E dX0_keepTriangle_19 (by decide) ?_
    refine gz_ishl E dX0_keepTriangle_20 ?_
    refine gz_ior E dX0_keepTriangle_21 ?_
    refine gz_iload_n E dX0_keepTriangle_22 rfl rfl ?_
    refine gz_bipush (v := nI 8) E dX0_keepTriangle_23 (by decide) ?_
    refine gz_ishl E dX0_keepTriangle_25 ?_
    refine gz_ior E dX0_keepTriangle_26 ?_
    refine gz_s (congrArg (fun q => Value.int q :: _) (gz_pk3 ha hb hc)) ?_
    refine gz_iastN E 3 0 dX0_keepTriangle_27 rfl rfl (by decide) (by omega) ?_
    refine gz_w (ws' := (wC ad cI n X Y tc (fun i => if i = tc then a + 16 * b + 256 * c else TT i) NB RG rc KT kc tl GR)) (by rw [gz_upN]; rfl) ?_
    refine gz_aload_n E dX0_keepTriangle_28 rfl rfl ?_
    refine gz_dup E dX0_keepTriangle_29 rfl ?_
    refine gz_get E inwX0_keepTriangle 0 4 dX0_keepTriangle_30 flX0_keepTriangle_23 rfl rfl (by decide) rfl rfl ?_
    refine gz_iconst (v := nI 1) E dX0_keepTriangle_33 (by decide) ?_
    refine gz_iaddN E dX0_keepTriangle_34 ?_
    refine gz_put E inwX0_keepTriangle 0 4 dX0_keepTriangle_35 flX0_keepTriangle_23 rfl rfl (by decide) rfl tyX0 tyX0_ok nmX0 rfl rfl rfl (Nat.le_of_ble_eq_true rfl) ?_
    refine gz_w (ws' := (wC ad cI n X Y (tc + 1) (fun i => if i = tc then a + 16 * b + 256 * c else TT i) NB RG rc KT kc tl GR)) (by rfl) ?_
    exact ret _ _ _ dX0_keepTriangle_38 rfl
abbrev rmX0_findTriangles : Room := { frames := 4, cells := 0, slots := 0, locals := 115 }
theorem inwX0_findTriangles : ∀ w ∈ wsX00, w ∈ wsX0_findTriangles := fun _ h => List.mem_cons_of_mem _ (List.mem_append_right _ h)
set_option maxRecDepth 20000 in
theorem flX0_findTriangles_16 : Cond.fieldLink RX0 16 RX0 (TX0 2).2.1 (TX0 2).2.2.1 ∈ wsX0_findTriangles := by decide +kernel
set_option maxRecDepth 20000 in
theorem flX0_findTriangles_23 : Cond.fieldLink RX0 23 RX0 (TX0 4).2.1 (TX0 4).2.2.1 ∈ wsX0_findTriangles := by decide +kernel
set_option maxRecDepth 20000 in
set_option maxHeartbeats 4000000 in
theorem mtX0_findTriangles (SB : pg_ok n X Y) : gz_Kv l yX0_findTriangles wsX0_findTriangles rmX0_findTriangles D [(cI, .int), (cJ, .long)] [.ref (ad 0)] (wC ad cI n X Y tc TT NB RG rc KT kc tl GR) (fun w1 => ∃ tc TT, w1 = (wC ad cI n X Y tc TT NB RG rc KT kc tl GR) ∧ pg_ENT n X Y 4096 tc TT) := by
  refine gz_ofv (cc := cX0_findTriangles) (maxL := 4) (own := RX0) (by decide +kernel) rfl rfl rfl (Nat.le_of_ble_eq_true rfl) ?_
  intro z E ret
  have hn := SB.1
  show gz_G z _ 0 [(0, .ref (ad 0))] []
  have loopA : ∀ (f a tc : Nat) (TT : Nat → Nat), n < f + a → a ≤ n → pg_ENT n X Y (a * 256) tc TT → gz_G z (wC ad cI n X Y tc TT NB RG rc KT kc tl GR) 7 [(0, .ref (ad 0)), (1, .int (nI a))] [] := by
    intro f
    induction f with
    | zero => intro a tc TT h1 h2; exact absurd h1 (by omega)
    | succ f ihA =>
      intro a tc TT h1 h2 hE
      have loopB : a < n → ∀ (g b tc : Nat) (TT : Nat → Nat), n < g + b → a < b → b ≤ n → pg_ENT n X Y (a * 256 + b * 16) tc TT → gz_G z (wC ad cI n X Y tc TT NB RG rc KT kc tl GR) 19 [(0, .ref (ad 0)), (1, .int (nI a)), (2, .int (nI b))] [] := by
        intro han g
        induction g with
        | zero => intro b tc TT g1 g2 g3; exact absurd g1 (by omega)
        | succ g ihB =>
          intro b tc TT g1 g2 g3 hE
          have loopC : b < n → ∀ (h c tc : Nat) (TT : Nat → Nat), n < h + c → b < c → c ≤ n → pg_ENT n X Y (a * 256 + b * 16 + c) tc TT → gz_G z (wC ad cI n X Y tc TT NB RG rc KT kc tl GR) 31 [(0, .ref (ad 0)), (1, .int (nI a)), (2, .int (nI b)), (3, .int (nI c))] [] := by
            intro hbn h
            induction h with
            | zero => intro c tc TT j1 j2 j3; exact absurd j1 (by omega)
            | succ h ihC =>
              intro c tc TT j1 j2 j3 hE
              refine gz_iload_n E dX0_findTriangles_31 rfl rfl ?_
              refine gz_aload_n E dX0_findTriangles_32 rfl rfl ?_
              refine gz_get E inwX0_findTriangles 0 2 dX0_findTriangles_33 flX0_findTriangles_16 rfl rfl (by decide) rfl rfl ?_
              refine gz_icN_ge (tgt := 62) E dX0_findTriangles_36 (by decide) (by omega) (by omega) (fun q36 => ?_) (fun q36 => ?_)
              · skip
                refine gz_iinc (lv' := [(0, _), (1, _), (2, _), (3, _)]) E dX0_findTriangles_62 rfl (gz_nI1 _) (by decide) rfl ?_
                refine gz_goto (tgt := 19) E dX0_findTriangles_65 (by decide) ?_
                refine gz_sub (lv' := [(0, _), (1, _), (2, _)]) [0, 1, 2] rfl ?_
                have e : c = n := by omega
                subst e
                exact ihB (b + 1) _ _ (by omega) (by omega) (by omega) (pg_ENT_C hn hE)
              · skip
                refine gz_aload_n E dX0_findTriangles_39 rfl rfl ?_
                refine gz_iload_n E dX0_findTriangles_40 rfl rfl ?_
                refine gz_iload_n E dX0_findTriangles_41 rfl rfl ?_
                refine gz_iload_n E dX0_findTriangles_42 rfl rfl ?_
                refine gz_cali (n := 3) E 0 dX0_findTriangles_43 gX0_findTriangles_X0_isDueTriangle (mtX0_isDueTriangle SB (by omega) (by omega) (by omega)) rfl rfl ⟨rfl, rfl⟩ (by decide +kernel) ⟨Nat.le_of_ble_eq_true rfl, Nat.le_of_ble_eq_true rfl⟩ rfl rfl rfl rfl (Nat.le_of_ble_eq_true rfl) (fun r43 w43 hr43 => ?_)
                obtain ⟨hr43, rfl⟩ := hr43
                refine gz_ifB_eq (tgt := 56) E hr43 dX0_findTriangles_46 (by decide) (fun q46 => ?_) (fun q46 => ?_)
                · skip
                  refine gz_iinc (lv' := [(0, _), (1, _), (2, _), (3, _)]) E dX0_findTriangles_56 rfl (gz_nI1 _) (by decide) rfl ?_
                  refine gz_goto (tgt := 31) E dX0_findTriangles_59 (by decide) ?_
                  first | exact ihC (c + 1) _ _ (by omega) (by omega) (by omega) (pg_ENT_add hn (by omega) (by omega) hE q46) | exact ihC (c + 1) _ _ (by omega) (by omega) (by omega) (pg_ENT_no hn (by omega) (by omega) hE q46)
                · skip
                  refine gz_aload_n E dX0_findTriangles_49 rfl rfl ?_
                  refine gz_iload_n E dX0_findTriangles_50 rfl rfl ?_
                  refine gz_iload_n E dX0_findTriangles_51 rfl rfl ?_
                  refine gz_iload_n E dX0_findTriangles_52 rfl rfl ?_
                  have htc := pg_ENT_lt SB (by omega) (by omega) hE q46
                  refine gz_calv (n := 3) E 0 dX0_findTriangles_53 gX0_findTriangles_X0_keepTriangle (mtX0_keepTriangle (by omega) (by omega) (by omega) (by omega)) rfl rfl ⟨rfl, rfl⟩ (by decide +kernel) ⟨Nat.le_of_ble_eq_true rfl, Nat.le_of_ble_eq_true rfl⟩ rfl rfl rfl rfl (Nat.le_of_ble_eq_true rfl) (fun w53 hr53 => ?_)
                  subst hr53
                  refine gz_iinc (lv' := [(0, _), (1, _), (2, _), (3, _)]) E dX0_findTriangles_56 rfl (gz_nI1 _) (by decide) rfl ?_
                  refine gz_goto (tgt := 31) E dX0_findTriangles_59 (by decide) ?_
                  first | exact ihC (c + 1) _ _ (by omega) (by omega) (by omega) (pg_ENT_add hn (by omega) (by omega) hE q46) | exact ihC (c + 1) _ _ (by omega) (by omega) (by omega) (pg_ENT_no hn (by omega) (by omega) hE q46)
          refine gz_iload_n E dX0_findTriangles_19 rfl rfl ?_
          refine gz_aload_n E dX0_findTriangles_20 rfl rfl ?_
          refine gz_get E inwX0_findTriangles 0 2 dX0_findTriangles_21 flX0_findTriangles_16 rfl rfl (by decide) rfl rfl ?_
          refine gz_icN_ge (tgt := 68) E dX0_findTriangles_24 (by decide) (by omega) (by omega) (fun q24 => ?_) (fun q24 => ?_)
          · skip
            refine gz_iinc (lv' := [(0, _), (1, _), (2, _)]) E dX0_findTriangles_68 rfl (gz_nI1 _) (by decide) rfl ?_
            refine gz_goto (tgt := 7) E dX0_findTriangles_71 (by decide) ?_
            refine gz_sub (lv' := [(0, _), (1, _)]) [0, 1] rfl ?_
            have e : b = n := by omega
            subst e
            exact ihA (a + 1) _ _ (by omega) (by omega) (pg_ENT_D hn hE)
          · skip
            refine gz_iload_n E dX0_findTriangles_27 rfl rfl ?_
            refine gz_iconst (v := nI 1) E dX0_findTriangles_28 (by decide) ?_
            refine gz_iaddN E dX0_findTriangles_29 ?_
            refine gz_istore_n (lv' := [(0, _), (1, _), (2, _), (3, _)]) E dX0_findTriangles_30 rfl (by decide) rfl ?_
            exact loopC (by omega) (n + 1) (b + 1) _ _ (by omega) (by omega) (by omega) (pg_ENT_B hn (by omega) hE)
      refine gz_iload_n E dX0_findTriangles_7 rfl rfl ?_
      refine gz_aload_n E dX0_findTriangles_8 rfl rfl ?_
      refine gz_get E inwX0_findTriangles 0 2 dX0_findTriangles_9 flX0_findTriangles_16 rfl rfl (by decide) rfl rfl ?_
      refine gz_icN_ge (tgt := 74) E dX0_findTriangles_12 (by decide) (by omega) (by omega) (fun q12 => ?_) (fun q12 => ?_)
      · skip
        have e : a = n := by omega
        subst e
        exact ret _ _ _ dX0_findTriangles_74 ⟨tc, TT, rfl, pg_ENT_E hn hE⟩
      · skip
        refine gz_iload_n E dX0_findTriangles_15 rfl rfl ?_
        refine gz_iconst (v := nI 1) E dX0_findTriangles_16 (by decide) ?_
        refine gz_iaddN E dX0_findTriangles_17 ?_
        refine gz_istore_n (lv' := [(0, _), (1, _), (2, _)]) E dX0_findTriangles_18 rfl (by decide) rfl ?_
        exact loopB (by omega) (n + 1) (a + 1) _ _ (by omega) (by omega) (by omega) (pg_ENT_A hn hE)
  refine gz_aload_n E dX0_findTriangles_0 rfl rfl ?_
  refine gz_iconst (v := nI 0) E dX0_findTriangles_1 (by decide) ?_
  refine gz_put E inwX0_findTriangles 0 4 dX0_findTriangles_2 flX0_findTriangles_23 rfl rfl (by decide) rfl tyX0 tyX0_ok nmX0 rfl rfl rfl (Nat.le_of_ble_eq_true rfl) ?_
  refine gz_w (ws' := (wC ad cI n X Y 0 TT NB RG rc KT kc tl GR)) (by rfl) ?_
  refine gz_iconst (v := nI 0) E dX0_findTriangles_5 (by decide) ?_
  refine gz_istore_n (lv' := [(0, _), (1, _)]) E dX0_findTriangles_6 rfl (by decide) rfl ?_
  exact loopA (n + 1) 0 _ _ (by omega) (by omega) pg_ENT_0
def gz_HE (NB : Nat → Nat) (n : Nat) (x y : Int32) : Prop := ∃ i j, i < n ∧ j < n ∧ x = nI i ∧ y = nI j ∧ pg_EB NB i j
theorem gz_HE_N {NB : Nat → Nat} {n i j : Nat} (hn : n ≤ 14) (hi : i < n) (hj : j < n) : gz_HE NB n (nI i) (nI j) ↔ pg_EB NB i j := by
  constructor
  · rintro ⟨a, b, ha, hb, e1, e2, h⟩
    rw [nI_eq (by omega) (by omega)] at e1 e2
    subst e1 e2
    exact h
  · exact fun h => ⟨i, j, hi, hj, rfl, rfl, h⟩
theorem gz_bit {x k : Nat} (hx : x < 2 ^ 31) (hk : k < 31) : (nI x >>> (nI k &&& 31)) &&& nI 1 = nI (x / 2 ^ k % 2) := by
  rw [pk_shrN hx _ k (gz_sm k (by omega)), pk_andN (by have := Nat.div_le_self x (2 ^ k); omega) 1 (by decide +kernel)]
abbrev rmX0_hasEdge : Room := { frames := 1, cells := 0, slots := 0, locals := 21 }
theorem inwX0_hasEdge : ∀ w ∈ wsX00, w ∈ wsX0_hasEdge := fun _ h => List.mem_cons_of_mem _ (List.mem_append_right _ h)
set_option maxRecDepth 20000 in
theorem flX0_hasEdge_26 : Cond.fieldLink RX0 26 RX0 (TX0 5).2.1 (TX0 5).2.2.1 ∈ wsX0_hasEdge := by decide +kernel
set_option maxRecDepth 20000 in
set_option maxHeartbeats 4000000 in
theorem mtX0_hasEdge (hn : n ≤ 14) (hNB : ∀ i, i < n → NB i < 2 ^ 14) (x y : Int32) : gz_Ki l yX0_hasEdge wsX0_hasEdge rmX0_hasEdge D [(cI, .int), (cJ, .long)] [.ref (ad 0), .int x, .int y] (wC ad cI n X Y tc TT NB RG rc KT kc tl GR) (fun r w1 => gz_B r (gz_HE NB n x y) ∧ w1 = (wC ad cI n X Y tc TT NB RG rc KT kc tl GR)) := by
  refine gz_ofi (cc := cX0_hasEdge) (maxL := 3) (own := RX0) (by decide +kernel) rfl rfl rfl (Nat.le_of_ble_eq_true rfl) ?_
  intro z E ret
  show gz_G z _ 0 [(0, .ref (ad 0)), (1, .int x), (2, .int y)] []
  refine gz_aload_n E dX0_hasEdge_0 rfl rfl ?_
  refine gz_iload_n E dX0_hasEdge_1 rfl rfl ?_
  refine gz_cali (n := 1) E 0 dX0_hasEdge_2 gX0_hasEdge_X0_isSite (mtX0_isSite hn _) rfl rfl ⟨rfl, rfl⟩ (by decide +kernel) ⟨Nat.le_of_ble_eq_true rfl, Nat.le_of_ble_eq_true rfl⟩ rfl rfl rfl rfl (Nat.le_of_ble_eq_true rfl) (fun r2 w2 hr2 => ?_)
  obtain ⟨hr2, rfl⟩ := hr2
  refine gz_ifB_eq (tgt := 34) E hr2 dX0_hasEdge_5 (by decide) (fun q5 => ?_) (fun q5 => ?_)
  · skip
    refine gz_iconst (v := 0) E dX0_hasEdge_34 (by decide) ?_
    exact ret _ _ _ _ dX0_hasEdge_35 rfl ⟨by first | exact gz_B_f (fun q => q5 (by obtain ⟨i, j, hi, hj, e1, e2, h⟩ := q; exact ⟨i, hi, e1⟩)) | exact gz_B_f (fun q => q13 (by obtain ⟨i, j, hi, hj, e1, e2, h⟩ := q; exact ⟨j, hj, e2⟩)) | exact gz_B_t ((gz_HE_N hn hi hj).mpr q27) | exact gz_B_f (fun q => q27 ((gz_HE_N hn hi hj).mp q)), rfl⟩
  · skip
    refine gz_aload_n E dX0_hasEdge_8 rfl rfl ?_
    refine gz_iload_n E dX0_hasEdge_9 rfl rfl ?_
    refine gz_cali (n := 1) E 0 dX0_hasEdge_10 gX0_hasEdge_X0_isSite (mtX0_isSite hn _) rfl rfl ⟨rfl, rfl⟩ (by decide +kernel) ⟨Nat.le_of_ble_eq_true rfl, Nat.le_of_ble_eq_true rfl⟩ rfl rfl rfl rfl (Nat.le_of_ble_eq_true rfl) (fun r10 w10 hr10 => ?_)
    obtain ⟨hr10, rfl⟩ := hr10
    refine gz_ifB_eq (tgt := 34) E hr10 dX0_hasEdge_13 (by decide) (fun q13 => ?_) (fun q13 => ?_)
    · skip
      refine gz_iconst (v := 0) E dX0_hasEdge_34 (by decide) ?_
      exact ret _ _ _ _ dX0_hasEdge_35 rfl ⟨by first | exact gz_B_f (fun q => q5 (by obtain ⟨i, j, hi, hj, e1, e2, h⟩ := q; exact ⟨i, hi, e1⟩)) | exact gz_B_f (fun q => q13 (by obtain ⟨i, j, hi, hj, e1, e2, h⟩ := q; exact ⟨j, hj, e2⟩)) | exact gz_B_t ((gz_HE_N hn hi hj).mpr q27) | exact gz_B_f (fun q => q27 ((gz_HE_N hn hi hj).mp q)), rfl⟩
    · skip
      obtain ⟨i, hi, rfl⟩ := q5
      obtain ⟨j, hj, rfl⟩ := q13
      have hNi := hNB i hi
      refine gz_aload_n E dX0_hasEdge_16 rfl rfl ?_
      refine gz_get E inwX0_hasEdge 0 5 dX0_hasEdge_17 flX0_hasEdge_26 rfl rfl (by decide) rfl rfl ?_
      refine gz_iload_n E dX0_hasEdge_20 rfl rfl ?_
      refine gz_ialdN E 4 0 dX0_hasEdge_21 rfl rfl (by decide) rfl (by omega) ?_
      refine gz_iload_n E dX0_hasEdge_22 rfl rfl ?_
      refine gz_ishr E dX0_hasEdge_23 ?_
      refine gz_iconst (v := nI 1) E dX0_hasEdge_24 (by decide) ?_
      refine gz_iand E dX0_hasEdge_25 ?_
      refine gz_s (congrArg (fun q => Value.int q :: _) (gz_bit (by omega) (by omega))) ?_
      refine gz_iconst (v := nI 1) E dX0_hasEdge_26 (by decide) ?_
      refine gz_icN_ne (tgt := 34) E dX0_hasEdge_27 (by decide) (by have := Nat.mod_lt (NB i / 2 ^ j) (show 0 < 2 by decide); omega) (by omega) (fun q27 => ?_) (fun q27 => ?_)
      · skip
        refine gz_iconst (v := 0) E dX0_hasEdge_34 (by decide) ?_
        exact ret _ _ _ _ dX0_hasEdge_35 rfl ⟨by first | exact gz_B_f (fun q => q5 (by obtain ⟨i, j, hi, hj, e1, e2, h⟩ := q; exact ⟨i, hi, e1⟩)) | exact gz_B_f (fun q => q13 (by obtain ⟨i, j, hi, hj, e1, e2, h⟩ := q; exact ⟨j, hj, e2⟩)) | exact gz_B_t ((gz_HE_N hn hi hj).mpr q27) | exact gz_B_f (fun q => q27 ((gz_HE_N hn hi hj).mp q)), rfl⟩
      · skip
        refine gz_iconst (v := 1) E dX0_hasEdge_30 (by decide) ?_
        refine gz_goto (tgt := 35) E dX0_hasEdge_31 (by decide) ?_
        exact ret _ _ _ _ dX0_hasEdge_35 rfl ⟨by first | exact gz_B_f (fun q => q5 (by obtain ⟨i, j, hi, hj, e1, e2, h⟩ := q; exact ⟨i, hi, e1⟩)) | exact gz_B_f (fun q => q13 (by obtain ⟨i, j, hi, hj, e1, e2, h⟩ := q; exact ⟨j, hj, e2⟩)) | exact gz_B_t ((gz_HE_N hn hi hj).mpr q27) | exact gz_B_f (fun q => q27 ((gz_HE_N hn hi hj).mp q)), rfl⟩
theorem gz_shl1 {k : Nat} (hk : k < 14) : nI 1 <<< (nI k &&& 31) = nI (2 ^ k) := by
  have h : 2 ^ k < 2 ^ 14 := Nat.pow_lt_pow_right (by decide) hk
  rw [pk_shlN (nI k &&& 31) k (gz_sm k (by omega)) (by omega), Nat.one_mul]
theorem gz_orB {x k : Nat} (hk : k < 14) : nI x ||| (nI 1 <<< (nI k &&& 31)) = nI (x ||| 2 ^ k) := by rw [gz_shl1 hk, gz_orN]
abbrev rmX0_join : Room := { frames := 1, cells := 0, slots := 0, locals := 21 }
theorem inwX0_join : ∀ w ∈ wsX00, w ∈ wsX0_join := fun _ h => List.mem_cons_of_mem _ (List.mem_append_right _ h)
set_option maxRecDepth 20000 in
theorem flX0_join_26 : Cond.fieldLink RX0 26 RX0 (TX0 5).2.1 (TX0 5).2.2.1 ∈ wsX0_join := by decide +kernel
set_option maxRecDepth 20000 in
set_option maxHeartbeats 4000000 in
theorem mtX0_join (hn : n ≤ 14) {a b : Nat} (ha : a < n) (hb : b < n) (hab : a ≠ b) : gz_Kv l yX0_join wsX0_join rmX0_join D [(cI, .int), (cJ, .long)] [.ref (ad 0), .int (nI a), .int (nI b)] (wC ad cI n X Y tc TT NB RG rc KT kc tl GR) (fun w1 => w1 = (wC ad cI n X Y tc TT (fun i => if i = b then NB b ||| 2 ^ a else if i = a then NB a ||| 2 ^ b else NB i) RG rc KT kc tl GR)) := by
  refine gz_ofv (cc := cX0_join) (maxL := 3) (own := RX0) (by decide +kernel) rfl rfl rfl (Nat.le_of_ble_eq_true rfl) ?_
  intro z E ret
  show gz_G z _ 0 [(0, .ref (ad 0)), (1, .int (nI a)), (2, .int (nI b))] []
  refine gz_aload_n E dX0_join_0 rfl rfl ?_
  refine gz_iload_n E dX0_join_1 rfl rfl ?_
  refine gz_cali (n := 1) E 0 dX0_join_2 gX0_join_X0_isSite (mtX0_isSite hn _) rfl rfl ⟨rfl, rfl⟩ (by decide +kernel) ⟨Nat.le_of_ble_eq_true rfl, Nat.le_of_ble_eq_true rfl⟩ rfl rfl rfl rfl (Nat.le_of_ble_eq_true rfl) (fun r2 w2 hr2 => ?_)
  obtain ⟨hr2, rfl⟩ := hr2
  refine gz_ifB_eq (tgt := 40) E hr2 dX0_join_5 (by decide) (fun q5 => ?_) (fun q5 => ?_)
  · exact absurd ⟨a, ha, rfl⟩ q5
  · skip
    refine gz_aload_n E dX0_join_8 rfl rfl ?_
    refine gz_iload_n E dX0_join_9 rfl rfl ?_
    refine gz_cali (n := 1) E 0 dX0_join_10 gX0_join_X0_isSite (mtX0_isSite hn _) rfl rfl ⟨rfl, rfl⟩ (by decide +kernel) ⟨Nat.le_of_ble_eq_true rfl, Nat.le_of_ble_eq_true rfl⟩ rfl rfl rfl rfl (Nat.le_of_ble_eq_true rfl) (fun r10 w10 hr10 => ?_)
    obtain ⟨hr10, rfl⟩ := hr10
    refine gz_ifB_eq (tgt := 40) E hr10 dX0_join_13 (by decide) (fun q13 => ?_) (fun q13 => ?_)
    · exact absurd ⟨b, hb, rfl⟩ q13
    · skip
      refine gz_aload_n E dX0_join_16 rfl rfl ?_
      refine gz_get E inwX0_join 0 5 dX0_join_17 flX0_join_26 rfl rfl (by decide) rfl rfl ?_
      refine gz_iload_n E dX0_join_20 rfl rfl ?_
      refine gz_dup2_11 E dX0_join_21 rfl rfl ?_
      refine gz_ialdN E 4 0 dX0_join_22 rfl rfl (by decide) rfl (by omega) ?_
      refine gz_iconst (v := nI 1) E dX0_join_23 (by decide) ?_
      refine gz_iload_n E dX0_join_24 rfl rfl ?_
      refine gz_ishl E dX0_join_25 ?_
      refine gz_ior E dX0_join_26 ?_
      refine gz_s (congrArg (fun q => Value.int q :: _) (gz_orB (by omega))) ?_
      refine gz_iastN E 4 0 dX0_join_27 rfl rfl (by decide) (by omega) ?_
      refine gz_w (ws' := (wC ad cI n X Y tc TT (fun i => if i = a then NB a ||| 2 ^ b else NB i) RG rc KT kc tl GR)) (by rw [gz_upN]; rfl) ?_
      refine gz_aload_n E dX0_join_28 rfl rfl ?_
      refine gz_get E inwX0_join 0 5 dX0_join_29 flX0_join_26 rfl rfl (by decide) rfl rfl ?_
      refine gz_iload_n E dX0_join_32 rfl rfl ?_
      refine gz_dup2_11 E dX0_join_33 rfl rfl ?_
      refine gz_ialdN (v := nI (NB b)) E 4 0 dX0_join_34 rfl rfl (by decide) (by simp [hab.symm]) (by omega) ?_
      refine gz_iconst (v := nI 1) E dX0_join_35 (by decide) ?_
      refine gz_iload_n E dX0_join_36 rfl rfl ?_
      refine gz_ishl E dX0_join_37 ?_
      refine gz_ior E dX0_join_38 ?_
      refine gz_s (congrArg (fun q => Value.int q :: _) (gz_orB (by omega))) ?_
      refine gz_iastN E 4 0 dX0_join_39 rfl rfl (by decide) (by omega) ?_
      refine gz_w (ws' := (wC ad cI n X Y tc TT (fun i => if i = b then NB b ||| 2 ^ a else if i = a then NB a ||| 2 ^ b else NB i) RG rc KT kc tl GR)) (by rw [gz_upN]; rfl) ?_
      exact ret _ _ _ dX0_join_40 rfl
end CD
end
section
/-! the class: edges and ring -/
section CE
variable {l : Launch} {D : va_G} {ad : Nat → Nat} {cI cJ : ClassId} {n tc rc kc : Nat} {X Y : Nat → Int} {TT NB RG KT GR : Nat → Nat} {tl : Int}
theorem pg_WF_s {n : Nat} {X Y : Nat → Int} {a b : Nat} (h : pg_WF n X Y a b) : pg_WF n X Y b a := fun m hm q => h m hm ⟨by have := pg_tn_s12 (X := X) (Y := Y) a b m; omega, by
  have e : pg_dt X Y m b a = pg_dt X Y m a b := by unfold pg_dt; grind
  rw [← e]; exact q.2⟩
theorem pg_NB2 {NB : Nat → Nat} {a b i j : Nat} (hab : a ≠ b) : pg_EB (fun i => if i = b then NB b ||| 2 ^ a else if i = a then NB a ||| 2 ^ b else NB i) i j ↔ (pg_EB NB i j ∨ (i = a ∧ j = b) ∨ (i = b ∧ j = a)) := by
  unfold pg_EB
  dsimp only
  by_cases h1 : i = b
  · subst h1
    have h2 : i ≠ a := fun e => hab e.symm
    rw [if_pos rfl, pg_EB_or]
    omega
  · rw [if_neg h1]
    by_cases h2 : i = a
    · subst h2
      rw [if_pos rfl, pg_EB_or]
      omega
    · rw [if_neg h2]
      omega
theorem pg_NB2_b {NB : Nat → Nat} {n a b : Nat} (hn : n ≤ 14) (ha : a < n) (hb : b < n) (h : ∀ i, i < n → NB i < 2 ^ 14) : ∀ i, i < n → (fun i => if i = b then NB b ||| 2 ^ a else if i = a then NB a ||| 2 ^ b else NB i) i < 2 ^ 14 := by
  intro i hi
  have pa : 2 ^ a < 2 ^ 14 := Nat.pow_lt_pow_right (by decide) (by omega)
  have pb : 2 ^ b < 2 ^ 14 := Nat.pow_lt_pow_right (by decide) (by omega)
  show (if i = b then NB b ||| 2 ^ a else if i = a then NB a ||| 2 ^ b else NB i) < 2 ^ 14
  split
  · exact Nat.or_lt_two_pow (h b hb) pa
  · split
    · exact Nat.or_lt_two_pow (h a ha) pb
    · exact h i hi
/-- the edges along a line, of the pairs ahead of q -/
def pg_JL (n : Nat) (X Y : Nat → Int) (q : Nat) (NB : Nat → Nat) : Prop := (∀ i, i < n → NB i < 2 ^ 14) ∧ ∀ i j, i < n → j < n → (pg_EB NB i j ↔ (i ≠ j ∧ pg_WF n X Y i j ∧ (i < j → i * 16 + j < q) ∧ (j < i → j * 16 + i < q)))
theorem pg_JL_0 {n : Nat} {X Y : Nat → Int} {NB : Nat → Nat} (h : ∀ i, i < n → NB i < 2 ^ 14) (hz : ∀ i j, i < n → j < n → ¬ pg_EB NB i j) : pg_JL n X Y 0 NB := ⟨h, fun i j hi hj => ⟨fun q => absurd q (hz i j hi hj), fun ⟨q1, _, q2, q3⟩ => by omega⟩⟩
theorem pg_JL_jump {n : Nat} {X Y : Nat → Int} {NB : Nat → Nat} {q q' : Nat} (h : pg_JL n X Y q NB) (hq : q ≤ q') (hj : ∀ i j, i < j → j < n → i * 16 + j < q' → i * 16 + j < q) : pg_JL n X Y q' NB := by
  refine ⟨h.1, fun i j hi hj' => ?_⟩
  rw [h.2 i j hi hj']
  constructor
  · rintro ⟨a, b, c, d⟩
    exact ⟨a, b, fun e => by have := c e; omega, fun e => by have := d e; omega⟩
  · rintro ⟨a, b, c, d⟩
    exact ⟨a, b, fun e => hj i j e hj' (c e), fun e => hj j i e hi (d e)⟩
theorem pg_JL_no {n : Nat} {X Y : Nat → Int} {NB : Nat → Nat} {a b : Nat} (hn : n ≤ 14) (h : pg_JL n X Y (a * 16 + b) NB) (hb : b < n) (hw : ¬ pg_WF n X Y a b) : pg_JL n X Y (a * 16 + (b + 1)) NB := by
  refine ⟨h.1, fun i j hi hj => ?_⟩
  rw [h.2 i j hi hj]
  constructor
  · rintro ⟨a, b, c, d⟩
    exact ⟨a, b, fun e => by have := c e; omega, fun e => by have := d e; omega⟩
  · rintro ⟨n1, w, c, d⟩
    refine ⟨n1, w, fun e => ?_, fun e => ?_⟩
    · have k := c e
      by_cases z : i * 16 + j = a * 16 + b
      · have e1 : i = a := by omega
        have e2 : j = b := by omega
        subst e1 e2
        exact absurd w hw
      · omega
    · have k := d e
      by_cases z : j * 16 + i = a * 16 + b
      · have e1 : j = a := by omega
        have e2 : i = b := by omega
        subst e1 e2
        exact absurd (pg_WF_s w) hw
      · omega
theorem pg_JL_add {n : Nat} {X Y : Nat → Int} {NB : Nat → Nat} {a b : Nat} (hn : n ≤ 14) (h : pg_JL n X Y (a * 16 + b) NB) (hab : a < b) (hb : b < n) (hw : pg_WF n X Y a b) : pg_JL n X Y (a * 16 + (b + 1)) (fun i => if i = b then NB b ||| 2 ^ a else if i = a then NB a ||| 2 ^ b else NB i) := by
  refine ⟨pg_NB2_b hn (by omega) hb h.1, fun i j hi hj => ?_⟩
  rw [pg_NB2 (by omega), h.2 i j hi hj]
  constructor
  · rintro (⟨a', b', c, d⟩ | ⟨e1, e2⟩ | ⟨e1, e2⟩)
    · exact ⟨a', b', fun e => by have := c e; omega, fun e => by have := d e; omega⟩
    · subst e1 e2
      exact ⟨by omega, hw, by omega, by omega⟩
    · subst e1 e2
      exact ⟨by omega, pg_WF_s hw, by omega, by omega⟩
  · rintro ⟨n1, w, c, d⟩
    by_cases z1 : i = a ∧ j = b
    · exact Or.inr (Or.inl z1)
    by_cases z2 : i = b ∧ j = a
    · exact Or.inr (Or.inr z2)
    exact Or.inl ⟨n1, w, fun e => by have := c e; omega, fun e => by have := d e; omega⟩
/-- site i is a corner of triangle t -/
def pg_C (TT : Nat → Nat) (t i : Nat) : Prop := TT t % 16 = i ∨ TT t / 16 % 16 = i ∨ TT t / 256 % 16 = i
/-- edges of the triangles below k -/
def pg_JT (n : Nat) (TT : Nat → Nat) (k : Nat) (NB : Nat → Nat) : Prop := (∀ i, i < n → NB i < 2 ^ 14) ∧ ∀ i j, i < n → j < n → (pg_EB NB i j ↔ (i ≠ j ∧ ∃ t, t < k ∧ pg_C TT t i ∧ pg_C TT t j))
theorem pg_EB_0 {NB : Nat → Nat} {i : Nat} (h : NB i = 0) (j : Nat) : ¬ pg_EB NB i j := by
  unfold pg_EB
  rw [h, Nat.zero_div]
  decide
theorem pg_JT_0 {n : Nat} {TT NB : Nat → Nat} (h : ∀ i, i < n → NB i = 0) : pg_JT n TT 0 NB := ⟨fun i hi => by rw [h i hi]; decide, fun i j hi hj => ⟨fun q => absurd q (pg_EB_0 (h i hi) j), fun ⟨_, t, ht, _⟩ => absurd ht (by omega)⟩⟩
theorem pg_JT_add {n k a b c : Nat} {TT NB : Nat → Nat} (hn : n ≤ 14) (h : pg_JT n TT k NB) (hab : a < b) (hbc : b < c) (hc : c < n) (hT : TT k = a + 16 * b + 256 * c) {N1 N2 N3 : Nat → Nat}
    (e1 : N1 = fun i => if i = b then NB b ||| 2 ^ a else if i = a then NB a ||| 2 ^ b else NB i) (e2 : N2 = fun i => if i = c then N1 c ||| 2 ^ b else if i = b then N1 b ||| 2 ^ c else N1 i) (e3 : N3 = fun i => if i = c then N2 c ||| 2 ^ a else if i = a then N2 a ||| 2 ^ c else N2 i) : pg_JT n TT (k + 1) N3 := by
  subst e3
  refine ⟨pg_NB2_b hn (by omega) hc ?_, fun i j hi hj => ?_⟩
  · subst e2
    refine pg_NB2_b hn (by omega) hc ?_
    subst e1
    exact pg_NB2_b hn (by omega) (by omega) h.1
  · rw [pg_NB2 (by omega)]
    subst e2
    rw [pg_NB2 (by omega)]
    subst e1
    rw [pg_NB2 (by omega), h.2 i j hi hj]
    have cor : ∀ i, pg_C TT k i ↔ (i = a ∨ i = b ∨ i = c) := fun i => by
      unfold pg_C
      have q1 : (a + 16 * b + 256 * c) % 16 = a := by omega
      have q2 : (a + 16 * b + 256 * c) / 16 % 16 = b := by omega
      have q3 : (a + 16 * b + 256 * c) / 256 % 16 = c := by omega
      rw [hT, q1, q2, q3]
      omega
    constructor
    · rintro (((⟨n1, t, t1, t2⟩ | q) | q) | q)
      · exact ⟨n1, t, by omega, t2⟩
      · exact ⟨by omega, k, by omega, (cor i).mpr (by omega), (cor j).mpr (by omega)⟩
      · exact ⟨by omega, k, by omega, (cor i).mpr (by omega), (cor j).mpr (by omega)⟩
      · exact ⟨by omega, k, by omega, (cor i).mpr (by omega), (cor j).mpr (by omega)⟩
    · rintro ⟨n1, t, t1, t2, t3⟩
      by_cases e : t = k
      · subst e
        have q1 := (cor i).mp t2
        have q2 := (cor j).mp t3
        by_cases z1 : (i = a ∧ j = c) ∨ (i = c ∧ j = a)
        · exact Or.inr z1
        by_cases z2 : (i = b ∧ j = c) ∨ (i = c ∧ j = b)
        · exact Or.inl (Or.inr z2)
        exact Or.inl (Or.inl (Or.inr (by omega)))
      · exact Or.inl (Or.inl (Or.inl ⟨n1, t, by omega, t2, t3⟩))
/-- what an edge is -/
def pg_ED (n : Nat) (X Y : Nat → Int) (tc : Nat) (TT : Nat → Nat) (i j : Nat) : Prop := i ≠ j ∧ ((0 < tc ∧ ∃ t, t < tc ∧ pg_C TT t i ∧ pg_C TT t j) ∨ (tc = 0 ∧ pg_WF n X Y i j))
def pg_NBs (n : Nat) (X Y : Nat → Int) (tc : Nat) (TT NB : Nat → Nat) : Prop := (∀ i, i < n → NB i < 2 ^ 14) ∧ ∀ i j, i < n → j < n → (pg_EB NB i j ↔ pg_ED n X Y tc TT i j)
theorem pg_NBs_T {n tc : Nat} {X Y : Nat → Int} {TT NB : Nat → Nat} (h : pg_JT n TT tc NB) (ht : tc ≠ 0) : pg_NBs n X Y tc TT NB := ⟨h.1, fun i j hi hj => by
  rw [h.2 i j hi hj]
  unfold pg_ED
  constructor
  · exact fun ⟨a, b⟩ => ⟨a, Or.inl ⟨by omega, b⟩⟩
  · rintro ⟨a, ⟨_, b⟩ | ⟨b, _⟩⟩
    · exact ⟨a, b⟩
    · exact absurd b ht⟩
theorem pg_NBs_L {n : Nat} {X Y : Nat → Int} {TT NB : Nat → Nat} (hn : n ≤ 14) (h : pg_JL n X Y (n * 16) NB) : pg_NBs n X Y 0 TT NB := ⟨h.1, fun i j hi hj => by
  rw [h.2 i j hi hj]
  unfold pg_ED
  constructor
  · exact fun ⟨a, b, _⟩ => ⟨a, Or.inr ⟨rfl, b⟩⟩
  · rintro ⟨a, ⟨b, _⟩ | ⟨_, b⟩⟩
    · exact absurd b (by omega)
    · exact ⟨a, b, by omega, by omega⟩⟩
abbrev rmX0_joinAlongLine : Room := { frames := 3, cells := 0, slots := 0, locals := 67 }
theorem inwX0_joinAlongLine : ∀ w ∈ wsX00, w ∈ wsX0_joinAlongLine := fun _ h => List.mem_cons_of_mem _ (List.mem_append_right _ h)
set_option maxRecDepth 20000 in
theorem flX0_joinAlongLine_16 : Cond.fieldLink RX0 16 RX0 (TX0 2).2.1 (TX0 2).2.2.1 ∈ wsX0_joinAlongLine := by decide +kernel
set_option maxRecDepth 20000 in
set_option maxHeartbeats 4000000 in
theorem mtX0_joinAlongLine (SB : pg_ok n X Y) (hNB : ∀ i, i < n → NB i < 2 ^ 14) (hz : ∀ i j, i < n → j < n → ¬ pg_EB NB i j) : gz_Kv l yX0_joinAlongLine wsX0_joinAlongLine rmX0_joinAlongLine D [(cI, .int), (cJ, .long)] [.ref (ad 0)] (wC ad cI n X Y tc TT NB RG rc KT kc tl GR) (fun w1 => ∃ NB, w1 = (wC ad cI n X Y tc TT NB RG rc KT kc tl GR) ∧ pg_JL n X Y (n * 16) NB) := by
  refine gz_ofv (cc := cX0_joinAlongLine) (maxL := 3) (own := RX0) (by decide +kernel) rfl rfl rfl (Nat.le_of_ble_eq_true rfl) ?_
  intro z E ret
  have hn := SB.1
  show gz_G z _ 0 [(0, .ref (ad 0))] []
  have loopA : ∀ (f a : Nat) (NB : Nat → Nat), n < f + a → a ≤ n → pg_JL n X Y (a * 16) NB → gz_G z (wC ad cI n X Y tc TT NB RG rc KT kc tl GR) 2 [(0, .ref (ad 0)), (1, .int (nI a))] [] := by
    intro f
    induction f with
    | zero => intro a NB h1 h2; exact absurd h1 (by omega)
    | succ f ihA =>
      intro a NB h1 h2 hE
      have loopB : a < n → ∀ (g b : Nat) (NB : Nat → Nat), n < g + b → a < b → b ≤ n → pg_JL n X Y (a * 16 + b) NB → gz_G z (wC ad cI n X Y tc TT NB RG rc KT kc tl GR) 14 [(0, .ref (ad 0)), (1, .int (nI a)), (2, .int (nI b))] [] := by
        intro han g
        induction g with
        | zero => intro b NB g1 g2 g3; exact absurd g1 (by omega)
        | succ g ihB =>
          intro b NB g1 g2 g3 hE
          refine gz_iload_n E dX0_joinAlongLine_14 rfl rfl ?_
          refine gz_aload_n E dX0_joinAlongLine_15 rfl rfl ?_
          refine gz_get E inwX0_joinAlongLine 0 2 dX0_joinAlongLine_16 flX0_joinAlongLine_16 rfl rfl (by decide) rfl rfl ?_
          refine gz_icN_ge (tgt := 43) E dX0_joinAlongLine_19 (by decide) (by omega) (by omega) (fun q19 => ?_) (fun q19 => ?_)
          · skip
            refine gz_iinc (lv' := [(0, _), (1, _), (2, _)]) E dX0_joinAlongLine_43 rfl (gz_nI1 _) (by decide) rfl ?_
            refine gz_goto (tgt := 2) E dX0_joinAlongLine_46 (by decide) ?_
            refine gz_sub (lv' := [(0, _), (1, _)]) [0, 1] rfl ?_
            have e : b = n := by omega
            subst e
            exact ihA (a + 1) _ (by omega) (by omega) (pg_JL_jump hE (by omega) (fun i j _ _ _ => by omega))
          · skip
            have ha : a < n := by omega
            have hb : b < n := by omega
            refine gz_aload_n E dX0_joinAlongLine_22 rfl rfl ?_
            refine gz_iload_n E dX0_joinAlongLine_23 rfl rfl ?_
            refine gz_iload_n E dX0_joinAlongLine_24 rfl rfl ?_
            refine gz_cali (n := 2) E 0 dX0_joinAlongLine_25 gX0_joinAlongLine_X0_isWayFree (mtX0_isWayFree SB (by assumption) (by assumption)) rfl rfl ⟨rfl, rfl⟩ (by decide +kernel) ⟨Nat.le_of_ble_eq_true rfl, Nat.le_of_ble_eq_true rfl⟩ rfl rfl rfl rfl (Nat.le_of_ble_eq_true rfl) (fun r25 w25 hr25 => ?_)
            obtain ⟨hr25, rfl⟩ := hr25
            refine gz_ifB_eq (tgt := 37) E hr25 dX0_joinAlongLine_28 (by decide) (fun q28 => ?_) (fun q28 => ?_)
            · skip
              refine gz_iinc (lv' := [(0, _), (1, _), (2, _)]) E dX0_joinAlongLine_37 rfl (gz_nI1 _) (by decide) rfl ?_
              refine gz_goto (tgt := 14) E dX0_joinAlongLine_40 (by decide) ?_
              first | exact ihB (b + 1) _ (by omega) (by omega) (by omega) (pg_JL_add hn hE (by omega) (by omega) q28) | exact ihB (b + 1) _ (by omega) (by omega) (by omega) (pg_JL_no hn hE (by omega) q28)
            · skip
              refine gz_aload_n E dX0_joinAlongLine_31 rfl rfl ?_
              refine gz_iload_n E dX0_joinAlongLine_32 rfl rfl ?_
              refine gz_iload_n E dX0_joinAlongLine_33 rfl rfl ?_
              refine gz_calv (n := 2) E 0 dX0_joinAlongLine_34 gX0_joinAlongLine_X0_join (mtX0_join hn (by assumption) (by assumption) (by omega)) rfl rfl ⟨rfl, rfl⟩ (by decide +kernel) ⟨Nat.le_of_ble_eq_true rfl, Nat.le_of_ble_eq_true rfl⟩ rfl rfl rfl rfl (Nat.le_of_ble_eq_true rfl) (fun w34 hr34 => ?_)
              subst hr34
              refine gz_iinc (lv' := [(0, _), (1, _), (2, _)]) E dX0_joinAlongLine_37 rfl (gz_nI1 _) (by decide) rfl ?_
              refine gz_goto (tgt := 14) E dX0_joinAlongLine_40 (by decide) ?_
              first | exact ihB (b + 1) _ (by omega) (by omega) (by omega) (pg_JL_add hn hE (by omega) (by omega) q28) | exact ihB (b + 1) _ (by omega) (by omega) (by omega) (pg_JL_no hn hE (by omega) q28)
      refine gz_iload_n E dX0_joinAlongLine_2 rfl rfl ?_
      refine gz_aload_n E dX0_joinAlongLine_3 rfl rfl ?_
      refine gz_get E inwX0_joinAlongLine 0 2 dX0_joinAlongLine_4 flX0_joinAlongLine_16 rfl rfl (by decide) rfl rfl ?_
      refine gz_icN_ge (tgt := 49) E dX0_joinAlongLine_7 (by decide) (by omega) (by omega) (fun q7 => ?_) (fun q7 => ?_)
      · skip
        have e : a = n := by omega
        subst e
        exact ret _ _ _ dX0_joinAlongLine_49 ⟨NB, rfl, hE⟩
      · skip
        refine gz_iload_n E dX0_joinAlongLine_10 rfl rfl ?_
        refine gz_iconst (v := nI 1) E dX0_joinAlongLine_11 (by decide) ?_
        refine gz_iaddN E dX0_joinAlongLine_12 ?_
        refine gz_istore_n (lv' := [(0, _), (1, _), (2, _)]) E dX0_joinAlongLine_13 rfl (by decide) rfl ?_
        exact loopB (by omega) (n + 1) (a + 1) _ (by omega) (by omega) (by omega) (pg_JL_jump hE (by omega) (fun i j _ _ _ => by omega))
  refine gz_iconst (v := nI 0) E dX0_joinAlongLine_0 (by decide) ?_
  refine gz_istore_n (lv' := [(0, _), (1, _)]) E dX0_joinAlongLine_1 rfl (by decide) rfl ?_
  exact loopA (n + 1) 0 _ (by omega) (by omega) (by rw [Nat.zero_mul]; exact pg_JL_0 hNB hz)
abbrev rmX0_findEdges : Room := { frames := 4, cells := 0, slots := 0, locals := 89 }
theorem inwX0_findEdges : ∀ w ∈ wsX00, w ∈ wsX0_findEdges := fun _ h => List.mem_cons_of_mem _ (List.mem_append_right _ h)
set_option maxRecDepth 20000 in
theorem flX0_findEdges_23 : Cond.fieldLink RX0 23 RX0 (TX0 4).2.1 (TX0 4).2.2.1 ∈ wsX0_findEdges := by decide +kernel
set_option maxRecDepth 20000 in
theorem flX0_findEdges_16 : Cond.fieldLink RX0 16 RX0 (TX0 2).2.1 (TX0 2).2.2.1 ∈ wsX0_findEdges := by decide +kernel
set_option maxRecDepth 20000 in
theorem flX0_findEdges_26 : Cond.fieldLink RX0 26 RX0 (TX0 5).2.1 (TX0 5).2.2.1 ∈ wsX0_findEdges := by decide +kernel
set_option maxRecDepth 20000 in
set_option maxHeartbeats 4000000 in
theorem mtX0_findEdges (SB : pg_ok n X Y) (ht : tc ≤ 23) (hT : ∀ t, t < tc → ∃ a b c, a < b ∧ b < c ∧ c < n ∧ TT t = a + 16 * b + 256 * c) : gz_Kv l yX0_findEdges wsX0_findEdges rmX0_findEdges D [(cI, .int), (cJ, .long)] [.ref (ad 0)] (wC ad cI n X Y tc TT NB RG rc KT kc tl GR) (fun w1 => ∃ NB, w1 = (wC ad cI n X Y tc TT NB RG rc KT kc tl GR) ∧ pg_NBs n X Y tc TT NB) := by
  refine gz_ofv (cc := cX0_findEdges) (maxL := 5) (own := RX0) (by decide +kernel) rfl rfl rfl (Nat.le_of_ble_eq_true rfl) ?_
  intro z E ret
  have hn := SB.1
  show gz_G z _ 0 [(0, .ref (ad 0))] []
  have loopA : ∀ (f a : Nat) (NB : Nat → Nat), n < f + a → a ≤ n → (∀ i, i < a → NB i = 0) → gz_G z (wC ad cI n X Y tc TT NB RG rc KT kc tl GR) 2 [(0, .ref (ad 0)), (1, .int (nI a))] [] := by
    intro f
    induction f with
    | zero => intro a NB h1 h2; exact absurd h1 (by omega)
    | succ f ihA =>
      intro a NB h1 h2 hE
      have loopB : (∀ i, i < n → NB i = 0) → ∀ (g k : Nat) (NB : Nat → Nat), tc < g + k → k ≤ tc → pg_JT n TT k NB → gz_G z (wC ad cI n X Y tc TT NB RG rc KT kc tl GR) 25 [(0, .ref (ad 0)), (1, .int (nI k))] [] := by
        intro hz0 g
        induction g with
        | zero => intro k NB g1 g2; exact absurd g1 (by omega)
        | succ g ihB =>
          intro k NB g1 g2 hE
          refine gz_iload_n E dX0_findEdges_25 rfl rfl ?_
          refine gz_aload_n E dX0_findEdges_26 rfl rfl ?_
          refine gz_get E inwX0_findEdges 0 4 dX0_findEdges_27 flX0_findEdges_23 rfl rfl (by decide) rfl rfl ?_
          refine gz_icN_ge (tgt := 81) E dX0_findEdges_30 (by decide) (by omega) (by omega) (fun q30 => ?_) (fun q30 => ?_)
          · skip
            refine gz_aload_n E dX0_findEdges_81 rfl rfl ?_
            refine gz_get E inwX0_findEdges 0 4 dX0_findEdges_82 flX0_findEdges_23 rfl rfl (by decide) rfl rfl ?_
            refine gz_ifN_ne (tgt := 92) E dX0_findEdges_85 (by decide) (by omega) (fun q85 => ?_) (fun q85 => ?_)
            · skip
              have e : k = tc := by omega
              subst e
              first | exact ret _ _ _ dX0_findEdges_92 ⟨_, rfl, pg_NBs_T hE q85⟩ | (subst q85; exact ret _ _ _ dX0_findEdges_92 ⟨_, rfl, pg_NBs_L hn hJ89⟩)
            · skip
              have e0 : k = 0 := by omega
              refine gz_aload_n E dX0_findEdges_88 rfl rfl ?_
              refine gz_calv (n := 0) E 0 dX0_findEdges_89 gX0_findEdges_X0_joinAlongLine (mtX0_joinAlongLine SB hE.1 (fun i j hi hj q => by obtain ⟨-, t, ht, -⟩ := (hE.2 i j hi hj).mp q; omega)) rfl rfl ⟨rfl, rfl⟩ (by decide +kernel) ⟨Nat.le_of_ble_eq_true rfl, Nat.le_of_ble_eq_true rfl⟩ rfl rfl rfl rfl (Nat.le_of_ble_eq_true rfl) (fun w89 hr89 => ?_)
              obtain ⟨NB, rfl, hJ89⟩ := hr89
              have e : k = tc := by omega
              subst e
              first | exact ret _ _ _ dX0_findEdges_92 ⟨_, rfl, pg_NBs_T hE q85⟩ | (subst q85; exact ret _ _ _ dX0_findEdges_92 ⟨_, rfl, pg_NBs_L hn hJ89⟩)
          · skip
            have hk : k < tc := by omega
            obtain ⟨a, b, c, hab, hbc, hc, hTk⟩ := hT k hk
            have h4 : TT k < 4096 := by omega
            have ha : a < n := by omega
            have hb : b < n := by omega
            refine gz_aload_n E dX0_findEdges_33 rfl rfl ?_
            refine gz_iload_n E dX0_findEdges_34 rfl rfl ?_
            refine gz_iconst (v := nI 0) E dX0_findEdges_35 (by decide) ?_
            refine gz_cali (n := 2) E 0 dX0_findEdges_36 gX0_findEdges_X0_triangleCorner (mtX0_triangleCorner ht (by assumption) (by assumption) (by decide)) rfl rfl ⟨rfl, rfl⟩ (by decide +kernel) ⟨Nat.le_of_ble_eq_true rfl, Nat.le_of_ble_eq_true rfl⟩ rfl rfl rfl rfl (Nat.le_of_ble_eq_true rfl) (fun r36 w36 hr36 => ?_)
            obtain ⟨rfl, rfl⟩ := hr36
            rw [show TT k / 16 ^ 0 % 16 = a by omega]
            refine gz_istore_n (lv' := [(0, _), (1, _), (2, _)]) E dX0_findEdges_39 rfl (by decide) rfl ?_
            refine gz_aload_n E dX0_findEdges_40 rfl rfl ?_
            refine gz_iload_n E dX0_findEdges_41 rfl rfl ?_
            refine gz_iconst (v := nI 1) E dX0_findEdges_42 (by decide) ?_
            refine gz_cali (n := 2) E 0 dX0_findEdges_43 gX0_findEdges_X0_triangleCorner (mtX0_triangleCorner ht (by assumption) (by assumption) (by decide)) rfl rfl ⟨rfl, rfl⟩ (by decide +kernel) ⟨Nat.le_of_ble_eq_true rfl, Nat.le_of_ble_eq_true rfl⟩ rfl rfl rfl rfl (Nat.le_of_ble_eq_true rfl) (fun r43 w43 hr43 => ?_)
            obtain ⟨rfl, rfl⟩ := hr43
            rw [show TT k / 16 ^ 1 % 16 = b by omega]
            refine gz_istore_n (lv' := [(0, _), (1, _), (2, _), (3, _)]) E dX0_findEdges_46 rfl (by decide) rfl ?_
            refine gz_aload_n E dX0_findEdges_47 rfl rfl ?_
            refine gz_iload_n E dX0_findEdges_48 rfl rfl ?_
            refine gz_iconst (v := nI 2) E dX0_findEdges_49 (by decide) ?_
            refine gz_cali (n := 2) E 0 dX0_findEdges_50 gX0_findEdges_X0_triangleCorner (mtX0_triangleCorner ht (by assumption) (by assumption) (by decide)) rfl rfl ⟨rfl, rfl⟩ (by decide +kernel) ⟨Nat.le_of_ble_eq_true rfl, Nat.le_of_ble_eq_true rfl⟩ rfl rfl rfl rfl (Nat.le_of_ble_eq_true rfl) (fun r50 w50 hr50 => ?_)
            obtain ⟨rfl, rfl⟩ := hr50
            rw [show TT k / 16 ^ 2 % 16 = c by omega]
            refine gz_istore (lv' := [(0, _), (1, _), (2, _), (3, _), (4, _)]) E dX0_findEdges_53 (by decide) rfl ?_
            refine gz_aload_n E dX0_findEdges_55 rfl rfl ?_
            refine gz_iload_n E dX0_findEdges_56 rfl rfl ?_
            refine gz_iload_n E dX0_findEdges_57 rfl rfl ?_
            refine gz_calv (n := 2) E 0 dX0_findEdges_58 gX0_findEdges_X0_join (mtX0_join hn (by assumption) (by assumption) (by omega)) rfl rfl ⟨rfl, rfl⟩ (by decide +kernel) ⟨Nat.le_of_ble_eq_true rfl, Nat.le_of_ble_eq_true rfl⟩ rfl rfl rfl rfl (Nat.le_of_ble_eq_true rfl) (fun w58 hr58 => ?_)
            subst hr58
            refine gz_aload_n E dX0_findEdges_61 rfl rfl ?_
            refine gz_iload_n E dX0_findEdges_62 rfl rfl ?_
            refine gz_iload E dX0_findEdges_63 rfl ?_
            refine gz_calv (n := 2) E 0 dX0_findEdges_65 gX0_findEdges_X0_join (mtX0_join hn (by assumption) (by assumption) (by omega)) rfl rfl ⟨rfl, rfl⟩ (by decide +kernel) ⟨Nat.le_of_ble_eq_true rfl, Nat.le_of_ble_eq_true rfl⟩ rfl rfl rfl rfl (Nat.le_of_ble_eq_true rfl) (fun w65 hr65 => ?_)
            subst hr65
            refine gz_aload_n E dX0_findEdges_68 rfl rfl ?_
            refine gz_iload_n E dX0_findEdges_69 rfl rfl ?_
            refine gz_iload E dX0_findEdges_70 rfl ?_
            refine gz_calv (n := 2) E 0 dX0_findEdges_72 gX0_findEdges_X0_join (mtX0_join hn (by assumption) (by assumption) (by omega)) rfl rfl ⟨rfl, rfl⟩ (by decide +kernel) ⟨Nat.le_of_ble_eq_true rfl, Nat.le_of_ble_eq_true rfl⟩ rfl rfl rfl rfl (Nat.le_of_ble_eq_true rfl) (fun w72 hr72 => ?_)
            subst hr72
            refine gz_iinc (lv' := [(0, _), (1, _), (2, _), (3, _), (4, _)]) E dX0_findEdges_75 rfl (gz_nI1 _) (by decide) rfl ?_
            refine gz_goto (tgt := 25) E dX0_findEdges_78 (by decide) ?_
            refine gz_sub (lv' := [(0, _), (1, _)]) [0, 1] rfl ?_
            exact ihB (k + 1) _ (by omega) (by omega) (pg_JT_add hn hE hab hbc hc hTk rfl rfl rfl)
      refine gz_iload_n E dX0_findEdges_2 rfl rfl ?_
      refine gz_aload_n E dX0_findEdges_3 rfl rfl ?_
      refine gz_get E inwX0_findEdges 0 2 dX0_findEdges_4 flX0_findEdges_16 rfl rfl (by decide) rfl rfl ?_
      refine gz_icN_ge (tgt := 23) E dX0_findEdges_7 (by decide) (by omega) (by omega) (fun q7 => ?_) (fun q7 => ?_)
      · skip
        refine gz_iconst (v := nI 0) E dX0_findEdges_23 (by decide) ?_
        refine gz_istore_n (lv' := [(0, _), (1, _)]) E dX0_findEdges_24 rfl (by decide) rfl ?_
        exact loopB (fun i hi => hE i (by omega)) (tc + 1) 0 _ (by omega) (by omega) (pg_JT_0 (fun i hi => hE i (by omega)))
      · skip
        refine gz_aload_n E dX0_findEdges_10 rfl rfl ?_
        refine gz_get E inwX0_findEdges 0 5 dX0_findEdges_11 flX0_findEdges_26 rfl rfl (by decide) rfl rfl ?_
        refine gz_iload_n E dX0_findEdges_14 rfl rfl ?_
        refine gz_iconst (v := nI 0) E dX0_findEdges_15 (by decide) ?_
        refine gz_iastN E 4 0 dX0_findEdges_16 rfl rfl (by decide) (by omega) ?_
        refine gz_w (ws' := (wC ad cI n X Y tc TT (fun i => if i = a then 0 else NB i) RG rc KT kc tl GR)) (by rw [gz_upN]; rfl) ?_
        refine gz_iinc (lv' := [(0, _), (1, _)]) E dX0_findEdges_17 rfl (gz_nI1 _) (by decide) rfl ?_
        refine gz_goto (tgt := 2) E dX0_findEdges_20 (by decide) ?_
        exact ihA (a + 1) _ (by omega) (by omega) (fun i hi => by
          by_cases e : i = a
          · simp [e]
          · simp only [if_neg e]; exact hE i (by omega))
  refine gz_iconst (v := nI 0) E dX0_findEdges_0 (by decide) ?_
  refine gz_istore_n (lv' := [(0, _), (1, _)]) E dX0_findEdges_1 rfl (by decide) rfl ?_
  exact loopA (n + 1) 0 _ (by omega) (by omega) (fun i hi => absurd hi (by omega))
theorem pg_CH_0 {n f : Nat} {X Y : Nat → Int} {RG : Nat → Nat} : pg_CH n X Y f 0 RG := ⟨fun h => absurd h (by omega), fun i h => absurd h (by omega), fun i h => absurd h (by omega)⟩
theorem pg_CH_add {n f k p : Nat} {X Y : Nat → Int} {RG : Nat → Nat} (h : pg_CH n X Y f k RG) (hp : p < n) (h2 : (k = 0 ∧ p = f) ∨ (0 < k ∧ pg_NX n X Y (RG (k - 1)) p ∧ p ≠ f)) : pg_CH n X Y f (k + 1) (fun i => if i = k then p else RG i) := by
  refine ⟨fun _ => ?_, fun i hi => ?_, fun i hi => ?_⟩
  · by_cases e : 0 = k
    · subst e
      rcases h2 with ⟨-, h2⟩ | ⟨h2, -⟩
      · simpa using h2
      · omega
    · show (if 0 = k then p else RG 0) = f
      rw [if_neg e]; exact h.1 (by omega)
  · show (if i = k then p else RG i) < n
    split
    · exact hp
    · exact h.2.1 i (by omega)
  · show pg_NX n X Y (if i = k then p else RG i) (if i + 1 = k then p else RG (i + 1)) ∧ (if i + 1 = k then p else RG (i + 1)) ≠ f
    rw [if_neg (show i ≠ k by omega)]
    by_cases e : i + 1 = k
    · rw [if_pos e]
      rcases h2 with ⟨h2, -⟩ | ⟨-, h2, h3⟩
      · omega
      · have e2 : k - 1 = i := by omega
        rw [e2] at h2
        exact ⟨h2, h3⟩
    · rw [if_neg e]
      exact h.2.2 i (by omega)
abbrev rmX0_findRing : Room := { frames := 4, cells := 0, slots := 0, locals := 91 }
theorem inwX0_findRing : ∀ w ∈ wsX00, w ∈ wsX0_findRing := fun _ h => List.mem_cons_of_mem _ (List.mem_append_right _ h)
set_option maxRecDepth 20000 in
theorem flX0_findRing_29 : Cond.fieldLink RX0 29 RX0 (TX0 6).2.1 (TX0 6).2.2.1 ∈ wsX0_findRing := by decide +kernel
set_option maxRecDepth 20000 in
theorem flX0_findRing_32 : Cond.fieldLink RX0 32 RX0 (TX0 7).2.1 (TX0 7).2.2.1 ∈ wsX0_findRing := by decide +kernel
set_option maxRecDepth 20000 in
set_option maxHeartbeats 4000000 in
theorem mtX0_findRing (SB : pg_ok n X Y) {f : Nat} (hf : f < n) : gz_Kv l yX0_findRing wsX0_findRing rmX0_findRing D [(cI, .int), (cJ, .long)] [.ref (ad 0), .int (nI f)] (wC ad cI n X Y tc TT NB RG rc KT kc tl GR) (fun w1 => ∃ rc RG, w1 = (wC ad cI n X Y tc TT NB RG rc KT kc tl GR) ∧ 0 < rc ∧ rc ≤ 14 ∧ pg_CH n X Y f rc RG ∧ (rc = 14 ∨ pg_NX n X Y (RG (rc - 1)) f ∨ pg_NN n X Y (RG (rc - 1)))) := by
  refine gz_ofv (cc := cX0_findRing) (maxL := 5) (own := RX0) (by decide +kernel) rfl rfl rfl (Nat.le_of_ble_eq_true rfl) ?_
  intro z E ret
  have hn := SB.1
  show gz_G z _ 0 [(0, .ref (ad 0)), (1, .int (nI f))] []
  have loop : ∀ (g k : Nat) (RG : Nat → Nat) (at0 : Int32), 14 < g + k → k ≤ 14 → pg_CH n X Y f k RG → ((∃ p, p < n ∧ at0 = nI p ∧ ((k = 0 ∧ p = f) ∨ (0 < k ∧ pg_NX n X Y (RG (k - 1)) p ∧ p ≠ f))) ∨ (at0 = -1 ∧ 0 < k ∧ (pg_NX n X Y (RG (k - 1)) f ∨ pg_NN n X Y (RG (k - 1))))) → gz_G z (wC ad cI n X Y tc TT NB RG k KT kc tl GR) 9 [(0, .ref (ad 0)), (1, .int (nI f)), (2, .int at0), (3, .int (nI k))] [] := by
    intro g
    induction g with
    | zero => intro k RG at0 h1 h2; exact absurd h1 (by omega)
    | succ g ih =>
      intro k RG at0 h1 h2 hC hat
      rcases hat with ⟨p, hp, rfl, hp2⟩ | ⟨rfl, hk0, hz⟩
      · skip
        refine gz_iload_n E dX0_findRing_9 rfl rfl ?_
        refine gz_bipush (v := nI 14) E dX0_findRing_10 (by decide) ?_
        refine gz_icN_ge (tgt := 65) E dX0_findRing_12 (by decide) (by omega) (by omega) (fun q12 => ?_) (fun q12 => ?_)
        · skip
          exact ret _ _ _ dX0_findRing_65 ⟨k, RG, rfl, by omega, h2, hC, Or.inl (by omega)⟩
        · skip
          refine gz_iload_n E dX0_findRing_15 rfl rfl ?_
          refine gz_ifN_lt E dX0_findRing_16 65 (by decide) (by omega) ?_
          refine gz_aload_n E dX0_findRing_19 rfl rfl ?_
          refine gz_get E inwX0_findRing 0 6 dX0_findRing_20 flX0_findRing_29 rfl rfl (by decide) rfl rfl ?_
          refine gz_aload_n E dX0_findRing_23 rfl rfl ?_
          refine gz_get E inwX0_findRing 0 7 dX0_findRing_24 flX0_findRing_32 rfl rfl (by decide) rfl rfl ?_
          refine gz_iload_n E dX0_findRing_27 rfl rfl ?_
          refine gz_iastN E 5 0 dX0_findRing_28 rfl rfl (by decide) (by omega) ?_
          refine gz_w (ws' := (wC ad cI n X Y tc TT NB (fun i => if i = k then p else RG i) k KT kc tl GR)) (by rw [gz_upN]; rfl) ?_
          refine gz_aload_n E dX0_findRing_29 rfl rfl ?_
          refine gz_dup E dX0_findRing_30 rfl ?_
          refine gz_get E inwX0_findRing 0 7 dX0_findRing_31 flX0_findRing_32 rfl rfl (by decide) rfl rfl ?_
          refine gz_iconst (v := nI 1) E dX0_findRing_34 (by decide) ?_
          refine gz_iaddN E dX0_findRing_35 ?_
          refine gz_put E inwX0_findRing 0 7 dX0_findRing_36 flX0_findRing_32 rfl rfl (by decide) rfl tyX0 tyX0_ok nmX0 rfl rfl rfl (Nat.le_of_ble_eq_true rfl) ?_
          refine gz_w (ws' := (wC ad cI n X Y tc TT NB (fun i => if i = k then p else RG i) (k + 1) KT kc tl GR)) (by rfl) ?_
          refine gz_aload_n E dX0_findRing_39 rfl rfl ?_
          refine gz_iload_n E dX0_findRing_40 rfl rfl ?_
          refine gz_cali (n := 1) E 0 dX0_findRing_41 gX0_findRing_X0_nextCorner (mtX0_nextCorner SB (by assumption)) rfl rfl ⟨rfl, rfl⟩ (by decide +kernel) ⟨Nat.le_of_ble_eq_true rfl, Nat.le_of_ble_eq_true rfl⟩ rfl rfl rfl rfl (Nat.le_of_ble_eq_true rfl) (fun r41 w41 hr41 => ?_)
          obtain ⟨hr41, rfl⟩ := hr41
          refine gz_istore (lv' := [(0, _), (1, _), (2, _), (3, _), (4, _)]) E dX0_findRing_44 (by decide) rfl ?_
          refine gz_iload E dX0_findRing_46 rfl ?_
          refine gz_iload_n E dX0_findRing_48 rfl rfl ?_
          refine gz_icmp_ne (tgt := 56) E dX0_findRing_49 (by decide) (fun q49 => ?_) (fun q49 => ?_)
          · skip
            refine gz_iload E dX0_findRing_56 rfl ?_
            refine gz_istore_n (lv' := [(0, _), (1, _), (2, _), (3, _), (4, _)]) E dX0_findRing_58 rfl (by decide) rfl ?_
            refine gz_iinc (lv' := [(0, _), (1, _), (2, _), (3, _), (4, _)]) E dX0_findRing_59 rfl (gz_nI1 _) (by decide) rfl ?_
            refine gz_goto (tgt := 9) E dX0_findRing_62 (by decide) ?_
            refine gz_sub (lv' := [(0, _), (1, _), (2, _), (3, _)]) [0, 1, 2, 3] rfl ?_
            refine ih (k + 1) _ _ (by omega) (by omega) (pg_CH_add hC hp hp2) ?_
            first
              | (rcases hr41 with ⟨b, hb1, hb2⟩ | ⟨hb1, hb2⟩
                 · exact Or.inl ⟨b, hb1.1, hb2, Or.inr ⟨by omega, by simpa using hb1, fun e => q49 (by rw [hb2, e])⟩⟩
                 · exact Or.inr ⟨hb1, by omega, Or.inr (by simpa using hb2)⟩)
              | (rcases hr41 with ⟨b, hb1, hb2⟩ | ⟨hb1, hb2⟩
                 · exact Or.inr ⟨rfl, by omega, Or.inl (by have e : b = f := (nI_eq (by have := hb1.1; omega) (by omega)).mp (hb2.symm.trans q49); simpa [← e] using hb1)⟩
                 · exact Or.inr ⟨rfl, by omega, Or.inr (by simpa using hb2)⟩)
          · skip
            refine gz_iconst (v := -1) E dX0_findRing_52 (by decide) ?_
            refine gz_goto (tgt := 58) E dX0_findRing_53 (by decide) ?_
            refine gz_istore_n (lv' := [(0, _), (1, _), (2, _), (3, _), (4, _)]) E dX0_findRing_58 rfl (by decide) rfl ?_
            refine gz_iinc (lv' := [(0, _), (1, _), (2, _), (3, _), (4, _)]) E dX0_findRing_59 rfl (gz_nI1 _) (by decide) rfl ?_
            refine gz_goto (tgt := 9) E dX0_findRing_62 (by decide) ?_
            refine gz_sub (lv' := [(0, _), (1, _), (2, _), (3, _)]) [0, 1, 2, 3] rfl ?_
            refine ih (k + 1) _ _ (by omega) (by omega) (pg_CH_add hC hp hp2) ?_
            first
              | (rcases hr41 with ⟨b, hb1, hb2⟩ | ⟨hb1, hb2⟩
                 · exact Or.inl ⟨b, hb1.1, hb2, Or.inr ⟨by omega, by simpa using hb1, fun e => q49 (by rw [hb2, e])⟩⟩
                 · exact Or.inr ⟨hb1, by omega, Or.inr (by simpa using hb2)⟩)
              | (rcases hr41 with ⟨b, hb1, hb2⟩ | ⟨hb1, hb2⟩
                 · exact Or.inr ⟨rfl, by omega, Or.inl (by have e : b = f := (nI_eq (by have := hb1.1; omega) (by omega)).mp (hb2.symm.trans q49); simpa [← e] using hb1)⟩
                 · exact Or.inr ⟨rfl, by omega, Or.inr (by simpa using hb2)⟩)
      · skip
        refine gz_iload_n E dX0_findRing_9 rfl rfl ?_
        refine gz_bipush (v := nI 14) E dX0_findRing_10 (by decide) ?_
        refine gz_icN_ge (tgt := 65) E dX0_findRing_12 (by decide) (by omega) (by omega) (fun q12 => ?_) (fun q12 => ?_)
        · skip
          exact ret _ _ _ dX0_findRing_65 ⟨k, RG, rfl, hk0, h2, hC, Or.inr hz⟩
        · skip
          refine gz_iload_n E dX0_findRing_15 rfl rfl ?_
          refine gz_if_lt (tgt := 65) E dX0_findRing_16 (by decide) (fun q16 => ?_) (fun q16 => ?_)
          · skip
            exact ret _ _ _ dX0_findRing_65 ⟨k, RG, rfl, hk0, h2, hC, Or.inr hz⟩
          · exact absurd (by decide) q16
  refine gz_aload_n E dX0_findRing_0 rfl rfl ?_
  refine gz_iconst (v := nI 0) E dX0_findRing_1 (by decide) ?_
  refine gz_put E inwX0_findRing 0 7 dX0_findRing_2 flX0_findRing_32 rfl rfl (by decide) rfl tyX0 tyX0_ok nmX0 rfl rfl rfl (Nat.le_of_ble_eq_true rfl) ?_
  refine gz_w (ws' := (wC ad cI n X Y tc TT NB RG 0 KT kc tl GR)) (by rfl) ?_
  refine gz_iload_n E dX0_findRing_5 rfl rfl ?_
  refine gz_istore_n (lv' := [(0, _), (1, _), (2, _)]) E dX0_findRing_6 rfl (by decide) rfl ?_
  refine gz_iconst (v := nI 0) E dX0_findRing_7 (by decide) ?_
  refine gz_istore_n (lv' := [(0, _), (1, _), (2, _), (3, _)]) E dX0_findRing_8 rfl (by decide) rfl ?_
  exact loop 15 0 RG _ (by omega) (by omega) pg_CH_0 (Or.inl ⟨f, hf, rfl, Or.inl ⟨rfl, rfl⟩⟩)
end CE
end
section
/-! the class: tree, rebuild, add -/
section CF
variable {l : Launch} {D : va_G} {ad : Nat → Nat} {cI cJ : ClassId} {n tc rc kc : Nat} {X Y : Nat → Int} {TT NB RG KT GR : Nat → Nat} {tl : Int}
theorem gz_upI (T : Nat → Int) (k : Nat) (v : Int) : upd (fun i => iI (T i)) k (iI v) = fun i => iI (if i = k then v else T i) := by
  funext j
  unfold upd
  by_cases h : j = k
  · rw [if_pos h, if_pos h]
  · rw [if_neg h, if_neg h]
theorem gz_grp_yes {GR : Nat → Nat} {k x y : Nat} (h : GR k = GR y) : (fun i => if i = k then GR x else (if i < k ∧ GR i = GR y then GR x else GR i)) = fun i => if i < k + 1 ∧ GR i = GR y then GR x else GR i := by
  funext i
  by_cases e : i = k
  · subst e
    simp [h]
  · have : (i < k + 1) ↔ i < k := by omega
    simp only [if_neg e, this]
theorem gz_grp_no {GR : Nat → Nat} {k x y : Nat} (h : GR k ≠ GR y) : (fun i => if i < k ∧ GR i = GR y then GR x else GR i) = fun i => if i < k + 1 ∧ GR i = GR y then GR x else GR i := by
  funext i
  by_cases e : i = k
  · subst e
    simp [h]
  · have : (i < k + 1) ↔ i < k := by omega
    simp only [this]
/-- the tree's state after s edges -/
def pg_TI (n : Nat) (X Y : Nat → Int) (E : Nat → Nat → Prop) (s : Nat) (KT : Nat → Nat) (tl : Int) (GR : Nat → Nat) : Prop := ∃ LS GT, pg_TS n X Y E LS GT s ∧ tl = pg_tot X Y LS GT s ∧ (∀ t, t < s → KT t = LS t + 16 * GT t) ∧ ∀ i, i < n → GR i = pg_gr n LS GT s i
theorem pg_TI_0 {n : Nat} {X Y : Nat → Int} {E : Nat → Nat → Prop} {KT GR : Nat → Nat} (h : ∀ i, i < n → GR i = i) : pg_TI n X Y E 0 KT 0 GR := ⟨fun _ => 0, fun _ => 0, fun t ht => absurd ht (by omega), rfl, fun t ht => absurd ht (by omega), fun i hi => by rw [h i hi]; rfl⟩
theorem pg_TI_step {n : Nat} {X Y : Nat → Int} {E : Nat → Nat → Prop} {s x y : Nat} {KT GR : Nat → Nat} {tl : Int} (h : pg_TI n X Y E s KT tl GR) (hs : pg_SEL n X Y E GR x y) : pg_TI n X Y E (s + 1) (fun i => if i = s then x + 16 * y else KT i) (tl + pg_gp X Y x y) (fun i => if i < n ∧ GR i = GR y then GR x else GR i) := by
  obtain ⟨LS, GT, h1, h2, h3, h4⟩ := h
  have hxy := hs.1.1
  have hy := hs.1.2.1
  have c : ∀ t, t < s → LS t = (fun i => if i = s then x else LS i) t ∧ GT t = (fun i => if i = s then y else GT i) t := fun v hv => by
    have : v ≠ s := by omega
    simp [this]
  refine ⟨fun i => if i = s then x else LS i, fun i => if i = s then y else GT i, pg_TS_add h1 (pg_SEL_c (fun _ _ _ _ => Iff.rfl) h4 hs), ?_, fun t ht => ?_, fun i hi => ?_⟩
  · show tl + pg_gp X Y x y = pg_tot X Y _ _ s + pg_gp X Y ((fun i => if i = s then x else LS i) s) ((fun i => if i = s then y else GT i) s)
    rw [← pg_tot_c s c, ← h2]
    simp
  · by_cases e : t = s
    · simp [e]
    · simp only [if_neg e]
      exact h3 t (by omega)
  · have e1 : (fun i => if i = s then x else LS i) s = x := by simp
    have e2 : (fun i => if i = s then y else GT i) s = y := by simp
    show (if i < n ∧ GR i = GR y then GR x else GR i) = if i < n ∧ pg_gr n _ _ s i = pg_gr n _ _ s ((fun i => if i = s then y else GT i) s) then pg_gr n _ _ s ((fun i => if i = s then x else LS i) s) else pg_gr n _ _ s i
    rw [e1, e2, ← pg_gr_c s c i, ← pg_gr_c s c y, ← pg_gr_c s c x, h4 i hi, h4 y hy, h4 x (by omega)]
theorem pg_TI_more {n s : Nat} {X Y : Nat → Int} {E : Nat → Nat → Prop} {KT GR : Nat → Nat} {tl : Int} (h : pg_TI n X Y E s KT tl GR) (hs : s + 1 < n) : ∃ i j, i < n ∧ j < n ∧ GR i ≠ GR j := by
  obtain ⟨LS, GT, h1, h2, h3, h4⟩ := h
  obtain ⟨i, j, hi, hj, e⟩ := pg_TS_more hs h1
  exact ⟨i, j, hi, hj, by rw [h4 i hi, h4 j hj]; exact e⟩
theorem pg_gr_lt {n : Nat} {X Y : Nat → Int} {E : Nat → Nat → Prop} {LS GT : Nat → Nat} : ∀ s, pg_TS n X Y E LS GT s → ∀ i, i < n → pg_gr n LS GT s i < n
  | 0, _, i, hi => hi
  | s + 1, h, i, hi => by
    have ih := pg_gr_lt s (fun t ht => h t (by omega))
    have k := (h s (by omega)).1
    have k1 := k.1
    have k2 := k.2.1
    unfold pg_gr
    split
    · exact ih (LS s) (by omega)
    · exact ih i hi
theorem pg_TI_lt {n s : Nat} {X Y : Nat → Int} {E : Nat → Nat → Prop} {KT GR : Nat → Nat} {tl : Int} (h : pg_TI n X Y E s KT tl GR) : ∀ i, i < n → GR i < n := by
  obtain ⟨LS, GT, h1, h2, h3, h4⟩ := h
  intro i hi
  rw [h4 i hi]
  exact pg_gr_lt s h1 i hi
abbrev rmX0_takeEdge : Room := { frames := 2, cells := 0, slots := 0, locals := 47 }
theorem inwX0_takeEdge : ∀ w ∈ wsX00, w ∈ wsX0_takeEdge := fun _ h => List.mem_cons_of_mem _ (List.mem_append_right _ h)
set_option maxRecDepth 20000 in
theorem flX0_takeEdge_16 : Cond.fieldLink RX0 16 RX0 (TX0 2).2.1 (TX0 2).2.2.1 ∈ wsX0_takeEdge := by decide +kernel
set_option maxRecDepth 20000 in
theorem flX0_takeEdge_45 : Cond.fieldLink RX0 45 RX0 (TX0 11).2.1 (TX0 11).2.2.1 ∈ wsX0_takeEdge := by decide +kernel
set_option maxRecDepth 20000 in
theorem flX0_takeEdge_38 : Cond.fieldLink RX0 38 RX0 (TX0 9).2.1 (TX0 9).2.2.1 ∈ wsX0_takeEdge := by decide +kernel
set_option maxRecDepth 20000 in
theorem flX0_takeEdge_35 : Cond.fieldLink RX0 35 RX0 (TX0 8).2.1 (TX0 8).2.2.1 ∈ wsX0_takeEdge := by decide +kernel
set_option maxRecDepth 20000 in
theorem flX0_takeEdge_41 : Cond.fieldLink RX0 41 RX0 (TX0 10).2.1 (TX0 10).2.2.1 ∈ wsX0_takeEdge := by decide +kernel
set_option maxRecDepth 20000 in
set_option maxHeartbeats 4000000 in
theorem mtX0_takeEdge (SB : pg_ok n X Y) {x y : Nat} (hxy : x < y) (hy : y < n) (hk : kc < 13) (hG : ∀ i, i < n → GR i < n) : gz_Kv l yX0_takeEdge wsX0_takeEdge rmX0_takeEdge D [(cI, .int), (cJ, .long)] [.ref (ad 0), .int (nI x), .int (nI y)] (wC ad cI n X Y tc TT NB RG rc KT kc tl GR) (fun w1 => w1 = (wC ad cI n X Y tc TT NB RG rc (fun i => if i = kc then x + 16 * y else KT i) (kc + 1) (tl + pg_gp X Y x y) (fun i => if i < n ∧ GR i = GR y then GR x else GR i))) := by
  refine gz_ofv (cc := cX0_takeEdge) (maxL := 6) (own := RX0) (by decide +kernel) rfl rfl rfl (Nat.le_of_ble_eq_true rfl) ?_
  intro z E ret
  have hn := SB.1
  have hx : x < n := by omega
  have hGx := hG x hx
  have hGy := hG y hy
  show gz_G z _ 0 [(0, .ref (ad 0)), (1, .int (nI x)), (2, .int (nI y))] []
  have loop : ∀ (f k : Nat), n < f + k → k ≤ n → gz_G z (wC ad cI n X Y tc TT NB RG rc (fun i => if i = kc then x + 16 * y else KT i) (kc + 1) (tl + pg_gp X Y x y) (fun i => if i < k ∧ GR i = GR y then GR x else GR i)) 83 [(0, .ref (ad 0)), (3, .int (nI (GR x))), (4, .int (nI (GR y))), (5, .int (nI k))] [] := by
    intro f
    induction f with
    | zero => intro k h1 h2; exact absurd h1 (by omega)
    | succ f ih =>
      intro k h1 h2
      refine gz_iload E dX0_takeEdge_83 rfl ?_
      refine gz_aload_n E dX0_takeEdge_85 rfl rfl ?_
      refine gz_get E inwX0_takeEdge 0 2 dX0_takeEdge_86 flX0_takeEdge_16 rfl rfl (by decide) rfl rfl ?_
      refine gz_icN_ge (tgt := 118) E dX0_takeEdge_89 (by decide) (by omega) (by omega) (fun q89 => ?_) (fun q89 => ?_)
      · skip
        have e : k = n := by omega
        subst e
        exact ret _ _ _ dX0_takeEdge_118 rfl
      · skip
        have hGk := hG k (by omega)
        refine gz_aload_n E dX0_takeEdge_92 rfl rfl ?_
        refine gz_get E inwX0_takeEdge 0 11 dX0_takeEdge_93 flX0_takeEdge_45 rfl rfl (by decide) rfl rfl ?_
        refine gz_iload E dX0_takeEdge_96 rfl ?_
        refine gz_ialdN (v := nI (GR k)) E 7 0 dX0_takeEdge_98 rfl rfl (by decide) (by simp) (by omega) ?_
        refine gz_iload E dX0_takeEdge_99 rfl ?_
        refine gz_icN_ne (tgt := 112) E dX0_takeEdge_101 (by decide) (by omega) (by omega) (fun q101 => ?_) (fun q101 => ?_)
        · skip
          refine gz_iinc (lv' := [(0, _), (3, _), (4, _), (5, _)]) E dX0_takeEdge_112 rfl (gz_nI1 _) (by decide) rfl ?_
          refine gz_goto (tgt := 83) E dX0_takeEdge_115 (by decide) ?_
          refine gz_w (ws' := (wC ad cI n X Y tc TT NB RG rc (fun i => if i = kc then x + 16 * y else KT i) (kc + 1) (tl + pg_gp X Y x y) (fun i => if i < (k + 1) ∧ GR i = GR y then GR x else GR i))) (congrArg (wC ad cI n X Y tc TT NB RG rc (fun i => if i = kc then x + 16 * y else KT i) (kc + 1) (tl + pg_gp X Y x y)) (by first | exact gz_grp_yes q101 | exact gz_grp_no q101)) ?_
          exact ih (k + 1) (by omega) (by omega)
        · skip
          refine gz_aload_n E dX0_takeEdge_104 rfl rfl ?_
          refine gz_get E inwX0_takeEdge 0 11 dX0_takeEdge_105 flX0_takeEdge_45 rfl rfl (by decide) rfl rfl ?_
          refine gz_iload E dX0_takeEdge_108 rfl ?_
          refine gz_iload_n E dX0_takeEdge_110 rfl rfl ?_
          refine gz_iastN E 7 0 dX0_takeEdge_111 rfl rfl (by decide) (by omega) ?_
          refine gz_w (ws' := (wC ad cI n X Y tc TT NB RG rc (fun i => if i = kc then x + 16 * y else KT i) (kc + 1) (tl + pg_gp X Y x y) (fun i => if i = k then GR x else (if i < k ∧ GR i = GR y then GR x else GR i)))) (by rw [gz_upN]; rfl) ?_
          refine gz_iinc (lv' := [(0, _), (3, _), (4, _), (5, _)]) E dX0_takeEdge_112 rfl (gz_nI1 _) (by decide) rfl ?_
          refine gz_goto (tgt := 83) E dX0_takeEdge_115 (by decide) ?_
          refine gz_w (ws' := (wC ad cI n X Y tc TT NB RG rc (fun i => if i = kc then x + 16 * y else KT i) (kc + 1) (tl + pg_gp X Y x y) (fun i => if i < (k + 1) ∧ GR i = GR y then GR x else GR i))) (congrArg (wC ad cI n X Y tc TT NB RG rc (fun i => if i = kc then x + 16 * y else KT i) (kc + 1) (tl + pg_gp X Y x y)) (by first | exact gz_grp_yes q101 | exact gz_grp_no q101)) ?_
          exact ih (k + 1) (by omega) (by omega)
  refine gz_aload_n E dX0_takeEdge_0 rfl rfl ?_
  refine gz_iload_n E dX0_takeEdge_1 rfl rfl ?_
  refine gz_cali (n := 1) E 0 dX0_takeEdge_2 gX0_takeEdge_X0_isSite (mtX0_isSite hn _) rfl rfl ⟨rfl, rfl⟩ (by decide +kernel) ⟨Nat.le_of_ble_eq_true rfl, Nat.le_of_ble_eq_true rfl⟩ rfl rfl rfl rfl (Nat.le_of_ble_eq_true rfl) (fun r2 w2 hr2 => ?_)
  obtain ⟨hr2, rfl⟩ := hr2
  refine gz_ifB_eq (tgt := 25) E hr2 dX0_takeEdge_5 (by decide) (fun q5 => ?_) (fun q5 => ?_)
  · exact absurd ⟨x, hx, rfl⟩ q5
  · skip
    refine gz_aload_n E dX0_takeEdge_8 rfl rfl ?_
    refine gz_iload_n E dX0_takeEdge_9 rfl rfl ?_
    refine gz_cali (n := 1) E 0 dX0_takeEdge_10 gX0_takeEdge_X0_isSite (mtX0_isSite hn _) rfl rfl ⟨rfl, rfl⟩ (by decide +kernel) ⟨Nat.le_of_ble_eq_true rfl, Nat.le_of_ble_eq_true rfl⟩ rfl rfl rfl rfl (Nat.le_of_ble_eq_true rfl) (fun r10 w10 hr10 => ?_)
    obtain ⟨hr10, rfl⟩ := hr10
    refine gz_ifB_eq (tgt := 25) E hr10 dX0_takeEdge_13 (by decide) (fun q13 => ?_) (fun q13 => ?_)
    · exact absurd ⟨y, hy, rfl⟩ q13
    · skip
      refine gz_aload_n E dX0_takeEdge_16 rfl rfl ?_
      refine gz_get E inwX0_takeEdge 0 9 dX0_takeEdge_17 flX0_takeEdge_38 rfl rfl (by decide) rfl rfl ?_
      refine gz_bipush (v := nI 13) E dX0_takeEdge_20 (by decide) ?_
      refine gz_icN_lt (tgt := 26) E dX0_takeEdge_22 (by decide) (by omega) (by omega) (fun q22 => ?_) (fun q22 => ?_)
      · skip
        refine gz_aload_n E dX0_takeEdge_26 rfl rfl ?_
        refine gz_get E inwX0_takeEdge 0 8 dX0_takeEdge_27 flX0_takeEdge_35 rfl rfl (by decide) rfl rfl ?_
        refine gz_aload_n E dX0_takeEdge_30 rfl rfl ?_
        refine gz_get E inwX0_takeEdge 0 9 dX0_takeEdge_31 flX0_takeEdge_38 rfl rfl (by decide) rfl rfl ?_
        refine gz_iload_n E dX0_takeEdge_34 rfl rfl ?_
        refine gz_iload_n E dX0_takeEdge_35 rfl rfl ?_
        refine gz_iconst (v := nI 4) E dX0_takeEdge_36 (by decide) ?_
        refine gz_ishl E dX0_takeEdge_37 ?_
        refine gz_ior E dX0_takeEdge_38 ?_
        refine gz_s (congrArg (fun q => Value.int q :: _) (gz_pk2 (by omega) (by omega))) ?_
        refine gz_iastN E 6 0 dX0_takeEdge_39 rfl rfl (by decide) (by omega) ?_
        refine gz_w (ws' := (wC ad cI n X Y tc TT NB RG rc (fun i => if i = kc then x + 16 * y else KT i) kc tl GR)) (by rw [gz_upN]; rfl) ?_
        refine gz_aload_n E dX0_takeEdge_40 rfl rfl ?_
        refine gz_dup E dX0_takeEdge_41 rfl ?_
        refine gz_get E inwX0_takeEdge 0 9 dX0_takeEdge_42 flX0_takeEdge_38 rfl rfl (by decide) rfl rfl ?_
        refine gz_iconst (v := nI 1) E dX0_takeEdge_45 (by decide) ?_
        refine gz_iaddN E dX0_takeEdge_46 ?_
        refine gz_put E inwX0_takeEdge 0 9 dX0_takeEdge_47 flX0_takeEdge_38 rfl rfl (by decide) rfl tyX0 tyX0_ok nmX0 rfl rfl rfl (Nat.le_of_ble_eq_true rfl) ?_
        refine gz_w (ws' := (wC ad cI n X Y tc TT NB RG rc (fun i => if i = kc then x + 16 * y else KT i) (kc + 1) tl GR)) (by rfl) ?_
        refine gz_aload_n E dX0_takeEdge_50 rfl rfl ?_
        refine gz_dup E dX0_takeEdge_51 rfl ?_
        refine gz_get E inwX0_takeEdge 0 10 dX0_takeEdge_52 flX0_takeEdge_41 rfl rfl (by decide) rfl rfl ?_
        refine gz_aload_n E dX0_takeEdge_55 rfl rfl ?_
        refine gz_iload_n E dX0_takeEdge_56 rfl rfl ?_
        refine gz_iload_n E dX0_takeEdge_57 rfl rfl ?_
        refine gz_call (n := 2) E 0 dX0_takeEdge_58 gX0_takeEdge_X0_gap (mtX0_gap SB (by assumption) (by assumption)) rfl rfl ⟨rfl, rfl⟩ (by decide +kernel) ⟨Nat.le_of_ble_eq_true rfl, Nat.le_of_ble_eq_true rfl⟩ rfl rfl rfl rfl (Nat.le_of_ble_eq_true rfl) (fun r58 w58 hr58 => ?_)
        obtain ⟨rfl, rfl⟩ := hr58
        refine gz_laddL E dX0_takeEdge_61 ?_
        refine gz_put E inwX0_takeEdge 0 10 dX0_takeEdge_62 flX0_takeEdge_41 rfl rfl (by decide) rfl tyX0 tyX0_ok nmX0 rfl rfl rfl (Nat.le_of_ble_eq_true rfl) ?_
        refine gz_w (ws' := (wC ad cI n X Y tc TT NB RG rc (fun i => if i = kc then x + 16 * y else KT i) (kc + 1) (tl + pg_gp X Y x y) GR)) (by rfl) ?_
        refine gz_aload_n E dX0_takeEdge_65 rfl rfl ?_
        refine gz_get E inwX0_takeEdge 0 11 dX0_takeEdge_66 flX0_takeEdge_45 rfl rfl (by decide) rfl rfl ?_
        refine gz_iload_n E dX0_takeEdge_69 rfl rfl ?_
        refine gz_ialdN E 7 0 dX0_takeEdge_70 rfl rfl (by decide) rfl (by omega) ?_
        refine gz_istore_n (lv' := [(0, _), (1, _), (2, _), (3, _)]) E dX0_takeEdge_71 rfl (by decide) rfl ?_
        refine gz_aload_n E dX0_takeEdge_72 rfl rfl ?_
        refine gz_get E inwX0_takeEdge 0 11 dX0_takeEdge_73 flX0_takeEdge_45 rfl rfl (by decide) rfl rfl ?_
        refine gz_iload_n E dX0_takeEdge_76 rfl rfl ?_
        refine gz_ialdN E 7 0 dX0_takeEdge_77 rfl rfl (by decide) rfl (by omega) ?_
        refine gz_istore (lv' := [(0, _), (1, _), (2, _), (3, _), (4, _)]) E dX0_takeEdge_78 (by decide) rfl ?_
        refine gz_iconst (v := nI 0) E dX0_takeEdge_80 (by decide) ?_
        refine gz_istore (lv' := [(0, _), (1, _), (2, _), (3, _), (4, _), (5, _)]) E dX0_takeEdge_81 (by decide) rfl ?_
        refine gz_sub (lv' := [(0, _), (3, _), (4, _), (5, _)]) [0, 3, 4, 5] rfl ?_
        refine gz_w (ws' := (wC ad cI n X Y tc TT NB RG rc (fun i => if i = kc then x + 16 * y else KT i) (kc + 1) (tl + pg_gp X Y x y) (fun i => if i < 0 ∧ GR i = GR y then GR x else GR i))) (congrArg (wC ad cI n X Y tc TT NB RG rc (fun i => if i = kc then x + 16 * y else KT i) (kc + 1) (tl + pg_gp X Y x y)) (by funext i; simp)) ?_
        exact loop (n + 1) 0 (by omega) (by omega)
      · exact absurd q22 (by omega)
abbrev rmX0_takeNextEdge : Room := { frames := 3, cells := 0, slots := 0, locals := 72 }
theorem inwX0_takeNextEdge : ∀ w ∈ wsX00, w ∈ wsX0_takeNextEdge := fun _ h => List.mem_cons_of_mem _ (List.mem_append_right _ h)
set_option maxRecDepth 20000 in
theorem flX0_takeNextEdge_16 : Cond.fieldLink RX0 16 RX0 (TX0 2).2.1 (TX0 2).2.2.1 ∈ wsX0_takeNextEdge := by decide +kernel
set_option maxRecDepth 20000 in
theorem flX0_takeNextEdge_45 : Cond.fieldLink RX0 45 RX0 (TX0 11).2.1 (TX0 11).2.2.1 ∈ wsX0_takeNextEdge := by decide +kernel
set_option maxRecDepth 20000 in
set_option maxHeartbeats 4000000 in
theorem mtX0_takeNextEdge (SB : pg_ok n X Y) (hk : kc < 13) (hG : ∀ i, i < n → GR i < n) (hNB : ∀ i, i < n → NB i < 2 ^ 14) (hc : ∃ a b, pg_CA n (pg_EB NB) GR a b) : gz_Kv l yX0_takeNextEdge wsX0_takeNextEdge rmX0_takeNextEdge D [(cI, .int), (cJ, .long)] [.ref (ad 0)] (wC ad cI n X Y tc TT NB RG rc KT kc tl GR) (fun w1 => ∃ x y, pg_SEL n X Y (pg_EB NB) GR x y ∧ w1 = (wC ad cI n X Y tc TT NB RG rc (fun i => if i = kc then x + 16 * y else KT i) (kc + 1) (tl + pg_gp X Y x y) (fun i => if i < n ∧ GR i = GR y then GR x else GR i))) := by
  refine gz_ofv (cc := cX0_takeNextEdge) (maxL := 7) (own := RX0) (by decide +kernel) rfl rfl rfl (Nat.le_of_ble_eq_true rfl) ?_
  intro z E ret
  have hn := SB.1
  show gz_G z _ 0 [(0, .ref (ad 0))] []
  have loopA : ∀ (f a : Nat) (u v : Int32) (g : Int64), n < f + a → a ≤ n → pg_ST n X Y (pg_EB NB) GR (a * 16) u v g → gz_G z (wC ad cI n X Y tc TT NB RG rc KT kc tl GR) 9 [(0, .ref (ad 0)), (1, .int u), (2, .int v), (3, .long g), (5, .int (nI a))] [] := by
    intro f
    induction f with
    | zero => intro a u v g h1 h2; exact absurd h1 (by omega)
    | succ f ihA =>
      intro a u v g h1 h2 hE
      have loopB : a < n → ∀ (e b : Nat) (u v : Int32) (g : Int64), n < e + b → a < b → b ≤ n → pg_ST n X Y (pg_EB NB) GR (a * 16 + b) u v g → gz_G z (wC ad cI n X Y tc TT NB RG rc KT kc tl GR) 24 [(0, .ref (ad 0)), (1, .int u), (2, .int v), (3, .long g), (5, .int (nI a)), (6, .int (nI b))] [] := by
        intro han e
        induction e with
        | zero => intro b u v g g1 g2 g3; exact absurd g1 (by omega)
        | succ e ihB =>
          intro b u v g g1 g2 g3 hE
          refine gz_iload E dX0_takeNextEdge_24 rfl ?_
          refine gz_aload_n E dX0_takeNextEdge_26 rfl rfl ?_
          refine gz_get E inwX0_takeNextEdge 0 2 dX0_takeNextEdge_27 flX0_takeNextEdge_16 rfl rfl (by decide) rfl rfl ?_
          refine gz_icN_ge (tgt := 99) E dX0_takeNextEdge_30 (by decide) (by omega) (by omega) (fun q30 => ?_) (fun q30 => ?_)
          · skip
            refine gz_iinc (lv' := [(0, _), (1, _), (2, _), (3, _), (5, _), (6, _)]) E dX0_takeNextEdge_99 rfl (gz_nI1 _) (by decide) rfl ?_
            refine gz_goto (tgt := 9) E dX0_takeNextEdge_102 (by decide) ?_
            refine gz_sub (lv' := [(0, _), (1, _), (2, _), (3, _), (5, _)]) [0, 1, 2, 3, 4] rfl ?_
            have e : b = n := by omega
            subst e
            exact ihA (a + 1) _ _ _ (by omega) (by omega) (pg_ST_jump hE (by omega) (fun i j _ _ _ => by omega))
          · skip
            have ha : a < n := by omega
            have hb : b < n := by omega
            have hGa := hG a ha
            have hGb := hG b hb
            refine gz_aload_n E dX0_takeNextEdge_33 rfl rfl ?_
            refine gz_iload E dX0_takeNextEdge_34 rfl ?_
            refine gz_iload E dX0_takeNextEdge_36 rfl ?_
            refine gz_cali (n := 2) E 0 dX0_takeNextEdge_38 gX0_takeNextEdge_X0_hasEdge (mtX0_hasEdge hn hNB _ _) rfl rfl ⟨rfl, rfl⟩ (by decide +kernel) ⟨Nat.le_of_ble_eq_true rfl, Nat.le_of_ble_eq_true rfl⟩ rfl rfl rfl rfl (Nat.le_of_ble_eq_true rfl) (fun r38 w38 hr38 => ?_)
            obtain ⟨hr38, rfl⟩ := hr38
            refine gz_ifB_eq (tgt := 93) E hr38 dX0_takeNextEdge_41 (by decide) (fun q41 => ?_) (fun q41 => ?_)
            · skip
              refine gz_iinc (lv' := [(0, _), (1, _), (2, _), (3, _), (5, _), (6, _)]) E dX0_takeNextEdge_93 rfl (gz_nI1 _) (by decide) rfl ?_
              refine gz_goto (tgt := 24) E dX0_takeNextEdge_96 (by decide) ?_
              first
                | exact ihB (b + 1) _ _ _ (by omega) (by omega) (by omega) (pg_ST_skip hn hb hE (fun q => q41 ((gz_HE_N hn ha hb).mpr q.2.2.1)))
                | exact ihB (b + 1) _ _ _ (by omega) (by omega) (by omega) (pg_ST_skip hn hb hE (fun q => q.2.2.2 q58))
                | exact ihB (b + 1) _ _ _ (by omega) (by omega) (by omega) (pg_ST_keep SB ha hb hE q62 q74)
                | exact ihB (b + 1) _ _ _ (by omega) (by omega) (by omega) (pg_ST_new SB hE ⟨g2, hb, (gz_HE_N hn ha hb).mp q41, q58⟩ (Or.inl q62))
                | exact ihB (b + 1) _ _ _ (by omega) (by omega) (by omega) (pg_ST_new SB hE ⟨g2, hb, (gz_HE_N hn ha hb).mp q41, q58⟩ (Or.inr q74))
            · skip
              refine gz_aload_n E dX0_takeNextEdge_44 rfl rfl ?_
              refine gz_get E inwX0_takeNextEdge 0 11 dX0_takeNextEdge_45 flX0_takeNextEdge_45 rfl rfl (by decide) rfl rfl ?_
              refine gz_iload E dX0_takeNextEdge_48 rfl ?_
              refine gz_ialdN E 7 0 dX0_takeNextEdge_50 rfl rfl (by decide) rfl (by omega) ?_
              refine gz_aload_n E dX0_takeNextEdge_51 rfl rfl ?_
              refine gz_get E inwX0_takeNextEdge 0 11 dX0_takeNextEdge_52 flX0_takeNextEdge_45 rfl rfl (by decide) rfl rfl ?_
              refine gz_iload E dX0_takeNextEdge_55 rfl ?_
              refine gz_ialdN E 7 0 dX0_takeNextEdge_57 rfl rfl (by decide) rfl (by omega) ?_
              refine gz_icN_eq (tgt := 93) E dX0_takeNextEdge_58 (by decide) (by omega) (by omega) (fun q58 => ?_) (fun q58 => ?_)
              · skip
                refine gz_iinc (lv' := [(0, _), (1, _), (2, _), (3, _), (5, _), (6, _)]) E dX0_takeNextEdge_93 rfl (gz_nI1 _) (by decide) rfl ?_
                refine gz_goto (tgt := 24) E dX0_takeNextEdge_96 (by decide) ?_
                first
                  | exact ihB (b + 1) _ _ _ (by omega) (by omega) (by omega) (pg_ST_skip hn hb hE (fun q => q41 ((gz_HE_N hn ha hb).mpr q.2.2.1)))
                  | exact ihB (b + 1) _ _ _ (by omega) (by omega) (by omega) (pg_ST_skip hn hb hE (fun q => q.2.2.2 q58))
                  | exact ihB (b + 1) _ _ _ (by omega) (by omega) (by omega) (pg_ST_keep SB ha hb hE q62 q74)
                  | exact ihB (b + 1) _ _ _ (by omega) (by omega) (by omega) (pg_ST_new SB hE ⟨g2, hb, (gz_HE_N hn ha hb).mp q41, q58⟩ (Or.inl q62))
                  | exact ihB (b + 1) _ _ _ (by omega) (by omega) (by omega) (pg_ST_new SB hE ⟨g2, hb, (gz_HE_N hn ha hb).mp q41, q58⟩ (Or.inr q74))
              · skip
                refine gz_iload_n E dX0_takeNextEdge_61 rfl rfl ?_
                refine gz_if_lt (tgt := 78) E dX0_takeNextEdge_62 (by decide) (fun q62 => ?_) (fun q62 => ?_)
                · skip
                  refine gz_iload E dX0_takeNextEdge_78 rfl ?_
                  refine gz_istore_n (lv' := [(0, _), (1, _), (2, _), (3, _), (5, _), (6, _)]) E dX0_takeNextEdge_80 rfl (by decide) rfl ?_
                  refine gz_iload E dX0_takeNextEdge_81 rfl ?_
                  refine gz_istore_n (lv' := [(0, _), (1, _), (2, _), (3, _), (5, _), (6, _)]) E dX0_takeNextEdge_83 rfl (by decide) rfl ?_
                  refine gz_aload_n E dX0_takeNextEdge_84 rfl rfl ?_
                  refine gz_iload E dX0_takeNextEdge_85 rfl ?_
                  refine gz_iload E dX0_takeNextEdge_87 rfl ?_
                  refine gz_call (n := 2) E 0 dX0_takeNextEdge_89 gX0_takeNextEdge_X0_gap (mtX0_gap SB (by assumption) (by assumption)) rfl rfl ⟨rfl, rfl⟩ (by decide +kernel) ⟨Nat.le_of_ble_eq_true rfl, Nat.le_of_ble_eq_true rfl⟩ rfl rfl rfl rfl (Nat.le_of_ble_eq_true rfl) (fun r89 w89 hr89 => ?_)
                  obtain ⟨rfl, rfl⟩ := hr89
                  refine gz_lstore_n (lv' := [(0, _), (1, _), (2, _), (3, _), (5, _), (6, _)]) E dX0_takeNextEdge_92 rfl (by decide) rfl ?_
                  refine gz_iinc (lv' := [(0, _), (1, _), (2, _), (3, _), (5, _), (6, _)]) E dX0_takeNextEdge_93 rfl (gz_nI1 _) (by decide) rfl ?_
                  refine gz_goto (tgt := 24) E dX0_takeNextEdge_96 (by decide) ?_
                  first
                    | exact ihB (b + 1) _ _ _ (by omega) (by omega) (by omega) (pg_ST_skip hn hb hE (fun q => q41 ((gz_HE_N hn ha hb).mpr q.2.2.1)))
                    | exact ihB (b + 1) _ _ _ (by omega) (by omega) (by omega) (pg_ST_skip hn hb hE (fun q => q.2.2.2 q58))
                    | exact ihB (b + 1) _ _ _ (by omega) (by omega) (by omega) (pg_ST_keep SB ha hb hE q62 q74)
                    | exact ihB (b + 1) _ _ _ (by omega) (by omega) (by omega) (pg_ST_new SB hE ⟨g2, hb, (gz_HE_N hn ha hb).mp q41, q58⟩ (Or.inl q62))
                    | exact ihB (b + 1) _ _ _ (by omega) (by omega) (by omega) (pg_ST_new SB hE ⟨g2, hb, (gz_HE_N hn ha hb).mp q41, q58⟩ (Or.inr q74))
                · skip
                  refine gz_aload_n E dX0_takeNextEdge_65 rfl rfl ?_
                  refine gz_iload E dX0_takeNextEdge_66 rfl ?_
                  refine gz_iload E dX0_takeNextEdge_68 rfl ?_
                  refine gz_call (n := 2) E 0 dX0_takeNextEdge_70 gX0_takeNextEdge_X0_gap (mtX0_gap SB (by assumption) (by assumption)) rfl rfl ⟨rfl, rfl⟩ (by decide +kernel) ⟨Nat.le_of_ble_eq_true rfl, Nat.le_of_ble_eq_true rfl⟩ rfl rfl rfl rfl (Nat.le_of_ble_eq_true rfl) (fun r70 w70 hr70 => ?_)
                  obtain ⟨rfl, rfl⟩ := hr70
                  refine gz_lload_n E dX0_takeNextEdge_73 rfl rfl ?_
                  refine gz_lc_ge (tgt := 93) E dX0_takeNextEdge_74 dX0_takeNextEdge_75 (by decide) (fun q74 => ?_) (fun q74 => ?_)
                  · skip
                    refine gz_iinc (lv' := [(0, _), (1, _), (2, _), (3, _), (5, _), (6, _)]) E dX0_takeNextEdge_93 rfl (gz_nI1 _) (by decide) rfl ?_
                    refine gz_goto (tgt := 24) E dX0_takeNextEdge_96 (by decide) ?_
                    first
                      | exact ihB (b + 1) _ _ _ (by omega) (by omega) (by omega) (pg_ST_skip hn hb hE (fun q => q41 ((gz_HE_N hn ha hb).mpr q.2.2.1)))
                      | exact ihB (b + 1) _ _ _ (by omega) (by omega) (by omega) (pg_ST_skip hn hb hE (fun q => q.2.2.2 q58))
                      | exact ihB (b + 1) _ _ _ (by omega) (by omega) (by omega) (pg_ST_keep SB ha hb hE q62 q74)
                      | exact ihB (b + 1) _ _ _ (by omega) (by omega) (by omega) (pg_ST_new SB hE ⟨g2, hb, (gz_HE_N hn ha hb).mp q41, q58⟩ (Or.inl q62))
                      | exact ihB (b + 1) _ _ _ (by omega) (by omega) (by omega) (pg_ST_new SB hE ⟨g2, hb, (gz_HE_N hn ha hb).mp q41, q58⟩ (Or.inr q74))
                  · skip
                    refine gz_iload E dX0_takeNextEdge_78 rfl ?_
                    refine gz_istore_n (lv' := [(0, _), (1, _), (2, _), (3, _), (5, _), (6, _)]) E dX0_takeNextEdge_80 rfl (by decide) rfl ?_
                    refine gz_iload E dX0_takeNextEdge_81 rfl ?_
                    refine gz_istore_n (lv' := [(0, _), (1, _), (2, _), (3, _), (5, _), (6, _)]) E dX0_takeNextEdge_83 rfl (by decide) rfl ?_
                    refine gz_aload_n E dX0_takeNextEdge_84 rfl rfl ?_
                    refine gz_iload E dX0_takeNextEdge_85 rfl ?_
                    refine gz_iload E dX0_takeNextEdge_87 rfl ?_
                    refine gz_call (n := 2) E 0 dX0_takeNextEdge_89 gX0_takeNextEdge_X0_gap (mtX0_gap SB (by assumption) (by assumption)) rfl rfl ⟨rfl, rfl⟩ (by decide +kernel) ⟨Nat.le_of_ble_eq_true rfl, Nat.le_of_ble_eq_true rfl⟩ rfl rfl rfl rfl (Nat.le_of_ble_eq_true rfl) (fun r89 w89 hr89 => ?_)
                    obtain ⟨rfl, rfl⟩ := hr89
                    refine gz_lstore_n (lv' := [(0, _), (1, _), (2, _), (3, _), (5, _), (6, _)]) E dX0_takeNextEdge_92 rfl (by decide) rfl ?_
                    refine gz_iinc (lv' := [(0, _), (1, _), (2, _), (3, _), (5, _), (6, _)]) E dX0_takeNextEdge_93 rfl (gz_nI1 _) (by decide) rfl ?_
                    refine gz_goto (tgt := 24) E dX0_takeNextEdge_96 (by decide) ?_
                    first
                      | exact ihB (b + 1) _ _ _ (by omega) (by omega) (by omega) (pg_ST_skip hn hb hE (fun q => q41 ((gz_HE_N hn ha hb).mpr q.2.2.1)))
                      | exact ihB (b + 1) _ _ _ (by omega) (by omega) (by omega) (pg_ST_skip hn hb hE (fun q => q.2.2.2 q58))
                      | exact ihB (b + 1) _ _ _ (by omega) (by omega) (by omega) (pg_ST_keep SB ha hb hE q62 q74)
                      | exact ihB (b + 1) _ _ _ (by omega) (by omega) (by omega) (pg_ST_new SB hE ⟨g2, hb, (gz_HE_N hn ha hb).mp q41, q58⟩ (Or.inl q62))
                      | exact ihB (b + 1) _ _ _ (by omega) (by omega) (by omega) (pg_ST_new SB hE ⟨g2, hb, (gz_HE_N hn ha hb).mp q41, q58⟩ (Or.inr q74))
      refine gz_iload E dX0_takeNextEdge_9 rfl ?_
      refine gz_aload_n E dX0_takeNextEdge_11 rfl rfl ?_
      refine gz_get E inwX0_takeNextEdge 0 2 dX0_takeNextEdge_12 flX0_takeNextEdge_16 rfl rfl (by decide) rfl rfl ?_
      refine gz_icN_ge (tgt := 105) E dX0_takeNextEdge_15 (by decide) (by omega) (by omega) (fun q15 => ?_) (fun q15 => ?_)
      · skip
        have e : a = n := by omega
        subst e
        rcases pg_ST_fin hn hE with ⟨-, hno⟩ | ⟨x, y, rfl, rfl, hsel⟩
        · obtain ⟨a1, b1, hab⟩ := hc; exact absurd hab (hno a1 b1)
        have hsx := hsel.1.1
        have hsy := hsel.1.2.1
        refine gz_iload_n E dX0_takeNextEdge_105 rfl rfl ?_
        refine gz_if_lt (tgt := 115) E dX0_takeNextEdge_106 (by decide) (fun q106 => ?_) (fun q106 => ?_)
        · exact absurd q106 (nI_pos (by omega))
        · skip
          refine gz_aload_n E dX0_takeNextEdge_109 rfl rfl ?_
          refine gz_iload_n E dX0_takeNextEdge_110 rfl rfl ?_
          refine gz_iload_n E dX0_takeNextEdge_111 rfl rfl ?_
          refine gz_calv (n := 2) E 0 dX0_takeNextEdge_112 gX0_takeNextEdge_X0_takeEdge (mtX0_takeEdge SB hsx hsy hk hG) rfl rfl ⟨rfl, rfl⟩ (by decide +kernel) ⟨Nat.le_of_ble_eq_true rfl, Nat.le_of_ble_eq_true rfl⟩ rfl rfl rfl rfl (Nat.le_of_ble_eq_true rfl) (fun w112 hr112 => ?_)
          subst hr112
          exact ret _ _ _ dX0_takeNextEdge_115 ⟨x, y, hsel, rfl⟩
      · skip
        refine gz_iload E dX0_takeNextEdge_18 rfl ?_
        refine gz_iconst (v := nI 1) E dX0_takeNextEdge_20 (by decide) ?_
        refine gz_iaddN E dX0_takeNextEdge_21 ?_
        refine gz_istore (lv' := [(0, _), (1, _), (2, _), (3, _), (5, _), (6, _)]) E dX0_takeNextEdge_22 (by decide) rfl ?_
        exact loopB (by omega) (n + 1) (a + 1) _ _ _ (by omega) (by omega) (by omega) (pg_ST_jump hE (by omega) (fun i j _ _ _ => by omega))
  refine gz_iconst (v := -1) E dX0_takeNextEdge_0 (by decide) ?_
  refine gz_istore_n (lv' := [(0, _), (1, _)]) E dX0_takeNextEdge_1 rfl (by decide) rfl ?_
  refine gz_iconst (v := -1) E dX0_takeNextEdge_2 (by decide) ?_
  refine gz_istore_n (lv' := [(0, _), (1, _), (2, _)]) E dX0_takeNextEdge_3 rfl (by decide) rfl ?_
  refine gz_lconst (v := lI 0) E dX0_takeNextEdge_4 (by decide) ?_
  refine gz_lstore_n (lv' := [(0, _), (1, _), (2, _), (3, _)]) E dX0_takeNextEdge_5 rfl (by decide) rfl ?_
  refine gz_iconst (v := nI 0) E dX0_takeNextEdge_6 (by decide) ?_
  refine gz_istore (lv' := [(0, _), (1, _), (2, _), (3, _), (5, _)]) E dX0_takeNextEdge_7 (by decide) rfl ?_
  exact loopA (n + 1) 0 _ _ _ (by omega) (by omega) (by rw [Nat.zero_mul]; exact pg_ST_0)
abbrev rmX0_growTree : Room := { frames := 4, cells := 0, slots := 0, locals := 98 }
theorem inwX0_growTree : ∀ w ∈ wsX00, w ∈ wsX0_growTree := fun _ h => List.mem_cons_of_mem _ (List.mem_append_right _ h)
set_option maxRecDepth 20000 in
theorem flX0_growTree_16 : Cond.fieldLink RX0 16 RX0 (TX0 2).2.1 (TX0 2).2.2.1 ∈ wsX0_growTree := by decide +kernel
set_option maxRecDepth 20000 in
theorem flX0_growTree_45 : Cond.fieldLink RX0 45 RX0 (TX0 11).2.1 (TX0 11).2.2.1 ∈ wsX0_growTree := by decide +kernel
set_option maxRecDepth 20000 in
theorem flX0_growTree_38 : Cond.fieldLink RX0 38 RX0 (TX0 9).2.1 (TX0 9).2.2.1 ∈ wsX0_growTree := by decide +kernel
set_option maxRecDepth 20000 in
theorem flX0_growTree_41 : Cond.fieldLink RX0 41 RX0 (TX0 10).2.1 (TX0 10).2.2.1 ∈ wsX0_growTree := by decide +kernel
set_option maxRecDepth 20000 in
set_option maxHeartbeats 4000000 in
theorem mtX0_growTree (SB : pg_ok n X Y) (hn0 : 0 < n) (hNB : ∀ i, i < n → NB i < 2 ^ 14) (hcon : ∀ GR : Nat → Nat, (∃ i j, i < n ∧ j < n ∧ GR i ≠ GR j) → ∃ a b, pg_CA n (pg_EB NB) GR a b) : gz_Kv l yX0_growTree wsX0_growTree rmX0_growTree D [(cI, .int), (cJ, .long)] [.ref (ad 0)] (wC ad cI n X Y tc TT NB RG rc KT kc tl GR) (fun w1 => ∃ KT tl GR, w1 = (wC ad cI n X Y tc TT NB RG rc KT (n - 1) tl GR) ∧ pg_TI n X Y (pg_EB NB) (n - 1) KT tl GR) := by
  refine gz_ofv (cc := cX0_growTree) (maxL := 2) (own := RX0) (by decide +kernel) rfl rfl rfl (Nat.le_of_ble_eq_true rfl) ?_
  intro z E ret
  have hn := SB.1
  show gz_G z _ 0 [(0, .ref (ad 0))] []
  have loopB : ∀ (f s : Nat) (KT : Nat → Nat) (tl : Int) (GR : Nat → Nat), n < f + s → s + 1 ≤ n → pg_TI n X Y (pg_EB NB) s KT tl GR → gz_G z (wC ad cI n X Y tc TT NB RG rc KT s tl GR) 35 [(0, .ref (ad 0)), (1, .int (nI (s + 1)))] [] := by
    intro f
    induction f with
    | zero => intro s KT tl GR h1 h2; exact absurd h1 (by omega)
    | succ f ihB =>
      intro s KT tl GR h1 h2 hE
      refine gz_iload_n E dX0_growTree_35 rfl rfl ?_
      refine gz_aload_n E dX0_growTree_36 rfl rfl ?_
      refine gz_get E inwX0_growTree 0 2 dX0_growTree_37 flX0_growTree_16 rfl rfl (by decide) rfl rfl ?_
      refine gz_icN_ge (tgt := 53) E dX0_growTree_40 (by decide) (by omega) (by omega) (fun q40 => ?_) (fun q40 => ?_)
      · skip
        have e : s = n - 1 := by omega
        subst e
        exact ret _ _ _ dX0_growTree_53 ⟨KT, tl, GR, rfl, hE⟩
      · skip
        refine gz_aload_n E dX0_growTree_43 rfl rfl ?_
        refine gz_calv (n := 0) E 0 dX0_growTree_44 gX0_growTree_X0_takeNextEdge (mtX0_takeNextEdge SB (by omega) (pg_TI_lt hE) hNB (hcon GR (pg_TI_more hE (by omega)))) rfl rfl ⟨rfl, rfl⟩ (by decide +kernel) ⟨Nat.le_of_ble_eq_true rfl, Nat.le_of_ble_eq_true rfl⟩ rfl rfl rfl rfl (Nat.le_of_ble_eq_true rfl) (fun w44 hr44 => ?_)
        obtain ⟨x, y, hsel, rfl⟩ := hr44
        refine gz_iinc (lv' := [(0, _), (1, _)]) E dX0_growTree_47 rfl (gz_nI1 _) (by decide) rfl ?_
        refine gz_goto (tgt := 35) E dX0_growTree_50 (by decide) ?_
        exact ihB (s + 1) _ _ _ (by omega) (by omega) (pg_TI_step hE hsel)
  have loopA : ∀ (f a : Nat) (GR : Nat → Nat), n < f + a → a ≤ n → (∀ i, i < a → GR i = i) → gz_G z (wC ad cI n X Y tc TT NB RG rc KT 0 0 GR) 12 [(0, .ref (ad 0)), (1, .int (nI a))] [] := by
    intro f
    induction f with
    | zero => intro a GR h1 h2; exact absurd h1 (by omega)
    | succ f ihA =>
      intro a GR h1 h2 hE
      refine gz_iload_n E dX0_growTree_12 rfl rfl ?_
      refine gz_aload_n E dX0_growTree_13 rfl rfl ?_
      refine gz_get E inwX0_growTree 0 2 dX0_growTree_14 flX0_growTree_16 rfl rfl (by decide) rfl rfl ?_
      refine gz_icN_ge (tgt := 33) E dX0_growTree_17 (by decide) (by omega) (by omega) (fun q17 => ?_) (fun q17 => ?_)
      · skip
        refine gz_iconst (v := nI 1) E dX0_growTree_33 (by decide) ?_
        refine gz_istore_n (lv' := [(0, _), (1, _)]) E dX0_growTree_34 rfl (by decide) rfl ?_
        exact loopB (n + 1) 0 _ _ _ (by omega) (by omega) (pg_TI_0 (fun i hi => hE i (by omega)))
      · skip
        refine gz_aload_n E dX0_growTree_20 rfl rfl ?_
        refine gz_get E inwX0_growTree 0 11 dX0_growTree_21 flX0_growTree_45 rfl rfl (by decide) rfl rfl ?_
        refine gz_iload_n E dX0_growTree_24 rfl rfl ?_
        refine gz_iload_n E dX0_growTree_25 rfl rfl ?_
        refine gz_iastN E 7 0 dX0_growTree_26 rfl rfl (by decide) (by omega) ?_
        refine gz_w (ws' := (wC ad cI n X Y tc TT NB RG rc KT 0 0 (fun i => if i = a then a else GR i))) (by rw [gz_upN]; rfl) ?_
        refine gz_iinc (lv' := [(0, _), (1, _)]) E dX0_growTree_27 rfl (gz_nI1 _) (by decide) rfl ?_
        refine gz_goto (tgt := 12) E dX0_growTree_30 (by decide) ?_
        exact ihA (a + 1) _ (by omega) (by omega) (fun i hi => by
          by_cases e : i = a
          · simp [e]
          · simp only [if_neg e]; exact hE i (by omega))
  refine gz_aload_n E dX0_growTree_0 rfl rfl ?_
  refine gz_iconst (v := nI 0) E dX0_growTree_1 (by decide) ?_
  refine gz_put E inwX0_growTree 0 9 dX0_growTree_2 flX0_growTree_38 rfl rfl (by decide) rfl tyX0 tyX0_ok nmX0 rfl rfl rfl (Nat.le_of_ble_eq_true rfl) ?_
  refine gz_w (ws' := (wC ad cI n X Y tc TT NB RG rc KT 0 tl GR)) (by rfl) ?_
  refine gz_aload_n E dX0_growTree_5 rfl rfl ?_
  refine gz_lconst (v := lI 0) E dX0_growTree_6 (by decide) ?_
  refine gz_put E inwX0_growTree 0 10 dX0_growTree_7 flX0_growTree_41 rfl rfl (by decide) rfl tyX0 tyX0_ok nmX0 rfl rfl rfl (Nat.le_of_ble_eq_true rfl) ?_
  refine gz_w (ws' := (wC ad cI n X Y tc TT NB RG rc KT 0 0 GR)) (by rfl) ?_
  refine gz_iconst (v := nI 0) E dX0_growTree_10 (by decide) ?_
  refine gz_istore_n (lv' := [(0, _), (1, _)]) E dX0_growTree_11 rfl (by decide) rfl ?_
  exact loopA (n + 1) 0 _ (by omega) (by omega) (fun i hi => absurd hi (by omega))
def pg_LC (n : Nat) (X Y : Nat → Int) (f : Nat) : Prop := f < n ∧ ((n = 1 ∧ f = 0) ∨ (n ≠ 1 ∧ (∃ b, pg_NX n X Y f b) ∧ ∀ c, c < f → pg_NN n X Y c))
/-- the ring of the corners -/
def pg_RI (n : Nat) (X Y : Nat → Int) (rc : Nat) (RG : Nat → Nat) : Prop := ∃ f, pg_LC n X Y f ∧ 0 < rc ∧ rc ≤ 14 ∧ pg_CH n X Y f rc RG ∧ (rc = 14 ∨ pg_NX n X Y (RG (rc - 1)) f ∨ pg_NN n X Y (RG (rc - 1)))
/-- the class's state over its sites -/
def pg_ALL (n : Nat) (X Y : Nat → Int) (tc : Nat) (TT NB RG : Nat → Nat) (rc : Nat) (KT : Nat → Nat) (kc : Nat) (tl : Int) (GR : Nat → Nat) : Prop := pg_ENT n X Y 4096 tc TT ∧ pg_NBs n X Y tc TT NB ∧ pg_RI n X Y rc RG ∧ kc = n - 1 ∧ pg_TI n X Y (pg_EB NB) (n - 1) KT tl GR
theorem pg_ENT_T {n q tc : Nat} {X Y : Nat → Int} {TT : Nat → Nat} (h : pg_ENT n X Y q tc TT) : ∀ t, t < tc → ∃ a b c, a < b ∧ b < c ∧ c < n ∧ TT t = a + 16 * b + 256 * c := by
  obtain ⟨A, B, C, h1, h2⟩ := h
  intro t ht
  obtain ⟨k1, k2, k3⟩ := pg_TR_lt (h1.1 t ht).1
  exact ⟨A t, B t, C t, k1, k2, k3, h2 t ht⟩
/-- what the plane gives: an edge between two groups, a corner -/
def pg_PL (n : Nat) (X Y : Nat → Int) : Prop := (n = 1 ∨ ∃ a b, a < n ∧ pg_NX n X Y a b) ∧ ∀ tc TT NB, pg_ENT n X Y 4096 tc TT → pg_NBs n X Y tc TT NB → ∀ GR : Nat → Nat, (∃ i j, i < n ∧ j < n ∧ GR i ≠ GR j) → ∃ a b, pg_CA n (pg_EB NB) GR a b
abbrev rmX0_rebuild : Room := { frames := 5, cells := 0, slots := 0, locals := 138 }
set_option maxRecDepth 20000 in
set_option maxHeartbeats 4000000 in
theorem mtX0_rebuild (SB : pg_ok n X Y) (hn0 : 0 < n) (hPL : pg_PL n X Y) : gz_Kv l yX0_rebuild wsX0_rebuild rmX0_rebuild D [(cI, .int), (cJ, .long)] [.ref (ad 0)] (wC ad cI n X Y tc TT NB RG rc KT kc tl GR) (fun w1 => ∃ tc TT NB RG rc KT kc tl GR, w1 = (wC ad cI n X Y tc TT NB RG rc KT kc tl GR) ∧ pg_ALL n X Y tc TT NB RG rc KT kc tl GR) := by
  refine gz_ofv (cc := cX0_rebuild) (maxL := 1) (own := RX0) (by decide +kernel) rfl rfl rfl (Nat.le_of_ble_eq_true rfl) ?_
  intro z E ret
  have hn := SB.1
  show gz_G z _ 0 [(0, .ref (ad 0))] []
  refine gz_aload_n E dX0_rebuild_0 rfl rfl ?_
  refine gz_calv (n := 0) E 0 dX0_rebuild_1 gX0_rebuild_X0_findTriangles (mtX0_findTriangles SB) rfl rfl ⟨rfl, rfl⟩ (by decide +kernel) ⟨Nat.le_of_ble_eq_true rfl, Nat.le_of_ble_eq_true rfl⟩ rfl rfl rfl rfl (Nat.le_of_ble_eq_true rfl) (fun w1 hr1 => ?_)
  obtain ⟨tc, TT, rfl, hEN1⟩ := hr1
  refine gz_aload_n E dX0_rebuild_4 rfl rfl ?_
  refine gz_calv (n := 0) E 0 dX0_rebuild_5 gX0_rebuild_X0_findEdges (mtX0_findEdges SB (pg_ENT_23 SB hEN1) (pg_ENT_T hEN1)) rfl rfl ⟨rfl, rfl⟩ (by decide +kernel) ⟨Nat.le_of_ble_eq_true rfl, Nat.le_of_ble_eq_true rfl⟩ rfl rfl rfl rfl (Nat.le_of_ble_eq_true rfl) (fun w5 hr5 => ?_)
  obtain ⟨NB, rfl, hNB5⟩ := hr5
  refine gz_aload_n E dX0_rebuild_8 rfl rfl ?_
  refine gz_aload_n E dX0_rebuild_9 rfl rfl ?_
  refine gz_cali (n := 0) E 0 dX0_rebuild_10 gX0_rebuild_X0_leastCorner (mtX0_leastCorner SB) rfl rfl ⟨rfl, rfl⟩ (by decide +kernel) ⟨Nat.le_of_ble_eq_true rfl, Nat.le_of_ble_eq_true rfl⟩ rfl rfl rfl rfl (Nat.le_of_ble_eq_true rfl) (fun r10 w10 hr10 => ?_)
  obtain ⟨hr10, rfl⟩ := hr10
  obtain ⟨f, hLC, rfl⟩ : ∃ f, pg_LC n X Y f ∧ r10 = nI f := by
    rcases hr10 with ⟨e1, e2⟩ | ⟨e1, a, b, ha, hb, hc, e2⟩ | ⟨e1, e2, e3⟩
    · exact ⟨0, ⟨hn0, Or.inl ⟨e1, rfl⟩⟩, e2⟩
    · exact ⟨a, ⟨ha, Or.inr ⟨e1, ⟨b, hb⟩, hc⟩⟩, e2⟩
    · rcases hPL.1 with e | ⟨a, b, ha, hb⟩
      · exact absurd e e1
      · exact absurd hb (fun q => pg_NX_NN q (e3 a ha))
  refine gz_calv (n := 1) E 0 dX0_rebuild_13 gX0_rebuild_X0_findRing (mtX0_findRing SB hLC.1) rfl rfl ⟨rfl, rfl⟩ (by decide +kernel) ⟨Nat.le_of_ble_eq_true rfl, Nat.le_of_ble_eq_true rfl⟩ rfl rfl rfl rfl (Nat.le_of_ble_eq_true rfl) (fun w13 hr13 => ?_)
  obtain ⟨rc, RG, rfl, hRG13⟩ := hr13
  refine gz_aload_n E dX0_rebuild_16 rfl rfl ?_
  refine gz_calv (n := 0) E 0 dX0_rebuild_17 gX0_rebuild_X0_growTree (mtX0_growTree SB hn0 hNB5.1 (hPL.2 _ _ _ hEN1 hNB5)) rfl rfl ⟨rfl, rfl⟩ (by decide +kernel) ⟨Nat.le_of_ble_eq_true rfl, Nat.le_of_ble_eq_true rfl⟩ rfl rfl rfl rfl (Nat.le_of_ble_eq_true rfl) (fun w17 hr17 => ?_)
  obtain ⟨KT, tl, GR, rfl, hTI17⟩ := hr17
  exact ret _ _ _ dX0_rebuild_20 ⟨_, _, _, _, _, _, _, _, _, rfl, hEN1, hNB5, ⟨f, hLC, hRG13⟩, rfl, hTI17⟩
theorem pg_ok_add {n : Nat} {X Y : Nat → Int} {x y : Int} (h : pg_ok n X Y) (hn : n < 14) (x1 : -30000 ≤ x) (x2 : x ≤ 30000) (y1 : -30000 ≤ y) (y2 : y ≤ 30000) (hno : ∀ k, k < n → ¬ (X k = x ∧ Y k = y)) : pg_ok (n + 1) (fun i => if i = n then x else X i) (fun i => if i = n then y else Y i) := by
  refine ⟨by omega, fun i hi => ?_, fun i j hi hj e1 e2 => ?_⟩
  · by_cases e : i = n
    · simp [e]; omega
    · simp only [if_neg e]; exact h.2.1 i (by omega)
  · dsimp only at e1 e2
    by_cases a : i = n
    · by_cases b : j = n
      · omega
      · rw [if_pos a, if_neg b] at e1 e2
        exact absurd ⟨e1.symm, e2.symm⟩ (hno j (by omega))
    · by_cases b : j = n
      · rw [if_neg a, if_pos b] at e1 e2
        exact absurd ⟨e1, e2⟩ (hno i (by omega))
      · rw [if_neg a, if_neg b] at e1 e2
        exact h.2.2 i j (by omega) (by omega) e1 e2
abbrev rmX0_add : Room := { frames := 6, cells := 0, slots := 0, locals := 158 }
theorem inwX0_add : ∀ w ∈ wsX00, w ∈ wsX0_add := fun _ h => List.mem_cons_of_mem _ (List.mem_append_right _ h)
set_option maxRecDepth 20000 in
theorem flX0_add_16 : Cond.fieldLink RX0 16 RX0 (TX0 2).2.1 (TX0 2).2.2.1 ∈ wsX0_add := by decide +kernel
set_option maxRecDepth 20000 in
theorem flX0_add_9 : Cond.fieldLink RX0 9 RX0 (TX0 0).2.1 (TX0 0).2.2.1 ∈ wsX0_add := by decide +kernel
set_option maxRecDepth 20000 in
theorem flX0_add_13 : Cond.fieldLink RX0 13 RX0 (TX0 1).2.1 (TX0 1).2.2.1 ∈ wsX0_add := by decide +kernel
set_option maxRecDepth 20000 in
set_option maxHeartbeats 4000000 in
theorem mtX0_add (SB : pg_ok n X Y) {x y : Int} (x1 : -2147483648 ≤ x) (x2 : x < 2147483648) (y1 : -2147483648 ≤ y) (y2 : y < 2147483648) (hPL : pg_ok (n + 1) (fun i => if i = n then x else X i) (fun i => if i = n then y else Y i) → pg_PL (n + 1) (fun i => if i = n then x else X i) (fun i => if i = n then y else Y i)) : gz_Ki l yX0_add wsX0_add rmX0_add D [(cI, .int), (cJ, .long)] [.ref (ad 0), .int (iI x), .int (iI y)] (wC ad cI n X Y tc TT NB RG rc KT kc tl GR) (fun r w1 => ((x < -30000 ∨ 30000 < x ∨ y < -30000 ∨ 30000 < y) ∧ r = -1 ∧ w1 = (wC ad cI n X Y tc TT NB RG rc KT kc tl GR)) ∨ ((-30000 ≤ x ∧ x ≤ 30000 ∧ -30000 ≤ y ∧ y ≤ 30000) ∧ ((∃ k, k < n ∧ X k = x ∧ Y k = y ∧ r = nI k ∧ w1 = (wC ad cI n X Y tc TT NB RG rc KT kc tl GR)) ∨ ((∀ k, k < n → ¬ (X k = x ∧ Y k = y)) ∧ ((n = 14 ∧ r = -2 ∧ w1 = (wC ad cI n X Y tc TT NB RG rc KT kc tl GR)) ∨ (n < 14 ∧ r = nI n ∧ ∃ tc TT NB RG rc KT kc tl GR, w1 = (wC ad cI (n + 1) (fun i => if i = n then x else X i) (fun i => if i = n then y else Y i) tc TT NB RG rc KT kc tl GR) ∧ pg_ALL (n + 1) (fun i => if i = n then x else X i) (fun i => if i = n then y else Y i) tc TT NB RG rc KT kc tl GR)))))) := by
  refine gz_ofi (cc := cX0_add) (maxL := 5) (own := RX0) (by decide +kernel) rfl rfl rfl (Nat.le_of_ble_eq_true rfl) ?_
  intro z E ret
  have hn := SB.1
  show gz_G z _ 0 [(0, .ref (ad 0)), (1, .int (iI x)), (2, .int (iI y))] []
  refine gz_iload_n E dX0_add_0 rfl rfl ?_
  refine gz_stati (n := 1) E dX0_add_1 gX0_add_X0_isTooFar (mtX0_isTooFar (by omega) (by omega)) rfl ⟨rfl, rfl⟩ (by decide +kernel) ⟨Nat.le_of_ble_eq_true rfl, Nat.le_of_ble_eq_true rfl⟩ rfl rfl (Nat.le_of_ble_eq_true rfl) (fun r1 hr1 => ?_)
  refine gz_ifB_ne (tgt := 14) E hr1 dX0_add_4 (by decide) (fun q4 => ?_) (fun q4 => ?_)
  · skip
    refine gz_iconst (v := -1) E dX0_add_14 (by decide) ?_
    exact ret _ _ _ _ dX0_add_15 rfl (Or.inl ⟨by omega, rfl, rfl⟩)
  · skip
    refine gz_iload_n E dX0_add_7 rfl rfl ?_
    refine gz_stati (n := 1) E dX0_add_8 gX0_add_X0_isTooFar (mtX0_isTooFar (by omega) (by omega)) rfl ⟨rfl, rfl⟩ (by decide +kernel) ⟨Nat.le_of_ble_eq_true rfl, Nat.le_of_ble_eq_true rfl⟩ rfl rfl (Nat.le_of_ble_eq_true rfl) (fun r8 hr8 => ?_)
    refine gz_ifB_eq (tgt := 16) E hr8 dX0_add_11 (by decide) (fun q11 => ?_) (fun q11 => ?_)
    · skip
      refine gz_aload_n E dX0_add_16 rfl rfl ?_
      refine gz_iload_n E dX0_add_17 rfl rfl ?_
      refine gz_iload_n E dX0_add_18 rfl rfl ?_
      refine gz_cali (n := 2) E 0 dX0_add_19 gX0_add_X0_siteAt (mtX0_siteAt SB x1 x2 y1 y2) rfl rfl ⟨rfl, rfl⟩ (by decide +kernel) ⟨Nat.le_of_ble_eq_true rfl, Nat.le_of_ble_eq_true rfl⟩ rfl rfl rfl rfl (Nat.le_of_ble_eq_true rfl) (fun r19 w19 hr19 => ?_)
      obtain ⟨hr19, rfl⟩ := hr19
      refine gz_istore_n (lv' := [(0, _), (1, _), (2, _), (3, _)]) E dX0_add_22 rfl (by decide) rfl ?_
      refine gz_iload_n E dX0_add_23 rfl rfl ?_
      refine gz_if_lt (tgt := 29) E dX0_add_24 (by decide) (fun q24 => ?_) (fun q24 => ?_)
      · skip
        have hno : ∀ k, k < n → ¬ (X k = x ∧ Y k = y) := by
          rcases hr19 with ⟨k, hk1, hk2, hk3, h⟩ | ⟨-, h⟩
          · exact absurd (h ▸ q24) (nI_pos (by omega))
          · exact h
        refine gz_aload_n E dX0_add_29 rfl rfl ?_
        refine gz_get E inwX0_add 0 2 dX0_add_30 flX0_add_16 rfl rfl (by decide) rfl rfl ?_
        refine gz_bipush (v := nI 14) E dX0_add_33 (by decide) ?_
        refine gz_icN_lt (tgt := 41) E dX0_add_35 (by decide) (by omega) (by omega) (fun q35 => ?_) (fun q35 => ?_)
        · skip
          have hok := pg_ok_add SB (by omega) (by omega) (by omega) (by omega) (by omega) hno
          refine gz_aload_n E dX0_add_41 rfl rfl ?_
          refine gz_get E inwX0_add 0 2 dX0_add_42 flX0_add_16 rfl rfl (by decide) rfl rfl ?_
          refine gz_istore (lv' := [(0, _), (1, _), (2, _), (3, _), (4, _)]) E dX0_add_45 (by decide) rfl ?_
          refine gz_aload_n E dX0_add_47 rfl rfl ?_
          refine gz_get E inwX0_add 0 0 dX0_add_48 flX0_add_9 rfl rfl (by decide) rfl rfl ?_
          refine gz_iload E dX0_add_51 rfl ?_
          refine gz_iload_n E dX0_add_53 rfl rfl ?_
          refine gz_iastN E 1 0 dX0_add_54 rfl rfl (by decide) (by omega) ?_
          refine gz_w (ws' := (wC ad cI n (fun i => if i = n then x else X i) Y tc TT NB RG rc KT kc tl GR)) (by rw [gz_upI]; rfl) ?_
          refine gz_aload_n E dX0_add_55 rfl rfl ?_
          refine gz_get E inwX0_add 0 1 dX0_add_56 flX0_add_13 rfl rfl (by decide) rfl rfl ?_
          refine gz_iload E dX0_add_59 rfl ?_
          refine gz_iload_n E dX0_add_61 rfl rfl ?_
          refine gz_iastN E 2 0 dX0_add_62 rfl rfl (by decide) (by omega) ?_
          refine gz_w (ws' := (wC ad cI n (fun i => if i = n then x else X i) (fun i => if i = n then y else Y i) tc TT NB RG rc KT kc tl GR)) (by rw [gz_upI]; rfl) ?_
          refine gz_aload_n E dX0_add_63 rfl rfl ?_
          refine gz_iload E dX0_add_64 rfl ?_
          refine gz_iconst (v := nI 1) E dX0_add_66 (by decide) ?_
          refine gz_iaddN E dX0_add_67 ?_
          refine gz_put E inwX0_add 0 2 dX0_add_68 flX0_add_16 rfl rfl (by decide) rfl tyX0 tyX0_ok nmX0 rfl rfl rfl (Nat.le_of_ble_eq_true rfl) ?_
          refine gz_w (ws' := (wC ad cI (n + 1) (fun i => if i = n then x else X i) (fun i => if i = n then y else Y i) tc TT NB RG rc KT kc tl GR)) (by rfl) ?_
          refine gz_aload_n E dX0_add_71 rfl rfl ?_
          refine gz_calv (n := 0) E 0 dX0_add_72 gX0_add_X0_rebuild (mtX0_rebuild hok (by omega) (hPL hok)) rfl rfl ⟨rfl, rfl⟩ (by decide +kernel) ⟨Nat.le_of_ble_eq_true rfl, Nat.le_of_ble_eq_true rfl⟩ rfl rfl rfl rfl (Nat.le_of_ble_eq_true rfl) (fun w72 hr72 => ?_)
          obtain ⟨tc, TT, NB, RG, rc, KT, kc, tl, GR, rfl, hAL72⟩ := hr72
          refine gz_iload E dX0_add_75 rfl ?_
          exact ret _ _ _ _ dX0_add_77 rfl (Or.inr ⟨by omega, Or.inr ⟨hno, Or.inr ⟨by omega, rfl, _, _, _, _, _, _, _, _, _, rfl, hAL72⟩⟩⟩)
        · skip
          refine gz_bipush (v := -2) E dX0_add_38 (by decide) ?_
          exact ret _ _ _ _ dX0_add_40 rfl (Or.inr ⟨by omega, Or.inr ⟨hno, Or.inl ⟨by omega, rfl, rfl⟩⟩⟩)
      · skip
        refine gz_iload_n E dX0_add_27 rfl rfl ?_
        obtain ⟨k, hk1, hk2, hk3, rfl⟩ : ∃ k, k < n ∧ X k = x ∧ Y k = y ∧ r19 = nI k := by
          rcases hr19 with h | ⟨h, -⟩
          · exact h
          · exact absurd (by rw [h]; decide) q24
        exact ret _ _ _ _ dX0_add_28 rfl (Or.inr ⟨by omega, Or.inl ⟨k, hk1, hk2, hk3, rfl, rfl⟩⟩)
    · skip
      refine gz_iconst (v := -1) E dX0_add_14 (by decide) ?_
      exact ret _ _ _ _ dX0_add_15 rfl (Or.inl ⟨by omega, rfl, rfl⟩)
end CF
end
section
/-! the reference: turns, circles, triangles -/
section RA
variable {l : Launch} {D : va_G} {bd : Nat → Nat} {cI cJ : ClassId} {n mc ec kc : Nat} {X Y : Nat → Int} {LE MI GE CO LS GT GP : Nat → Nat} {tl : Int}
theorem pg_sg_c {x y : Int} (h1 : 0 < x ↔ 0 < y) (h2 : x < 0 ↔ y < 0) : pg_sg x = pg_sg y := by
  have a := pg_sg_b x
  have b := pg_sg_b y
  have c1 := pg_sg_pos (x := x)
  have c2 := pg_sg_neg (x := x)
  have c3 := pg_sg_pos (x := y)
  have c4 := pg_sg_neg (x := y)
  omega
theorem pg_sgml {x y : Int} : pg_sg x * pg_sg y < 0 ↔ ((0 < x ∧ y < 0) ∨ (x < 0 ∧ 0 < y)) := by
  have a1 := pg_sg_pos (x := x)
  have a2 := pg_sg_neg (x := x)
  have a3 := pg_sg_0 (x := x)
  have ab := pg_sg_b x
  have b1 := pg_sg_pos (x := y)
  have b2 := pg_sg_neg (x := y)
  have b3 := pg_sg_0 (x := y)
  have bb := pg_sg_b y
  rcases (show pg_sg x = -1 ∨ pg_sg x = 0 ∨ pg_sg x = 1 by omega) with e | e | e <;> rw [e] at a1 a2 a3 ⊢ <;> omega
theorem pg_sgmz {x y : Int} : pg_sg x * pg_sg y = 0 ↔ (x = 0 ∨ y = 0) := by
  have a1 := pg_sg_pos (x := x)
  have a2 := pg_sg_neg (x := x)
  have a3 := pg_sg_0 (x := x)
  have ab := pg_sg_b x
  have b1 := pg_sg_pos (x := y)
  have b2 := pg_sg_neg (x := y)
  have b3 := pg_sg_0 (x := y)
  have bb := pg_sg_b y
  rcases (show pg_sg x = -1 ∨ pg_sg x = 0 ∨ pg_sg x = 1 by omega) with e | e | e <;> rw [e] at a1 a2 a3 ⊢ <;> omega
theorem pg_sgmb (x y : Int) : -1 ≤ pg_sg x * pg_sg y ∧ pg_sg x * pg_sg y ≤ 1 := by
  have ab := pg_sg_b x
  have bb := pg_sg_b y
  rcases (show pg_sg x = -1 ∨ pg_sg x = 0 ∨ pg_sg x = 1 by omega) with e | e | e <;> rw [e] <;> omega
abbrev rmX1_sign : Room := { frames := 0, cells := 0, slots := 0, locals := 0 }
set_option maxRecDepth 20000 in
set_option maxHeartbeats 4000000 in
theorem mtX1_sign {v : Int} (h1 : -9223372036854775808 ≤ v) (h2 : v < 9223372036854775808) : gz_Ki l yX1_sign wsX1_sign rmX1_sign D [(cI, .int), (cJ, .long)] [.ref (bd 0), .long (lI v)] (wM bd cI cJ n X Y mc LE MI GE ec CO kc LS GT tl GP) (fun r w1 => r = iI (pg_sg v) ∧ w1 = (wM bd cI cJ n X Y mc LE MI GE ec CO kc LS GT tl GP)) := by
  refine gz_ofi (cc := cX1_sign) (maxL := 3) (own := RX1) (by decide +kernel) rfl rfl rfl (Nat.le_of_ble_eq_true rfl) ?_
  intro z E ret
  show gz_G z _ 0 [(0, .ref (bd 0)), (1, .long (lI v))] []
  refine gz_lload_n E dX1_sign_0 rfl rfl ?_
  refine gz_lconst (v := lI 0) E dX1_sign_1 (by decide) ?_
  refine gz_lcL_le (tgt := 10) E dX1_sign_2 dX1_sign_3 (by decide) (by omega) (by omega) (by omega) (by omega) (fun q2 => ?_) (fun q2 => ?_)
  · skip
    refine gz_lload_n E dX1_sign_10 rfl rfl ?_
    refine gz_lconst (v := lI 0) E dX1_sign_11 (by decide) ?_
    refine gz_lcL_ge (tgt := 20) E dX1_sign_12 dX1_sign_13 (by decide) (by omega) (by omega) (by omega) (by omega) (fun q12 => ?_) (fun q12 => ?_)
    · skip
      refine gz_iconst (v := 0) E dX1_sign_20 (by decide) ?_
      exact ret _ _ _ _ dX1_sign_21 rfl ⟨by first | exact pg_sg1 (by omega) | exact pg_sgm (by omega) | exact pg_sgz (by omega), rfl⟩
    · skip
      refine gz_iconst (v := -1) E dX1_sign_16 (by decide) ?_
      refine gz_goto (tgt := 21) E dX1_sign_17 (by decide) ?_
      exact ret _ _ _ _ dX1_sign_21 rfl ⟨by first | exact pg_sg1 (by omega) | exact pg_sgm (by omega) | exact pg_sgz (by omega), rfl⟩
  · skip
    refine gz_iconst (v := 1) E dX1_sign_6 (by decide) ?_
    refine gz_goto (tgt := 21) E dX1_sign_7 (by decide) ?_
    exact ret _ _ _ _ dX1_sign_21 rfl ⟨by first | exact pg_sg1 (by omega) | exact pg_sgm (by omega) | exact pg_sgz (by omega), rfl⟩
abbrev rmX1_turn : Room := { frames := 1, cells := 0, slots := 0, locals := 22 }
theorem inwX1_turn : ∀ w ∈ wsX10, w ∈ wsX1_turn := fun _ h => List.mem_cons_of_mem _ (List.mem_append_right _ h)
set_option maxRecDepth 20000 in
theorem flX1_turn_7 : Cond.fieldLink RX1 7 RX1 (TX1 1).2.1 (TX1 1).2.2.1 ∈ wsX1_turn := by decide +kernel
set_option maxRecDepth 20000 in
theorem flX1_turn_13 : Cond.fieldLink RX1 13 RX1 (TX1 2).2.1 (TX1 2).2.2.1 ∈ wsX1_turn := by decide +kernel
set_option maxRecDepth 20000 in
set_option maxHeartbeats 4000000 in
theorem mtX1_turn (SB : pg_ok n X Y) {a b c : Nat} (ha : a < n) (hb : b < n) (hc : c < n) : gz_Ki l yX1_turn wsX1_turn rmX1_turn D [(cI, .int), (cJ, .long)] [.ref (bd 0), .int (nI a), .int (nI b), .int (nI c)] (wM bd cI cJ n X Y mc LE MI GE ec CO kc LS GT tl GP) (fun r w1 => r = iI (pg_sg (pg_tn X Y a b c)) ∧ w1 = (wM bd cI cJ n X Y mc LE MI GE ec CO kc LS GT tl GP)) := by
  refine gz_ofi (cc := cX1_turn) (maxL := 4) (own := RX1) (by decide +kernel) rfl rfl rfl (Nat.le_of_ble_eq_true rfl) ?_
  intro z E ret
  have hn := SB.1
  have t := pg_tn_b SB ha hb hc
  unfold pg_tn at t
  show gz_G z _ 0 [(0, .ref (bd 0)), (1, .int (nI a)), (2, .int (nI b)), (3, .int (nI c))] []
  refine gz_aload_n E dX1_turn_0 rfl rfl ?_
  refine gz_aload_n E dX1_turn_1 rfl rfl ?_
  refine gz_get E inwX1_turn 0 1 dX1_turn_2 flX1_turn_7 rfl rfl (by decide) rfl rfl ?_
  refine gz_iload_n E dX1_turn_5 rfl rfl ?_
  refine gz_laldN E 1 1 dX1_turn_6 rfl rfl (by decide) rfl (by omega) ?_
  refine gz_aload_n E dX1_turn_7 rfl rfl ?_
  refine gz_get E inwX1_turn 0 1 dX1_turn_8 flX1_turn_7 rfl rfl (by decide) rfl rfl ?_
  refine gz_iload_n E dX1_turn_11 rfl rfl ?_
  refine gz_laldN E 1 1 dX1_turn_12 rfl rfl (by decide) rfl (by omega) ?_
  refine gz_lsubL E dX1_turn_13 ?_
  refine gz_aload_n E dX1_turn_14 rfl rfl ?_
  refine gz_get E inwX1_turn 0 2 dX1_turn_15 flX1_turn_13 rfl rfl (by decide) rfl rfl ?_
  refine gz_iload_n E dX1_turn_18 rfl rfl ?_
  refine gz_laldN E 2 1 dX1_turn_19 rfl rfl (by decide) rfl (by omega) ?_
  refine gz_aload_n E dX1_turn_20 rfl rfl ?_
  refine gz_get E inwX1_turn 0 2 dX1_turn_21 flX1_turn_13 rfl rfl (by decide) rfl rfl ?_
  refine gz_iload_n E dX1_turn_24 rfl rfl ?_
  refine gz_laldN E 2 1 dX1_turn_25 rfl rfl (by decide) rfl (by omega) ?_
  refine gz_lsubL E dX1_turn_26 ?_
  refine gz_lmulL E dX1_turn_27 ?_
  refine gz_aload_n E dX1_turn_28 rfl rfl ?_
  refine gz_get E inwX1_turn 0 2 dX1_turn_29 flX1_turn_13 rfl rfl (by decide) rfl rfl ?_
  refine gz_iload_n E dX1_turn_32 rfl rfl ?_
  refine gz_laldN E 2 1 dX1_turn_33 rfl rfl (by decide) rfl (by omega) ?_
  refine gz_aload_n E dX1_turn_34 rfl rfl ?_
  refine gz_get E inwX1_turn 0 2 dX1_turn_35 flX1_turn_13 rfl rfl (by decide) rfl rfl ?_
  refine gz_iload_n E dX1_turn_38 rfl rfl ?_
  refine gz_laldN E 2 1 dX1_turn_39 rfl rfl (by decide) rfl (by omega) ?_
  refine gz_lsubL E dX1_turn_40 ?_
  refine gz_aload_n E dX1_turn_41 rfl rfl ?_
  refine gz_get E inwX1_turn 0 1 dX1_turn_42 flX1_turn_7 rfl rfl (by decide) rfl rfl ?_
  refine gz_iload_n E dX1_turn_45 rfl rfl ?_
  refine gz_laldN E 1 1 dX1_turn_46 rfl rfl (by decide) rfl (by omega) ?_
  refine gz_aload_n E dX1_turn_47 rfl rfl ?_
  refine gz_get E inwX1_turn 0 1 dX1_turn_48 flX1_turn_7 rfl rfl (by decide) rfl rfl ?_
  refine gz_iload_n E dX1_turn_51 rfl rfl ?_
  refine gz_laldN E 1 1 dX1_turn_52 rfl rfl (by decide) rfl (by omega) ?_
  refine gz_lsubL E dX1_turn_53 ?_
  refine gz_lmulL E dX1_turn_54 ?_
  refine gz_lsubL E dX1_turn_55 ?_
  refine gz_cali (n := 1) E 0 dX1_turn_56 gX1_turn_X1_sign (mtX1_sign (by omega) (by omega)) rfl rfl ⟨rfl, rfl⟩ (by decide +kernel) ⟨Nat.le_of_ble_eq_true rfl, Nat.le_of_ble_eq_true rfl⟩ rfl rfl rfl rfl (Nat.le_of_ble_eq_true rfl) (fun r56 w56 hr56 => ?_)
  obtain ⟨rfl, rfl⟩ := hr56
  exact ret _ _ _ _ dX1_turn_59 rfl ⟨rfl, rfl⟩
abbrev rmX1_apart : Room := { frames := 0, cells := 0, slots := 0, locals := 0 }
theorem inwX1_apart : ∀ w ∈ wsX10, w ∈ wsX1_apart := fun _ h => List.mem_cons_of_mem _ (List.mem_append_right _ h)
set_option maxRecDepth 20000 in
theorem flX1_apart_7 : Cond.fieldLink RX1 7 RX1 (TX1 1).2.1 (TX1 1).2.2.1 ∈ wsX1_apart := by decide +kernel
set_option maxRecDepth 20000 in
theorem flX1_apart_13 : Cond.fieldLink RX1 13 RX1 (TX1 2).2.1 (TX1 2).2.2.1 ∈ wsX1_apart := by decide +kernel
set_option maxRecDepth 20000 in
set_option maxHeartbeats 4000000 in
theorem mtX1_apart (SB : pg_ok n X Y) {a b : Nat} (ha : a < n) (hb : b < n) : gz_Kl l yX1_apart wsX1_apart rmX1_apart D [(cI, .int), (cJ, .long)] [.ref (bd 0), .int (nI a), .int (nI b)] (wM bd cI cJ n X Y mc LE MI GE ec CO kc LS GT tl GP) (fun r w1 => r = lI (pg_gp X Y b a) ∧ w1 = (wM bd cI cJ n X Y mc LE MI GE ec CO kc LS GT tl GP)) := by
  refine gz_ofl (cc := cX1_apart) (maxL := 3) (own := RX1) (by decide +kernel) rfl rfl rfl (Nat.le_of_ble_eq_true rfl) ?_
  intro z E ret
  have hn := SB.1
  show gz_G z _ 0 [(0, .ref (bd 0)), (1, .int (nI a)), (2, .int (nI b))] []
  refine gz_aload_n E dX1_apart_0 rfl rfl ?_
  refine gz_get E inwX1_apart 0 1 dX1_apart_1 flX1_apart_7 rfl rfl (by decide) rfl rfl ?_
  refine gz_iload_n E dX1_apart_4 rfl rfl ?_
  refine gz_laldN E 1 1 dX1_apart_5 rfl rfl (by decide) rfl (by omega) ?_
  refine gz_aload_n E dX1_apart_6 rfl rfl ?_
  refine gz_get E inwX1_apart 0 1 dX1_apart_7 flX1_apart_7 rfl rfl (by decide) rfl rfl ?_
  refine gz_iload_n E dX1_apart_10 rfl rfl ?_
  refine gz_laldN E 1 1 dX1_apart_11 rfl rfl (by decide) rfl (by omega) ?_
  refine gz_lsubL E dX1_apart_12 ?_
  refine gz_aload_n E dX1_apart_13 rfl rfl ?_
  refine gz_get E inwX1_apart 0 1 dX1_apart_14 flX1_apart_7 rfl rfl (by decide) rfl rfl ?_
  refine gz_iload_n E dX1_apart_17 rfl rfl ?_
  refine gz_laldN E 1 1 dX1_apart_18 rfl rfl (by decide) rfl (by omega) ?_
  refine gz_aload_n E dX1_apart_19 rfl rfl ?_
  refine gz_get E inwX1_apart 0 1 dX1_apart_20 flX1_apart_7 rfl rfl (by decide) rfl rfl ?_
  refine gz_iload_n E dX1_apart_23 rfl rfl ?_
  refine gz_laldN E 1 1 dX1_apart_24 rfl rfl (by decide) rfl (by omega) ?_
  refine gz_lsubL E dX1_apart_25 ?_
  refine gz_lmulL E dX1_apart_26 ?_
  refine gz_aload_n E dX1_apart_27 rfl rfl ?_
  refine gz_get E inwX1_apart 0 2 dX1_apart_28 flX1_apart_13 rfl rfl (by decide) rfl rfl ?_
  refine gz_iload_n E dX1_apart_31 rfl rfl ?_
  refine gz_laldN E 2 1 dX1_apart_32 rfl rfl (by decide) rfl (by omega) ?_
  refine gz_aload_n E dX1_apart_33 rfl rfl ?_
  refine gz_get E inwX1_apart 0 2 dX1_apart_34 flX1_apart_13 rfl rfl (by decide) rfl rfl ?_
  refine gz_iload_n E dX1_apart_37 rfl rfl ?_
  refine gz_laldN E 2 1 dX1_apart_38 rfl rfl (by decide) rfl (by omega) ?_
  refine gz_lsubL E dX1_apart_39 ?_
  refine gz_aload_n E dX1_apart_40 rfl rfl ?_
  refine gz_get E inwX1_apart 0 2 dX1_apart_41 flX1_apart_13 rfl rfl (by decide) rfl rfl ?_
  refine gz_iload_n E dX1_apart_44 rfl rfl ?_
  refine gz_laldN E 2 1 dX1_apart_45 rfl rfl (by decide) rfl (by omega) ?_
  refine gz_aload_n E dX1_apart_46 rfl rfl ?_
  refine gz_get E inwX1_apart 0 2 dX1_apart_47 flX1_apart_13 rfl rfl (by decide) rfl rfl ?_
  refine gz_iload_n E dX1_apart_50 rfl rfl ?_
  refine gz_laldN E 2 1 dX1_apart_51 rfl rfl (by decide) rfl (by omega) ?_
  refine gz_lsubL E dX1_apart_52 ?_
  refine gz_lmulL E dX1_apart_53 ?_
  refine gz_laddL E dX1_apart_54 ?_
  exact ret _ _ _ _ dX1_apart_55 ⟨rfl, rfl⟩
abbrev rmX1_span : Room := { frames := 0, cells := 0, slots := 0, locals := 0 }
theorem inwX1_span : ∀ w ∈ wsX10, w ∈ wsX1_span := fun _ h => List.mem_cons_of_mem _ (List.mem_append_right _ h)
set_option maxRecDepth 20000 in
theorem flX1_span_7 : Cond.fieldLink RX1 7 RX1 (TX1 1).2.1 (TX1 1).2.2.1 ∈ wsX1_span := by decide +kernel
set_option maxRecDepth 20000 in
theorem flX1_span_13 : Cond.fieldLink RX1 13 RX1 (TX1 2).2.1 (TX1 2).2.2.1 ∈ wsX1_span := by decide +kernel
set_option maxRecDepth 20000 in
set_option maxHeartbeats 4000000 in
theorem mtX1_span (SB : pg_ok n X Y) {a b d : Nat} (ha : a < n) (hb : b < n) (hd : d < n) : gz_Kl l yX1_span wsX1_span rmX1_span D [(cI, .int), (cJ, .long)] [.ref (bd 0), .int (nI a), .int (nI b), .int (nI d)] (wM bd cI cJ n X Y mc LE MI GE ec CO kc LS GT tl GP) (fun r w1 => r = lI (pg_tn X Y d a b) ∧ w1 = (wM bd cI cJ n X Y mc LE MI GE ec CO kc LS GT tl GP)) := by
  refine gz_ofl (cc := cX1_span) (maxL := 4) (own := RX1) (by decide +kernel) rfl rfl rfl (Nat.le_of_ble_eq_true rfl) ?_
  intro z E ret
  have hn := SB.1
  show gz_G z _ 0 [(0, .ref (bd 0)), (1, .int (nI a)), (2, .int (nI b)), (3, .int (nI d))] []
  refine gz_aload_n E dX1_span_0 rfl rfl ?_
  refine gz_get E inwX1_span 0 1 dX1_span_1 flX1_span_7 rfl rfl (by decide) rfl rfl ?_
  refine gz_iload_n E dX1_span_4 rfl rfl ?_
  refine gz_laldN E 1 1 dX1_span_5 rfl rfl (by decide) rfl (by omega) ?_
  refine gz_aload_n E dX1_span_6 rfl rfl ?_
  refine gz_get E inwX1_span 0 1 dX1_span_7 flX1_span_7 rfl rfl (by decide) rfl rfl ?_
  refine gz_iload_n E dX1_span_10 rfl rfl ?_
  refine gz_laldN E 1 1 dX1_span_11 rfl rfl (by decide) rfl (by omega) ?_
  refine gz_lsubL E dX1_span_12 ?_
  refine gz_aload_n E dX1_span_13 rfl rfl ?_
  refine gz_get E inwX1_span 0 2 dX1_span_14 flX1_span_13 rfl rfl (by decide) rfl rfl ?_
  refine gz_iload_n E dX1_span_17 rfl rfl ?_
  refine gz_laldN E 2 1 dX1_span_18 rfl rfl (by decide) rfl (by omega) ?_
  refine gz_aload_n E dX1_span_19 rfl rfl ?_
  refine gz_get E inwX1_span 0 2 dX1_span_20 flX1_span_13 rfl rfl (by decide) rfl rfl ?_
  refine gz_iload_n E dX1_span_23 rfl rfl ?_
  refine gz_laldN E 2 1 dX1_span_24 rfl rfl (by decide) rfl (by omega) ?_
  refine gz_lsubL E dX1_span_25 ?_
  refine gz_lmulL E dX1_span_26 ?_
  refine gz_aload_n E dX1_span_27 rfl rfl ?_
  refine gz_get E inwX1_span 0 2 dX1_span_28 flX1_span_13 rfl rfl (by decide) rfl rfl ?_
  refine gz_iload_n E dX1_span_31 rfl rfl ?_
  refine gz_laldN E 2 1 dX1_span_32 rfl rfl (by decide) rfl (by omega) ?_
  refine gz_aload_n E dX1_span_33 rfl rfl ?_
  refine gz_get E inwX1_span 0 2 dX1_span_34 flX1_span_13 rfl rfl (by decide) rfl rfl ?_
  refine gz_iload_n E dX1_span_37 rfl rfl ?_
  refine gz_laldN E 2 1 dX1_span_38 rfl rfl (by decide) rfl (by omega) ?_
  refine gz_lsubL E dX1_span_39 ?_
  refine gz_aload_n E dX1_span_40 rfl rfl ?_
  refine gz_get E inwX1_span 0 1 dX1_span_41 flX1_span_7 rfl rfl (by decide) rfl rfl ?_
  refine gz_iload_n E dX1_span_44 rfl rfl ?_
  refine gz_laldN E 1 1 dX1_span_45 rfl rfl (by decide) rfl (by omega) ?_
  refine gz_aload_n E dX1_span_46 rfl rfl ?_
  refine gz_get E inwX1_span 0 1 dX1_span_47 flX1_span_7 rfl rfl (by decide) rfl rfl ?_
  refine gz_iload_n E dX1_span_50 rfl rfl ?_
  refine gz_laldN E 1 1 dX1_span_51 rfl rfl (by decide) rfl (by omega) ?_
  refine gz_lsubL E dX1_span_52 ?_
  refine gz_lmulL E dX1_span_53 ?_
  refine gz_lsubL E dX1_span_54 ?_
  exact ret _ _ _ _ dX1_span_55 ⟨rfl, rfl⟩
abbrev rmX1_inside : Room := { frames := 2, cells := 0, slots := 0, locals := 45 }
set_option maxRecDepth 20000 in
theorem cwX1_inside_50 : Jvm.Cond.constantLong RX1 50 (65535) ∈ wsX1_inside := by decide +kernel
set_option maxRecDepth 20000 in
set_option maxHeartbeats 4000000 in
theorem mtX1_inside (SB : pg_ok n X Y) {a b c d : Nat} (ha : a < n) (hb : b < n) (hc : c < n) (hd : d < n) : gz_Ki l yX1_inside wsX1_inside rmX1_inside D [(cI, .int), (cJ, .long)] [.ref (bd 0), .int (nI a), .int (nI b), .int (nI c), .int (nI d)] (wM bd cI cJ n X Y mc LE MI GE ec CO kc LS GT tl GP) (fun r w1 => r = iI (pg_sg (pg_ic X Y a b c d) * pg_sg (pg_tn X Y a b c)) ∧ w1 = (wM bd cI cJ n X Y mc LE MI GE ec CO kc LS GT tl GP)) := by
  refine gz_ofi (cc := cX1_inside) (maxL := 22) (own := RX1) (by decide +kernel) rfl rfl rfl (Nat.le_of_ble_eq_true rfl) ?_
  intro z E ret
  have hn := SB.1
  have g1 := pg_gp_b SB hd ha
  have g2 := pg_gp_b SB hd hb
  have g3 := pg_gp_b SB hd hc
  have t1 := pg_tn_b SB hd hb hc
  have t2 := pg_tn_b SB hd hc ha
  have t3 := pg_tn_b SB hd ha hb
  have S : pg_ic X Y a b c d = _ := pg_split (2 ^ 16) (pg_gp X Y d a) (pg_gp X Y d b) (pg_gp X Y d c) (pg_tn X Y d b c) (pg_tn X Y d c a) (pg_tn X Y d a b)
  have m0 := pg_mulb (a := pg_gp X Y d a / 2 ^ 16) (b := pg_tn X Y d b c) (A := 120000) (B := 7200000000) (by omega) (by omega) (by omega) (by omega)
  have l0 := pg_mulb (a := pg_gp X Y d a % 2 ^ 16) (b := pg_tn X Y d b c) (A := 65536) (B := 7200000000) (by omega) (by omega) (by omega) (by omega)
  have m1 := pg_mulb (a := pg_gp X Y d b / 2 ^ 16) (b := pg_tn X Y d c a) (A := 120000) (B := 7200000000) (by omega) (by omega) (by omega) (by omega)
  have l1 := pg_mulb (a := pg_gp X Y d b % 2 ^ 16) (b := pg_tn X Y d c a) (A := 65536) (B := 7200000000) (by omega) (by omega) (by omega) (by omega)
  have m2 := pg_mulb (a := pg_gp X Y d c / 2 ^ 16) (b := pg_tn X Y d a b) (A := 120000) (B := 7200000000) (by omega) (by omega) (by omega) (by omega)
  have l2 := pg_mulb (a := pg_gp X Y d c % 2 ^ 16) (b := pg_tn X Y d a b) (A := 65536) (B := 7200000000) (by omega) (by omega) (by omega) (by omega)
  show gz_G z _ 0 [(0, .ref (bd 0)), (1, .int (nI a)), (2, .int (nI b)), (3, .int (nI c)), (4, .int (nI d))] []
  refine gz_aload_n E dX1_inside_0 rfl rfl ?_
  refine gz_iload_n E dX1_inside_1 rfl rfl ?_
  refine gz_iload E dX1_inside_2 rfl ?_
  refine gz_call (n := 2) E 0 dX1_inside_4 gX1_inside_X1_apart (mtX1_apart SB (by assumption) (by assumption)) rfl rfl ⟨rfl, rfl⟩ (by decide +kernel) ⟨Nat.le_of_ble_eq_true rfl, Nat.le_of_ble_eq_true rfl⟩ rfl rfl rfl rfl (Nat.le_of_ble_eq_true rfl) (fun r4 w4 hr4 => ?_)
  obtain ⟨rfl, rfl⟩ := hr4
  refine gz_lstore (lv' := [(0, _), (1, _), (2, _), (3, _), (4, _), (5, _)]) E dX1_inside_7 (by decide) rfl ?_
  refine gz_aload_n E dX1_inside_9 rfl rfl ?_
  refine gz_iload_n E dX1_inside_10 rfl rfl ?_
  refine gz_iload E dX1_inside_11 rfl ?_
  refine gz_call (n := 2) E 0 dX1_inside_13 gX1_inside_X1_apart (mtX1_apart SB (by assumption) (by assumption)) rfl rfl ⟨rfl, rfl⟩ (by decide +kernel) ⟨Nat.le_of_ble_eq_true rfl, Nat.le_of_ble_eq_true rfl⟩ rfl rfl rfl rfl (Nat.le_of_ble_eq_true rfl) (fun r13 w13 hr13 => ?_)
  obtain ⟨rfl, rfl⟩ := hr13
  refine gz_lstore (lv' := [(0, _), (1, _), (2, _), (3, _), (4, _), (5, _), (7, _)]) E dX1_inside_16 (by decide) rfl ?_
  refine gz_aload_n E dX1_inside_18 rfl rfl ?_
  refine gz_iload_n E dX1_inside_19 rfl rfl ?_
  refine gz_iload E dX1_inside_20 rfl ?_
  refine gz_call (n := 2) E 0 dX1_inside_22 gX1_inside_X1_apart (mtX1_apart SB (by assumption) (by assumption)) rfl rfl ⟨rfl, rfl⟩ (by decide +kernel) ⟨Nat.le_of_ble_eq_true rfl, Nat.le_of_ble_eq_true rfl⟩ rfl rfl rfl rfl (Nat.le_of_ble_eq_true rfl) (fun r22 w22 hr22 => ?_)
  obtain ⟨rfl, rfl⟩ := hr22
  refine gz_lstore (lv' := [(0, _), (1, _), (2, _), (3, _), (4, _), (5, _), (7, _), (9, _)]) E dX1_inside_25 (by decide) rfl ?_
  refine gz_aload_n E dX1_inside_27 rfl rfl ?_
  refine gz_iload_n E dX1_inside_28 rfl rfl ?_
  refine gz_iload_n E dX1_inside_29 rfl rfl ?_
  refine gz_iload E dX1_inside_30 rfl ?_
  refine gz_call (n := 3) E 0 dX1_inside_32 gX1_inside_X1_span (mtX1_span SB (by assumption) (by assumption) (by assumption)) rfl rfl ⟨rfl, rfl⟩ (by decide +kernel) ⟨Nat.le_of_ble_eq_true rfl, Nat.le_of_ble_eq_true rfl⟩ rfl rfl rfl rfl (Nat.le_of_ble_eq_true rfl) (fun r32 w32 hr32 => ?_)
  obtain ⟨rfl, rfl⟩ := hr32
  refine gz_lstore (lv' := [(0, _), (1, _), (2, _), (3, _), (4, _), (5, _), (7, _), (9, _), (11, _)]) E dX1_inside_35 (by decide) rfl ?_
  refine gz_aload_n E dX1_inside_37 rfl rfl ?_
  refine gz_iload_n E dX1_inside_38 rfl rfl ?_
  refine gz_iload_n E dX1_inside_39 rfl rfl ?_
  refine gz_iload E dX1_inside_40 rfl ?_
  refine gz_call (n := 3) E 0 dX1_inside_42 gX1_inside_X1_span (mtX1_span SB (by assumption) (by assumption) (by assumption)) rfl rfl ⟨rfl, rfl⟩ (by decide +kernel) ⟨Nat.le_of_ble_eq_true rfl, Nat.le_of_ble_eq_true rfl⟩ rfl rfl rfl rfl (Nat.le_of_ble_eq_true rfl) (fun r42 w42 hr42 => ?_)
  obtain ⟨rfl, rfl⟩ := hr42
  refine gz_lstore (lv' := [(0, _), (1, _), (2, _), (3, _), (4, _), (5, _), (7, _), (9, _), (11, _), (13, _)]) E dX1_inside_45 (by decide) rfl ?_
  refine gz_aload_n E dX1_inside_47 rfl rfl ?_
  refine gz_iload_n E dX1_inside_48 rfl rfl ?_
  refine gz_iload_n E dX1_inside_49 rfl rfl ?_
  refine gz_iload E dX1_inside_50 rfl ?_
  refine gz_call (n := 3) E 0 dX1_inside_52 gX1_inside_X1_span (mtX1_span SB (by assumption) (by assumption) (by assumption)) rfl rfl ⟨rfl, rfl⟩ (by decide +kernel) ⟨Nat.le_of_ble_eq_true rfl, Nat.le_of_ble_eq_true rfl⟩ rfl rfl rfl rfl (Nat.le_of_ble_eq_true rfl) (fun r52 w52 hr52 => ?_)
  obtain ⟨rfl, rfl⟩ := hr52
  refine gz_lstore (lv' := [(0, _), (1, _), (2, _), (3, _), (4, _), (5, _), (7, _), (9, _), (11, _), (13, _), (15, _)]) E dX1_inside_55 (by decide) rfl ?_
  refine gz_lload E dX1_inside_57 rfl ?_
  refine gz_bipush (v := nI 16) E dX1_inside_59 (by decide) ?_
  refine gz_lshrI E 16 dX1_inside_61 (by decide) (by decide +kernel) (by omega) (by omega) ?_
  refine gz_lload E dX1_inside_62 rfl ?_
  refine gz_lmulL E dX1_inside_64 ?_
  refine gz_lload E dX1_inside_65 rfl ?_
  refine gz_bipush (v := nI 16) E dX1_inside_67 (by decide) ?_
  refine gz_lshrI E 16 dX1_inside_69 (by decide) (by decide +kernel) (by omega) (by omega) ?_
  refine gz_lload E dX1_inside_70 rfl ?_
  refine gz_lmulL E dX1_inside_72 ?_
  refine gz_laddL E dX1_inside_73 ?_
  refine gz_lload E dX1_inside_74 rfl ?_
  refine gz_bipush (v := nI 16) E dX1_inside_76 (by decide) ?_
  refine gz_lshrI E 16 dX1_inside_78 (by decide) (by decide +kernel) (by omega) (by omega) ?_
  refine gz_lload E dX1_inside_79 rfl ?_
  refine gz_lmulL E dX1_inside_81 ?_
  refine gz_laddL E dX1_inside_82 ?_
  refine gz_lstore (lv' := [(0, _), (1, _), (2, _), (3, _), (4, _), (5, _), (7, _), (9, _), (11, _), (13, _), (15, _), (17, _)]) E dX1_inside_83 (by decide) rfl ?_
  refine gz_lload E dX1_inside_85 rfl ?_
  refine gz_ldc2 (v := lI 65535) E dX1_inside_87 cwX1_inside_50 ?_
  refine gz_landI E 16 dX1_inside_90 (by decide) (by decide) ?_
  refine gz_lload E dX1_inside_91 rfl ?_
  refine gz_lmulL E dX1_inside_93 ?_
  refine gz_lload E dX1_inside_94 rfl ?_
  refine gz_ldc2 (v := lI 65535) E dX1_inside_96 cwX1_inside_50 ?_
  refine gz_landI E 16 dX1_inside_99 (by decide) (by decide) ?_
  refine gz_lload E dX1_inside_100 rfl ?_
  refine gz_lmulL E dX1_inside_102 ?_
  refine gz_laddL E dX1_inside_103 ?_
  refine gz_lload E dX1_inside_104 rfl ?_
  refine gz_ldc2 (v := lI 65535) E dX1_inside_106 cwX1_inside_50 ?_
  refine gz_landI E 16 dX1_inside_109 (by decide) (by decide) ?_
  refine gz_lload E dX1_inside_110 rfl ?_
  refine gz_lmulL E dX1_inside_112 ?_
  refine gz_laddL E dX1_inside_113 ?_
  refine gz_lstore (lv' := [(0, _), (1, _), (2, _), (3, _), (4, _), (5, _), (7, _), (9, _), (11, _), (13, _), (15, _), (17, _), (19, _)]) E dX1_inside_114 (by decide) rfl ?_
  refine gz_lload E dX1_inside_116 rfl ?_
  refine gz_lload E dX1_inside_118 rfl ?_
  refine gz_bipush (v := nI 16) E dX1_inside_120 (by decide) ?_
  refine gz_lshrI E 16 dX1_inside_122 (by decide) (by decide +kernel) (by omega) (by omega) ?_
  refine gz_laddL E dX1_inside_123 ?_
  refine gz_lstore (lv' := [(0, _), (1, _), (2, _), (3, _), (4, _), (5, _), (7, _), (9, _), (11, _), (13, _), (15, _), (17, _), (19, _)]) E dX1_inside_124 (by decide) rfl ?_
  refine gz_lload E dX1_inside_126 rfl ?_
  refine gz_lconst (v := lI 0) E dX1_inside_128 (by decide) ?_
  refine gz_lcL_eq (tgt := 142) E dX1_inside_129 dX1_inside_130 (by decide) (by omega) (by omega) (by omega) (by omega) (fun q129 => ?_) (fun q129 => ?_)
  · skip
    refine gz_aload_n E dX1_inside_142 rfl rfl ?_
    refine gz_lload E dX1_inside_143 rfl ?_
    refine gz_ldc2 (v := lI 65535) E dX1_inside_145 cwX1_inside_50 ?_
    refine gz_landI E 16 dX1_inside_148 (by decide) (by decide) ?_
    refine gz_cali (n := 1) E 0 dX1_inside_149 gX1_inside_X1_sign (mtX1_sign (by omega) (by omega)) rfl rfl ⟨rfl, rfl⟩ (by decide +kernel) ⟨Nat.le_of_ble_eq_true rfl, Nat.le_of_ble_eq_true rfl⟩ rfl rfl rfl rfl (Nat.le_of_ble_eq_true rfl) (fun r149 w149 hr149 => ?_)
    obtain ⟨e149, rfl⟩ := hr149
    obtain rfl : r149 = iI (pg_sg (pg_ic X Y a b c d)) := by rw [e149]; exact congrArg iI (pg_sg_c (by omega) (by omega))
    refine gz_istore (lv' := [(0, _), (1, _), (2, _), (3, _), (4, _), (5, _), (7, _), (9, _), (11, _), (13, _), (15, _), (17, _), (19, _), (21, _)]) E dX1_inside_152 (by decide) rfl ?_
    refine gz_iload E dX1_inside_154 rfl ?_
    refine gz_aload_n E dX1_inside_156 rfl rfl ?_
    refine gz_iload_n E dX1_inside_157 rfl rfl ?_
    refine gz_iload_n E dX1_inside_158 rfl rfl ?_
    refine gz_iload_n E dX1_inside_159 rfl rfl ?_
    refine gz_cali (n := 3) E 0 dX1_inside_160 gX1_inside_X1_turn (mtX1_turn SB (by assumption) (by assumption) (by assumption)) rfl rfl ⟨rfl, rfl⟩ (by decide +kernel) ⟨Nat.le_of_ble_eq_true rfl, Nat.le_of_ble_eq_true rfl⟩ rfl rfl rfl rfl (Nat.le_of_ble_eq_true rfl) (fun r160 w160 hr160 => ?_)
    obtain ⟨rfl, rfl⟩ := hr160
    refine gz_imulI E dX1_inside_163 ?_
    exact ret _ _ _ _ dX1_inside_164 rfl ⟨rfl, rfl⟩
  · skip
    refine gz_aload_n E dX1_inside_133 rfl rfl ?_
    refine gz_lload E dX1_inside_134 rfl ?_
    refine gz_cali (n := 1) E 0 dX1_inside_136 gX1_inside_X1_sign (mtX1_sign (by omega) (by omega)) rfl rfl ⟨rfl, rfl⟩ (by decide +kernel) ⟨Nat.le_of_ble_eq_true rfl, Nat.le_of_ble_eq_true rfl⟩ rfl rfl rfl rfl (Nat.le_of_ble_eq_true rfl) (fun r136 w136 hr136 => ?_)
    obtain ⟨e136, rfl⟩ := hr136
    obtain rfl : r136 = iI (pg_sg (pg_ic X Y a b c d)) := by rw [e136]; exact congrArg iI (pg_sg_c (by omega) (by omega))
    refine gz_goto (tgt := 152) E dX1_inside_139 (by decide) ?_
    refine gz_istore (lv' := [(0, _), (1, _), (2, _), (3, _), (4, _), (5, _), (7, _), (9, _), (11, _), (13, _), (15, _), (17, _), (19, _), (21, _)]) E dX1_inside_152 (by decide) rfl ?_
    refine gz_iload E dX1_inside_154 rfl ?_
    refine gz_aload_n E dX1_inside_156 rfl rfl ?_
    refine gz_iload_n E dX1_inside_157 rfl rfl ?_
    refine gz_iload_n E dX1_inside_158 rfl rfl ?_
    refine gz_iload_n E dX1_inside_159 rfl rfl ?_
    refine gz_cali (n := 3) E 0 dX1_inside_160 gX1_inside_X1_turn (mtX1_turn SB (by assumption) (by assumption) (by assumption)) rfl rfl ⟨rfl, rfl⟩ (by decide +kernel) ⟨Nat.le_of_ble_eq_true rfl, Nat.le_of_ble_eq_true rfl⟩ rfl rfl rfl rfl (Nat.le_of_ble_eq_true rfl) (fun r160 w160 hr160 => ?_)
    obtain ⟨rfl, rfl⟩ := hr160
    refine gz_imulI E dX1_inside_163 ?_
    exact ret _ _ _ _ dX1_inside_164 rfl ⟨rfl, rfl⟩
/-- p is on the straight way between a and b -/
def pg_BT (X Y : Nat → Int) (p a b : Nat) : Prop := p ≠ a ∧ p ≠ b ∧ pg_tn X Y a b p = 0 ∧ (X p - X a) * (X p - X b) ≤ 0 ∧ (Y p - Y a) * (Y p - Y b) ≤ 0
/-- p is in the triangle a, b, c, or on its sides -/
def pg_WI (X Y : Nat → Int) (p a b c : Nat) : Prop := (0 < pg_tn X Y a b c ∧ 0 ≤ pg_tn X Y a b p ∧ 0 ≤ pg_tn X Y b c p ∧ 0 ≤ pg_tn X Y c a p) ∨ (pg_tn X Y a b c < 0 ∧ pg_tn X Y a b p ≤ 0 ∧ pg_tn X Y b c p ≤ 0 ∧ pg_tn X Y c a p ≤ 0)
abbrev rmX1_between : Room := { frames := 2, cells := 0, slots := 0, locals := 45 }
theorem inwX1_between : ∀ w ∈ wsX10, w ∈ wsX1_between := fun _ h => List.mem_cons_of_mem _ (List.mem_append_right _ h)
set_option maxRecDepth 20000 in
theorem flX1_between_7 : Cond.fieldLink RX1 7 RX1 (TX1 1).2.1 (TX1 1).2.2.1 ∈ wsX1_between := by decide +kernel
set_option maxRecDepth 20000 in
theorem flX1_between_13 : Cond.fieldLink RX1 13 RX1 (TX1 2).2.1 (TX1 2).2.2.1 ∈ wsX1_between := by decide +kernel
set_option maxRecDepth 20000 in
set_option maxHeartbeats 4000000 in
theorem mtX1_between (SB : pg_ok n X Y) {p a b : Nat} (hp : p < n) (ha : a < n) (hb : b < n) : gz_Ki l yX1_between wsX1_between rmX1_between D [(cI, .int), (cJ, .long)] [.ref (bd 0), .int (nI p), .int (nI a), .int (nI b)] (wM bd cI cJ n X Y mc LE MI GE ec CO kc LS GT tl GP) (fun r w1 => gz_B r (pg_BT X Y p a b) ∧ w1 = (wM bd cI cJ n X Y mc LE MI GE ec CO kc LS GT tl GP)) := by
  refine gz_ofi (cc := cX1_between) (maxL := 4) (own := RX1) (by decide +kernel) rfl rfl rfl (Nat.le_of_ble_eq_true rfl) ?_
  intro z E ret
  have hn := SB.1
  have b0 := pg_sg_b (pg_tn X Y a b p)
  have s0 := pg_sg_0 (x := pg_tn X Y a b p)
  have hBp := SB.2.1 p hp
  have hBa := SB.2.1 a ha
  have hBb := SB.2.1 b hb
  have m1 := pg_mulb (a := X p - X a) (b := X p - X b) (A := 60000) (B := 60000) (by omega) (by omega) (by omega) (by omega)
  have m2 := pg_mulb (a := Y p - Y a) (b := Y p - Y b) (A := 60000) (B := 60000) (by omega) (by omega) (by omega) (by omega)
  show gz_G z _ 0 [(0, .ref (bd 0)), (1, .int (nI p)), (2, .int (nI a)), (3, .int (nI b))] []
  refine gz_iload_n E dX1_between_0 rfl rfl ?_
  refine gz_iload_n E dX1_between_1 rfl rfl ?_
  refine gz_icN_eq (tgt := 20) E dX1_between_2 (by decide) (by omega) (by omega) (fun q2 => ?_) (fun q2 => ?_)
  · skip
    refine gz_iconst (v := 0) E dX1_between_20 (by decide) ?_
    exact ret _ _ _ _ dX1_between_21 rfl ⟨by first | exact gz_B_t (by unfold pg_BT; omega) | exact gz_B_f (by unfold pg_BT; omega), rfl⟩
  · skip
    refine gz_iload_n E dX1_between_5 rfl rfl ?_
    refine gz_iload_n E dX1_between_6 rfl rfl ?_
    refine gz_icN_eq (tgt := 20) E dX1_between_7 (by decide) (by omega) (by omega) (fun q7 => ?_) (fun q7 => ?_)
    · skip
      refine gz_iconst (v := 0) E dX1_between_20 (by decide) ?_
      exact ret _ _ _ _ dX1_between_21 rfl ⟨by first | exact gz_B_t (by unfold pg_BT; omega) | exact gz_B_f (by unfold pg_BT; omega), rfl⟩
    · skip
      refine gz_aload_n E dX1_between_10 rfl rfl ?_
      refine gz_iload_n E dX1_between_11 rfl rfl ?_
      refine gz_iload_n E dX1_between_12 rfl rfl ?_
      refine gz_iload_n E dX1_between_13 rfl rfl ?_
      refine gz_cali (n := 3) E 0 dX1_between_14 gX1_between_X1_turn (mtX1_turn SB (by assumption) (by assumption) (by assumption)) rfl rfl ⟨rfl, rfl⟩ (by decide +kernel) ⟨Nat.le_of_ble_eq_true rfl, Nat.le_of_ble_eq_true rfl⟩ rfl rfl rfl rfl (Nat.le_of_ble_eq_true rfl) (fun r14 w14 hr14 => ?_)
      obtain ⟨rfl, rfl⟩ := hr14
      refine gz_ifI_eq (tgt := 22) E dX1_between_17 (by decide) (by omega) (by omega) (fun q17 => ?_) (fun q17 => ?_)
      · skip
        refine gz_aload_n E dX1_between_22 rfl rfl ?_
        refine gz_get E inwX1_between 0 1 dX1_between_23 flX1_between_7 rfl rfl (by decide) rfl rfl ?_
        refine gz_iload_n E dX1_between_26 rfl rfl ?_
        refine gz_laldN E 1 1 dX1_between_27 rfl rfl (by decide) rfl (by omega) ?_
        refine gz_aload_n E dX1_between_28 rfl rfl ?_
        refine gz_get E inwX1_between 0 1 dX1_between_29 flX1_between_7 rfl rfl (by decide) rfl rfl ?_
        refine gz_iload_n E dX1_between_32 rfl rfl ?_
        refine gz_laldN E 1 1 dX1_between_33 rfl rfl (by decide) rfl (by omega) ?_
        refine gz_lsubL E dX1_between_34 ?_
        refine gz_aload_n E dX1_between_35 rfl rfl ?_
        refine gz_get E inwX1_between 0 1 dX1_between_36 flX1_between_7 rfl rfl (by decide) rfl rfl ?_
        refine gz_iload_n E dX1_between_39 rfl rfl ?_
        refine gz_laldN E 1 1 dX1_between_40 rfl rfl (by decide) rfl (by omega) ?_
        refine gz_aload_n E dX1_between_41 rfl rfl ?_
        refine gz_get E inwX1_between 0 1 dX1_between_42 flX1_between_7 rfl rfl (by decide) rfl rfl ?_
        refine gz_iload_n E dX1_between_45 rfl rfl ?_
        refine gz_laldN E 1 1 dX1_between_46 rfl rfl (by decide) rfl (by omega) ?_
        refine gz_lsubL E dX1_between_47 ?_
        refine gz_lmulL E dX1_between_48 ?_
        refine gz_lconst (v := lI 0) E dX1_between_49 (by decide) ?_
        refine gz_lcL_gt (tgt := 90) E dX1_between_50 dX1_between_51 (by decide) (by omega) (by omega) (by omega) (by omega) (fun q50 => ?_) (fun q50 => ?_)
        · skip
          refine gz_iconst (v := 0) E dX1_between_90 (by decide) ?_
          exact ret _ _ _ _ dX1_between_91 rfl ⟨by first | exact gz_B_t (by unfold pg_BT; omega) | exact gz_B_f (by unfold pg_BT; omega), rfl⟩
        · skip
          refine gz_aload_n E dX1_between_54 rfl rfl ?_
          refine gz_get E inwX1_between 0 2 dX1_between_55 flX1_between_13 rfl rfl (by decide) rfl rfl ?_
          refine gz_iload_n E dX1_between_58 rfl rfl ?_
          refine gz_laldN E 2 1 dX1_between_59 rfl rfl (by decide) rfl (by omega) ?_
          refine gz_aload_n E dX1_between_60 rfl rfl ?_
          refine gz_get E inwX1_between 0 2 dX1_between_61 flX1_between_13 rfl rfl (by decide) rfl rfl ?_
          refine gz_iload_n E dX1_between_64 rfl rfl ?_
          refine gz_laldN E 2 1 dX1_between_65 rfl rfl (by decide) rfl (by omega) ?_
          refine gz_lsubL E dX1_between_66 ?_
          refine gz_aload_n E dX1_between_67 rfl rfl ?_
          refine gz_get E inwX1_between 0 2 dX1_between_68 flX1_between_13 rfl rfl (by decide) rfl rfl ?_
          refine gz_iload_n E dX1_between_71 rfl rfl ?_
          refine gz_laldN E 2 1 dX1_between_72 rfl rfl (by decide) rfl (by omega) ?_
          refine gz_aload_n E dX1_between_73 rfl rfl ?_
          refine gz_get E inwX1_between 0 2 dX1_between_74 flX1_between_13 rfl rfl (by decide) rfl rfl ?_
          refine gz_iload_n E dX1_between_77 rfl rfl ?_
          refine gz_laldN E 2 1 dX1_between_78 rfl rfl (by decide) rfl (by omega) ?_
          refine gz_lsubL E dX1_between_79 ?_
          refine gz_lmulL E dX1_between_80 ?_
          refine gz_lconst (v := lI 0) E dX1_between_81 (by decide) ?_
          refine gz_lcL_gt (tgt := 90) E dX1_between_82 dX1_between_83 (by decide) (by omega) (by omega) (by omega) (by omega) (fun q82 => ?_) (fun q82 => ?_)
          · skip
            refine gz_iconst (v := 0) E dX1_between_90 (by decide) ?_
            exact ret _ _ _ _ dX1_between_91 rfl ⟨by first | exact gz_B_t (by unfold pg_BT; omega) | exact gz_B_f (by unfold pg_BT; omega), rfl⟩
          · skip
            refine gz_iconst (v := 1) E dX1_between_86 (by decide) ?_
            refine gz_goto (tgt := 91) E dX1_between_87 (by decide) ?_
            exact ret _ _ _ _ dX1_between_91 rfl ⟨by first | exact gz_B_t (by unfold pg_BT; omega) | exact gz_B_f (by unfold pg_BT; omega), rfl⟩
      · skip
        refine gz_iconst (v := 0) E dX1_between_20 (by decide) ?_
        exact ret _ _ _ _ dX1_between_21 rfl ⟨by first | exact gz_B_t (by unfold pg_BT; omega) | exact gz_B_f (by unfold pg_BT; omega), rfl⟩
abbrev rmX1_within : Room := { frames := 2, cells := 0, slots := 0, locals := 45 }
set_option maxRecDepth 20000 in
set_option maxHeartbeats 4000000 in
theorem mtX1_within (SB : pg_ok n X Y) {p a b c : Nat} (hp : p < n) (ha : a < n) (hb : b < n) (hc : c < n) : gz_Ki l yX1_within wsX1_within rmX1_within D [(cI, .int), (cJ, .long)] [.ref (bd 0), .int (nI p), .int (nI a), .int (nI b), .int (nI c)] (wM bd cI cJ n X Y mc LE MI GE ec CO kc LS GT tl GP) (fun r w1 => gz_B r (pg_WI X Y p a b c) ∧ w1 = (wM bd cI cJ n X Y mc LE MI GE ec CO kc LS GT tl GP)) := by
  refine gz_ofi (cc := cX1_within) (maxL := 6) (own := RX1) (by decide +kernel) rfl rfl rfl (Nat.le_of_ble_eq_true rfl) ?_
  intro z E ret
  have hn := SB.1
  have b0 := pg_sg_b (pg_tn X Y a b c)
  have s0 := pg_sg_0 (x := pg_tn X Y a b c)
  have p10 := pg_sgml (x := pg_tn X Y a b p) (y := pg_tn X Y a b c)
  have p30 := pg_sgmb (pg_tn X Y a b p) (pg_tn X Y a b c)
  have p11 := pg_sgml (x := pg_tn X Y b c p) (y := pg_tn X Y a b c)
  have p31 := pg_sgmb (pg_tn X Y b c p) (pg_tn X Y a b c)
  have p12 := pg_sgml (x := pg_tn X Y c a p) (y := pg_tn X Y a b c)
  have p32 := pg_sgmb (pg_tn X Y c a p) (pg_tn X Y a b c)
  show gz_G z _ 0 [(0, .ref (bd 0)), (1, .int (nI p)), (2, .int (nI a)), (3, .int (nI b)), (4, .int (nI c))] []
  refine gz_aload_n E dX1_within_0 rfl rfl ?_
  refine gz_iload_n E dX1_within_1 rfl rfl ?_
  refine gz_iload_n E dX1_within_2 rfl rfl ?_
  refine gz_iload E dX1_within_3 rfl ?_
  refine gz_cali (n := 3) E 0 dX1_within_5 gX1_within_X1_turn (mtX1_turn SB (by assumption) (by assumption) (by assumption)) rfl rfl ⟨rfl, rfl⟩ (by decide +kernel) ⟨Nat.le_of_ble_eq_true rfl, Nat.le_of_ble_eq_true rfl⟩ rfl rfl rfl rfl (Nat.le_of_ble_eq_true rfl) (fun r5 w5 hr5 => ?_)
  obtain ⟨rfl, rfl⟩ := hr5
  refine gz_istore (lv' := [(0, _), (1, _), (2, _), (3, _), (4, _), (5, _)]) E dX1_within_8 (by decide) rfl ?_
  refine gz_iload E dX1_within_10 rfl ?_
  refine gz_ifI_eq (tgt := 60) E dX1_within_12 (by decide) (by omega) (by omega) (fun q12 => ?_) (fun q12 => ?_)
  · skip
    refine gz_iconst (v := 0) E dX1_within_60 (by decide) ?_
    exact ret _ _ _ _ dX1_within_61 rfl ⟨by first | exact gz_B_t (by unfold pg_WI; omega) | exact gz_B_f (by unfold pg_WI; omega), rfl⟩
  · skip
    refine gz_aload_n E dX1_within_15 rfl rfl ?_
    refine gz_iload_n E dX1_within_16 rfl rfl ?_
    refine gz_iload_n E dX1_within_17 rfl rfl ?_
    refine gz_iload_n E dX1_within_18 rfl rfl ?_
    refine gz_cali (n := 3) E 0 dX1_within_19 gX1_within_X1_turn (mtX1_turn SB (by assumption) (by assumption) (by assumption)) rfl rfl ⟨rfl, rfl⟩ (by decide +kernel) ⟨Nat.le_of_ble_eq_true rfl, Nat.le_of_ble_eq_true rfl⟩ rfl rfl rfl rfl (Nat.le_of_ble_eq_true rfl) (fun r19 w19 hr19 => ?_)
    obtain ⟨rfl, rfl⟩ := hr19
    refine gz_iload E dX1_within_22 rfl ?_
    refine gz_imulI E dX1_within_24 ?_
    refine gz_ifI_lt (tgt := 60) E dX1_within_25 (by decide) (by omega) (by omega) (fun q25 => ?_) (fun q25 => ?_)
    · skip
      refine gz_iconst (v := 0) E dX1_within_60 (by decide) ?_
      exact ret _ _ _ _ dX1_within_61 rfl ⟨by first | exact gz_B_t (by unfold pg_WI; omega) | exact gz_B_f (by unfold pg_WI; omega), rfl⟩
    · skip
      refine gz_aload_n E dX1_within_28 rfl rfl ?_
      refine gz_iload_n E dX1_within_29 rfl rfl ?_
      refine gz_iload E dX1_within_30 rfl ?_
      refine gz_iload_n E dX1_within_32 rfl rfl ?_
      refine gz_cali (n := 3) E 0 dX1_within_33 gX1_within_X1_turn (mtX1_turn SB (by assumption) (by assumption) (by assumption)) rfl rfl ⟨rfl, rfl⟩ (by decide +kernel) ⟨Nat.le_of_ble_eq_true rfl, Nat.le_of_ble_eq_true rfl⟩ rfl rfl rfl rfl (Nat.le_of_ble_eq_true rfl) (fun r33 w33 hr33 => ?_)
      obtain ⟨rfl, rfl⟩ := hr33
      refine gz_iload E dX1_within_36 rfl ?_
      refine gz_imulI E dX1_within_38 ?_
      refine gz_ifI_lt (tgt := 60) E dX1_within_39 (by decide) (by omega) (by omega) (fun q39 => ?_) (fun q39 => ?_)
      · skip
        refine gz_iconst (v := 0) E dX1_within_60 (by decide) ?_
        exact ret _ _ _ _ dX1_within_61 rfl ⟨by first | exact gz_B_t (by unfold pg_WI; omega) | exact gz_B_f (by unfold pg_WI; omega), rfl⟩
      · skip
        refine gz_aload_n E dX1_within_42 rfl rfl ?_
        refine gz_iload E dX1_within_43 rfl ?_
        refine gz_iload_n E dX1_within_45 rfl rfl ?_
        refine gz_iload_n E dX1_within_46 rfl rfl ?_
        refine gz_cali (n := 3) E 0 dX1_within_47 gX1_within_X1_turn (mtX1_turn SB (by assumption) (by assumption) (by assumption)) rfl rfl ⟨rfl, rfl⟩ (by decide +kernel) ⟨Nat.le_of_ble_eq_true rfl, Nat.le_of_ble_eq_true rfl⟩ rfl rfl rfl rfl (Nat.le_of_ble_eq_true rfl) (fun r47 w47 hr47 => ?_)
        obtain ⟨rfl, rfl⟩ := hr47
        refine gz_iload E dX1_within_50 rfl ?_
        refine gz_imulI E dX1_within_52 ?_
        refine gz_ifI_lt (tgt := 60) E dX1_within_53 (by decide) (by omega) (by omega) (fun q53 => ?_) (fun q53 => ?_)
        · skip
          refine gz_iconst (v := 0) E dX1_within_60 (by decide) ?_
          exact ret _ _ _ _ dX1_within_61 rfl ⟨by first | exact gz_B_t (by unfold pg_WI; omega) | exact gz_B_f (by unfold pg_WI; omega), rfl⟩
        · skip
          refine gz_iconst (v := 1) E dX1_within_56 (by decide) ?_
          refine gz_goto (tgt := 61) E dX1_within_57 (by decide) ?_
          exact ret _ _ _ _ dX1_within_61 rfl ⟨by first | exact gz_B_t (by unfold pg_WI; omega) | exact gz_B_f (by unfold pg_WI; omega), rfl⟩
theorem pg_lt_s {k : Nat} {P : Nat → Prop} (h : ∀ d, d < k → P d) (hk : P k) : ∀ d, d < k + 1 → P d := fun d hd => by
  rcases (show d < k ∨ d = k by omega) with e | e
  · exact h d e
  · rw [e]; exact hk
abbrev rmX1_good : Room := { frames := 3, cells := 0, slots := 0, locals := 86 }
theorem inwX1_good : ∀ w ∈ wsX10, w ∈ wsX1_good := fun _ h => List.mem_cons_of_mem _ (List.mem_append_right _ h)
set_option maxRecDepth 20000 in
theorem flX1_good_56 : Cond.fieldLink RX1 56 RX1 (TX1 0).2.1 (TX1 0).2.2.1 ∈ wsX1_good := by decide +kernel
set_option maxRecDepth 20000 in
set_option maxHeartbeats 4000000 in
theorem mtX1_good (SB : pg_ok n X Y) {a b c : Nat} (hab : a < b) (hbc : b < c) (hc : c < n) : gz_Ki l yX1_good wsX1_good rmX1_good D [(cI, .int), (cJ, .long)] [.ref (bd 0), .int (nI a), .int (nI b), .int (nI c)] (wM bd cI cJ n X Y mc LE MI GE ec CO kc LS GT tl GP) (fun r w1 => gz_B r (pg_TR n X Y (a, b, c)) ∧ w1 = (wM bd cI cJ n X Y mc LE MI GE ec CO kc LS GT tl GP)) := by
  refine gz_ofi (cc := cX1_good) (maxL := 7) (own := RX1) (by decide +kernel) rfl rfl rfl (Nat.le_of_ble_eq_true rfl) ?_
  intro z E ret
  have hn := SB.1
  have ha : a < n := by omega
  have hb : b < n := by omega
  have b0 := pg_sg_b (pg_tn X Y a b c)
  have s0 := pg_sg_0 (x := pg_tn X Y a b c)
  show gz_G z _ 0 [(0, .ref (bd 0)), (1, .int (nI a)), (2, .int (nI b)), (3, .int (nI c))] []
  have loop : pg_tn X Y a b c ≠ 0 → ∀ (f k : Nat) (r : Int32), n < f + k → k ≤ n → gz_B r (∀ d, d < k → pg_Q X Y a b c d) → gz_G z (wM bd cI cJ n X Y mc LE MI GE ec CO kc LS GT tl GP) 18 [(0, .ref (bd 0)), (1, .int (nI a)), (2, .int (nI b)), (3, .int (nI c)), (4, .int r), (5, .int (nI k))] [] := by
    intro ht f
    induction f with
    | zero => intro k r h1 h2; exact absurd h1 (by omega)
    | succ f ih =>
      intro k r h1 h2 hB
      refine gz_iload E dX1_good_18 rfl ?_
      refine gz_aload_n E dX1_good_20 rfl rfl ?_
      refine gz_get E inwX1_good 0 0 dX1_good_21 flX1_good_56 rfl rfl (by decide) rfl rfl ?_
      refine gz_icN_ge (tgt := 108) E dX1_good_24 (by decide) (by omega) (by omega) (fun q24 => ?_) (fun q24 => ?_)
      · skip
        refine gz_iload E dX1_good_108 rfl ?_
        first
          | exact ret _ _ _ _ dX1_good_110 rfl ⟨gz_B_f (pg_TR_f0 hab hbc hc (by omega)), rfl⟩
          | exact ret _ _ _ _ dX1_good_110 (gz_bnar hB) ⟨gz_B_c hB ⟨fun q => absurd q q29, fun q => absurd (fun d hd => ((pg_Q_TR hab hbc hc).mpr q).2 d (by omega)) q29⟩, rfl⟩
          | exact ret _ _ _ _ dX1_good_110 (gz_bnar hB) ⟨gz_B_c hB ⟨fun q => pg_TR_t hab hbc hc ht (fun d hd => q d (by omega)), fun q d hd => ((pg_Q_TR hab hbc hc).mpr q).2 d (by omega)⟩, rfl⟩
      · skip
        refine gz_iload E dX1_good_27 rfl ?_
        refine gz_ifB_eq (tgt := 108) E hB dX1_good_29 (by decide) (fun q29 => ?_) (fun q29 => ?_)
        · skip
          refine gz_iload E dX1_good_108 rfl ?_
          first
            | exact ret _ _ _ _ dX1_good_110 rfl ⟨gz_B_f (pg_TR_f0 hab hbc hc (by omega)), rfl⟩
            | exact ret _ _ _ _ dX1_good_110 (gz_bnar hB) ⟨gz_B_c hB ⟨fun q => absurd q q29, fun q => absurd (fun d hd => ((pg_Q_TR hab hbc hc).mpr q).2 d (by omega)) q29⟩, rfl⟩
            | exact ret _ _ _ _ dX1_good_110 (gz_bnar hB) ⟨gz_B_c hB ⟨fun q => pg_TR_t hab hbc hc ht (fun d hd => q d (by omega)), fun q d hd => ((pg_Q_TR hab hbc hc).mpr q).2 d (by omega)⟩, rfl⟩
        · skip
          refine gz_iload E dX1_good_32 rfl ?_
          refine gz_iload_n E dX1_good_34 rfl rfl ?_
          refine gz_icN_eq (tgt := 102) E dX1_good_35 (by decide) (by omega) (by omega) (fun q35 => ?_) (fun q35 => ?_)
          · skip
            refine gz_iinc (lv' := [(0, _), (1, _), (2, _), (3, _), (4, _), (5, _)]) E dX1_good_102 rfl (gz_nI1 _) (by decide) rfl ?_
            refine gz_goto (tgt := 18) E dX1_good_105 (by decide) ?_
            first
              | exact ih (k + 1) _ (by omega) (by omega) (gz_B_t (pg_lt_s q29 (by unfold pg_Q; omega)))
              | exact ih (k + 1) _ (by omega) (by omega) (gz_B_f (fun q => absurd (q k (by omega)) (by unfold pg_Q; omega)))
              | exact ih (k + 1) _ (by omega) (by omega) (gz_B_c hB ⟨fun q => pg_lt_s q (by unfold pg_Q; omega), fun q d hd => q d (by omega)⟩)
          · skip
            refine gz_iload E dX1_good_38 rfl ?_
            refine gz_iload_n E dX1_good_40 rfl rfl ?_
            refine gz_icN_eq (tgt := 102) E dX1_good_41 (by decide) (by omega) (by omega) (fun q41 => ?_) (fun q41 => ?_)
            · skip
              refine gz_iinc (lv' := [(0, _), (1, _), (2, _), (3, _), (4, _), (5, _)]) E dX1_good_102 rfl (gz_nI1 _) (by decide) rfl ?_
              refine gz_goto (tgt := 18) E dX1_good_105 (by decide) ?_
              first
                | exact ih (k + 1) _ (by omega) (by omega) (gz_B_t (pg_lt_s q29 (by unfold pg_Q; omega)))
                | exact ih (k + 1) _ (by omega) (by omega) (gz_B_f (fun q => absurd (q k (by omega)) (by unfold pg_Q; omega)))
                | exact ih (k + 1) _ (by omega) (by omega) (gz_B_c hB ⟨fun q => pg_lt_s q (by unfold pg_Q; omega), fun q d hd => q d (by omega)⟩)
            · skip
              refine gz_iload E dX1_good_44 rfl ?_
              refine gz_iload_n E dX1_good_46 rfl rfl ?_
              refine gz_icN_eq (tgt := 102) E dX1_good_47 (by decide) (by omega) (by omega) (fun q47 => ?_) (fun q47 => ?_)
              · skip
                refine gz_iinc (lv' := [(0, _), (1, _), (2, _), (3, _), (4, _), (5, _)]) E dX1_good_102 rfl (gz_nI1 _) (by decide) rfl ?_
                refine gz_goto (tgt := 18) E dX1_good_105 (by decide) ?_
                first
                  | exact ih (k + 1) _ (by omega) (by omega) (gz_B_t (pg_lt_s q29 (by unfold pg_Q; omega)))
                  | exact ih (k + 1) _ (by omega) (by omega) (gz_B_f (fun q => absurd (q k (by omega)) (by unfold pg_Q; omega)))
                  | exact ih (k + 1) _ (by omega) (by omega) (gz_B_c hB ⟨fun q => pg_lt_s q (by unfold pg_Q; omega), fun q d hd => q d (by omega)⟩)
              · skip
                have hkn : k < n := by omega
                have sb := pg_sg_b (pg_ic X Y a b c k)
                have p1 := pg_sgml (x := pg_ic X Y a b c k) (y := pg_tn X Y a b c)
                have p2 := pg_sgmz (x := pg_ic X Y a b c k) (y := pg_tn X Y a b c)
                have p3 := pg_sgmb (pg_ic X Y a b c k) (pg_tn X Y a b c)
                have u1 := pg_sg_pos (x := pg_tn X Y b c k)
                have u2 := pg_sg_neg (x := pg_tn X Y b c k)
                have u3 := pg_sg_b (pg_tn X Y b c k)
                have v1 := pg_sg_pos (x := pg_tn X Y b c a)
                have v2 := pg_sg_neg (x := pg_tn X Y b c a)
                have v3 := pg_sg_b (pg_tn X Y b c a)
                have vr := pg_tn_rot (X := X) (Y := Y) a b c
                have cc4 : pg_ic X Y a b c k = 0 → pg_tn X Y b c k ≠ 0 := fun q => pg_cc SB hb hc hkn ht q (by omega) (by omega)
                refine gz_aload_n E dX1_good_50 rfl rfl ?_
                refine gz_iload_n E dX1_good_51 rfl rfl ?_
                refine gz_iload_n E dX1_good_52 rfl rfl ?_
                refine gz_iload_n E dX1_good_53 rfl rfl ?_
                refine gz_iload E dX1_good_54 rfl ?_
                refine gz_cali (n := 4) E 0 dX1_good_56 gX1_good_X1_inside (mtX1_inside SB (by assumption) (by assumption) (by assumption) (by assumption)) rfl rfl ⟨rfl, rfl⟩ (by decide +kernel) ⟨Nat.le_of_ble_eq_true rfl, Nat.le_of_ble_eq_true rfl⟩ rfl rfl rfl rfl (Nat.le_of_ble_eq_true rfl) (fun r56 w56 hr56 => ?_)
                obtain ⟨rfl, rfl⟩ := hr56
                refine gz_istore (lv' := [(0, _), (1, _), (2, _), (3, _), (4, _), (5, _), (6, _)]) E dX1_good_59 (by decide) rfl ?_
                refine gz_iload E dX1_good_61 rfl ?_
                refine gz_ifI_lt (tgt := 95) E dX1_good_63 (by decide) (by omega) (by omega) (fun q63 => ?_) (fun q63 => ?_)
                · skip
                  refine gz_iconst (v := nI 1) E dX1_good_95 (by decide) ?_
                  refine gz_goto (tgt := 100) E dX1_good_96 (by decide) ?_
                  refine gz_istore (lv' := [(0, _), (1, _), (2, _), (3, _), (4, _), (5, _), (6, _)]) E dX1_good_100 (by decide) rfl ?_
                  refine gz_iinc (lv' := [(0, _), (1, _), (2, _), (3, _), (4, _), (5, _), (6, _)]) E dX1_good_102 rfl (gz_nI1 _) (by decide) rfl ?_
                  refine gz_goto (tgt := 18) E dX1_good_105 (by decide) ?_
                  refine gz_sub (lv' := [(0, _), (1, _), (2, _), (3, _), (4, _), (5, _)]) [0, 1, 2, 3, 4, 5] rfl ?_
                  first
                    | exact ih (k + 1) _ (by omega) (by omega) (gz_B_t (pg_lt_s q29 (by unfold pg_Q; omega)))
                    | exact ih (k + 1) _ (by omega) (by omega) (gz_B_f (fun q => absurd (q k (by omega)) (by unfold pg_Q; omega)))
                    | exact ih (k + 1) _ (by omega) (by omega) (gz_B_c hB ⟨fun q => pg_lt_s q (by unfold pg_Q; omega), fun q d hd => q d (by omega)⟩)
                · skip
                  refine gz_iload E dX1_good_66 rfl ?_
                  refine gz_ifI_ne (tgt := 99) E dX1_good_68 (by decide) (by omega) (by omega) (fun q68 => ?_) (fun q68 => ?_)
                  · skip
                    refine gz_iconst (v := nI 0) E dX1_good_99 (by decide) ?_
                    refine gz_istore (lv' := [(0, _), (1, _), (2, _), (3, _), (4, _), (5, _), (6, _)]) E dX1_good_100 (by decide) rfl ?_
                    refine gz_iinc (lv' := [(0, _), (1, _), (2, _), (3, _), (4, _), (5, _), (6, _)]) E dX1_good_102 rfl (gz_nI1 _) (by decide) rfl ?_
                    refine gz_goto (tgt := 18) E dX1_good_105 (by decide) ?_
                    refine gz_sub (lv' := [(0, _), (1, _), (2, _), (3, _), (4, _), (5, _)]) [0, 1, 2, 3, 4, 5] rfl ?_
                    first
                      | exact ih (k + 1) _ (by omega) (by omega) (gz_B_t (pg_lt_s q29 (by unfold pg_Q; omega)))
                      | exact ih (k + 1) _ (by omega) (by omega) (gz_B_f (fun q => absurd (q k (by omega)) (by unfold pg_Q; omega)))
                      | exact ih (k + 1) _ (by omega) (by omega) (gz_B_c hB ⟨fun q => pg_lt_s q (by unfold pg_Q; omega), fun q d hd => q d (by omega)⟩)
                  · skip
                    refine gz_iload E dX1_good_71 rfl ?_
                    refine gz_iload_n E dX1_good_73 rfl rfl ?_
                    refine gz_icN_le (tgt := 99) E dX1_good_74 (by decide) (by omega) (by omega) (fun q74 => ?_) (fun q74 => ?_)
                    · skip
                      refine gz_iconst (v := nI 0) E dX1_good_99 (by decide) ?_
                      refine gz_istore (lv' := [(0, _), (1, _), (2, _), (3, _), (4, _), (5, _), (6, _)]) E dX1_good_100 (by decide) rfl ?_
                      refine gz_iinc (lv' := [(0, _), (1, _), (2, _), (3, _), (4, _), (5, _), (6, _)]) E dX1_good_102 rfl (gz_nI1 _) (by decide) rfl ?_
                      refine gz_goto (tgt := 18) E dX1_good_105 (by decide) ?_
                      refine gz_sub (lv' := [(0, _), (1, _), (2, _), (3, _), (4, _), (5, _)]) [0, 1, 2, 3, 4, 5] rfl ?_
                      first
                        | exact ih (k + 1) _ (by omega) (by omega) (gz_B_t (pg_lt_s q29 (by unfold pg_Q; omega)))
                        | exact ih (k + 1) _ (by omega) (by omega) (gz_B_f (fun q => absurd (q k (by omega)) (by unfold pg_Q; omega)))
                        | exact ih (k + 1) _ (by omega) (by omega) (gz_B_c hB ⟨fun q => pg_lt_s q (by unfold pg_Q; omega), fun q d hd => q d (by omega)⟩)
                    · skip
                      refine gz_aload_n E dX1_good_77 rfl rfl ?_
                      refine gz_iload_n E dX1_good_78 rfl rfl ?_
                      refine gz_iload_n E dX1_good_79 rfl rfl ?_
                      refine gz_iload E dX1_good_80 rfl ?_
                      refine gz_cali (n := 3) E 0 dX1_good_82 gX1_good_X1_turn (mtX1_turn SB (by assumption) (by assumption) (by assumption)) rfl rfl ⟨rfl, rfl⟩ (by decide +kernel) ⟨Nat.le_of_ble_eq_true rfl, Nat.le_of_ble_eq_true rfl⟩ rfl rfl rfl rfl (Nat.le_of_ble_eq_true rfl) (fun r82 w82 hr82 => ?_)
                      obtain ⟨rfl, rfl⟩ := hr82
                      refine gz_aload_n E dX1_good_85 rfl rfl ?_
                      refine gz_iload_n E dX1_good_86 rfl rfl ?_
                      refine gz_iload_n E dX1_good_87 rfl rfl ?_
                      refine gz_iload_n E dX1_good_88 rfl rfl ?_
                      refine gz_cali (n := 3) E 0 dX1_good_89 gX1_good_X1_turn (mtX1_turn SB (by assumption) (by assumption) (by assumption)) rfl rfl ⟨rfl, rfl⟩ (by decide +kernel) ⟨Nat.le_of_ble_eq_true rfl, Nat.le_of_ble_eq_true rfl⟩ rfl rfl rfl rfl (Nat.le_of_ble_eq_true rfl) (fun r89 w89 hr89 => ?_)
                      obtain ⟨rfl, rfl⟩ := hr89
                      refine gz_icI_ne (tgt := 99) E dX1_good_92 (by decide) (by omega) (by omega) (by omega) (by omega) (fun q92 => ?_) (fun q92 => ?_)
                      · skip
                        refine gz_iconst (v := nI 0) E dX1_good_99 (by decide) ?_
                        refine gz_istore (lv' := [(0, _), (1, _), (2, _), (3, _), (4, _), (5, _), (6, _)]) E dX1_good_100 (by decide) rfl ?_
                        refine gz_iinc (lv' := [(0, _), (1, _), (2, _), (3, _), (4, _), (5, _), (6, _)]) E dX1_good_102 rfl (gz_nI1 _) (by decide) rfl ?_
                        refine gz_goto (tgt := 18) E dX1_good_105 (by decide) ?_
                        refine gz_sub (lv' := [(0, _), (1, _), (2, _), (3, _), (4, _), (5, _)]) [0, 1, 2, 3, 4, 5] rfl ?_
                        first
                          | exact ih (k + 1) _ (by omega) (by omega) (gz_B_t (pg_lt_s q29 (by unfold pg_Q; omega)))
                          | exact ih (k + 1) _ (by omega) (by omega) (gz_B_f (fun q => absurd (q k (by omega)) (by unfold pg_Q; omega)))
                          | exact ih (k + 1) _ (by omega) (by omega) (gz_B_c hB ⟨fun q => pg_lt_s q (by unfold pg_Q; omega), fun q d hd => q d (by omega)⟩)
                      · skip
                        refine gz_iconst (v := nI 1) E dX1_good_95 (by decide) ?_
                        refine gz_goto (tgt := 100) E dX1_good_96 (by decide) ?_
                        refine gz_istore (lv' := [(0, _), (1, _), (2, _), (3, _), (4, _), (5, _), (6, _)]) E dX1_good_100 (by decide) rfl ?_
                        refine gz_iinc (lv' := [(0, _), (1, _), (2, _), (3, _), (4, _), (5, _), (6, _)]) E dX1_good_102 rfl (gz_nI1 _) (by decide) rfl ?_
                        refine gz_goto (tgt := 18) E dX1_good_105 (by decide) ?_
                        refine gz_sub (lv' := [(0, _), (1, _), (2, _), (3, _), (4, _), (5, _)]) [0, 1, 2, 3, 4, 5] rfl ?_
                        first
                          | exact ih (k + 1) _ (by omega) (by omega) (gz_B_t (pg_lt_s q29 (by unfold pg_Q; omega)))
                          | exact ih (k + 1) _ (by omega) (by omega) (gz_B_f (fun q => absurd (q k (by omega)) (by unfold pg_Q; omega)))
                          | exact ih (k + 1) _ (by omega) (by omega) (gz_B_c hB ⟨fun q => pg_lt_s q (by unfold pg_Q; omega), fun q d hd => q d (by omega)⟩)
  refine gz_aload_n E dX1_good_0 rfl rfl ?_
  refine gz_iload_n E dX1_good_1 rfl rfl ?_
  refine gz_iload_n E dX1_good_2 rfl rfl ?_
  refine gz_iload_n E dX1_good_3 rfl rfl ?_
  refine gz_cali (n := 3) E 0 dX1_good_4 gX1_good_X1_turn (mtX1_turn SB (by assumption) (by assumption) (by assumption)) rfl rfl ⟨rfl, rfl⟩ (by decide +kernel) ⟨Nat.le_of_ble_eq_true rfl, Nat.le_of_ble_eq_true rfl⟩ rfl rfl rfl rfl (Nat.le_of_ble_eq_true rfl) (fun r4 w4 hr4 => ?_)
  obtain ⟨rfl, rfl⟩ := hr4
  refine gz_ifI_ne (tgt := 12) E dX1_good_7 (by decide) (by omega) (by omega) (fun q7 => ?_) (fun q7 => ?_)
  · skip
    refine gz_iconst (v := nI 1) E dX1_good_12 (by decide) ?_
    refine gz_istore (lv' := [(0, _), (1, _), (2, _), (3, _), (4, _)]) E dX1_good_13 (by decide) rfl ?_
    refine gz_iconst (v := nI 0) E dX1_good_15 (by decide) ?_
    refine gz_istore (lv' := [(0, _), (1, _), (2, _), (3, _), (4, _), (5, _)]) E dX1_good_16 (by decide) rfl ?_
    exact loop (by omega) (n + 1) 0 _ (by omega) (by omega) (gz_B_t (fun d hd => absurd hd (by omega)))
  · skip
    refine gz_iconst (v := 0) E dX1_good_10 (by decide) ?_
    first
      | exact ret _ _ _ _ dX1_good_11 rfl ⟨gz_B_f (pg_TR_f0 hab hbc hc (by omega)), rfl⟩
      | exact ret _ _ _ _ dX1_good_11 (gz_bnar hB) ⟨gz_B_c hB ⟨fun q => absurd q q29, fun q => absurd (fun d hd => ((pg_Q_TR hab hbc hc).mpr q).2 d (by omega)) q29⟩, rfl⟩
      | exact ret _ _ _ _ dX1_good_11 (gz_bnar hB) ⟨gz_B_c hB ⟨fun q => pg_TR_t hab hbc hc ht (fun d hd => q d (by omega)), fun q d hd => ((pg_Q_TR hab hbc hc).mpr q).2 d (by omega)⟩, rfl⟩
set_option maxRecDepth 20000 in
theorem pg_EN_A {tc : Nat} {a : Nat} {A B C : Nat → Nat} (hn : n ≤ 14) (h : pg_EN n X Y (a * 256) tc A B C) : pg_EN n X Y (a * 256 + (a + 1) * 16) tc A B C := by
  refine pg_EN_jump h ?_ ?_
  · omega
  · intro a' b' c' _ _ _ _
    omega
set_option maxRecDepth 20000 in
theorem pg_EN_B {tc : Nat} {a b : Nat} {A B C : Nat → Nat} (hn : n ≤ 14) (hb : b < n) (h : pg_EN n X Y (a * 256 + b * 16) tc A B C) : pg_EN n X Y (a * 256 + b * 16 + (b + 1)) tc A B C := by
  refine pg_EN_jump h ?_ ?_
  · omega
  · intro a' b' c' _ _ _ _
    omega
set_option maxRecDepth 20000 in
theorem pg_EN_C {tc : Nat} {a b : Nat} {A B C : Nat → Nat} (hn : n ≤ 14) (h : pg_EN n X Y (a * 256 + b * 16 + n) tc A B C) : pg_EN n X Y (a * 256 + (b + 1) * 16) tc A B C := by
  refine pg_EN_jump h ?_ ?_
  · omega
  · intro a' b' c' _ _ _ _
    omega
set_option maxRecDepth 20000 in
theorem pg_EN_D {tc : Nat} {a : Nat} {A B C : Nat → Nat} (hn : n ≤ 14) (h : pg_EN n X Y (a * 256 + n * 16) tc A B C) : pg_EN n X Y ((a + 1) * 256) tc A B C := by
  refine pg_EN_jump h ?_ ?_
  · omega
  · intro a' b' c' _ _ _ _
    omega
set_option maxRecDepth 20000 in
theorem pg_EN_E {tc : Nat} {A B C : Nat → Nat} (hn : n ≤ 14) (h : pg_EN n X Y (n * 256) tc A B C) : pg_EN n X Y 4096 tc A B C := by
  refine pg_EN_jump h ?_ ?_
  · omega
  · intro a' b' c' _ _ _ _
    omega
abbrev rmX1_makeTriangles : Room := { frames := 4, cells := 0, slots := 0, locals := 112 }
theorem inwX1_makeTriangles : ∀ w ∈ wsX10, w ∈ wsX1_makeTriangles := fun _ h => List.mem_cons_of_mem _ (List.mem_append_right _ h)
set_option maxRecDepth 20000 in
theorem flX1_makeTriangles_56 : Cond.fieldLink RX1 56 RX1 (TX1 0).2.1 (TX1 0).2.2.1 ∈ wsX1_makeTriangles := by decide +kernel
set_option maxRecDepth 20000 in
theorem flX1_makeTriangles_16 : Cond.fieldLink RX1 16 RX1 (TX1 4).2.1 (TX1 4).2.2.1 ∈ wsX1_makeTriangles := by decide +kernel
set_option maxRecDepth 20000 in
theorem flX1_makeTriangles_64 : Cond.fieldLink RX1 64 RX1 (TX1 3).2.1 (TX1 3).2.2.1 ∈ wsX1_makeTriangles := by decide +kernel
set_option maxRecDepth 20000 in
theorem flX1_makeTriangles_20 : Cond.fieldLink RX1 20 RX1 (TX1 5).2.1 (TX1 5).2.2.1 ∈ wsX1_makeTriangles := by decide +kernel
set_option maxRecDepth 20000 in
theorem flX1_makeTriangles_23 : Cond.fieldLink RX1 23 RX1 (TX1 6).2.1 (TX1 6).2.2.1 ∈ wsX1_makeTriangles := by decide +kernel
set_option maxRecDepth 20000 in
set_option maxHeartbeats 4000000 in
theorem mtX1_makeTriangles (SB : pg_ok n X Y) : gz_Kv l yX1_makeTriangles wsX1_makeTriangles rmX1_makeTriangles D [(cI, .int), (cJ, .long)] [.ref (bd 0)] (wM bd cI cJ n X Y mc LE MI GE ec CO kc LS GT tl GP) (fun w1 => ∃ mc LE MI GE, w1 = (wM bd cI cJ n X Y mc LE MI GE ec CO kc LS GT tl GP) ∧ pg_EN n X Y 4096 mc LE MI GE) := by
  refine gz_ofv (cc := cX1_makeTriangles) (maxL := 4) (own := RX1) (by decide +kernel) rfl rfl rfl (Nat.le_of_ble_eq_true rfl) ?_
  intro z E ret
  have hn := SB.1
  show gz_G z _ 0 [(0, .ref (bd 0))] []
  have loopA : ∀ (f a mc : Nat) (LE MI GE : Nat → Nat), n < f + a → a ≤ n → pg_EN n X Y (a * 256) mc LE MI GE → gz_G z (wM bd cI cJ n X Y mc LE MI GE ec CO kc LS GT tl GP) 7 [(0, .ref (bd 0)), (1, .int (nI a))] [] := by
    intro f
    induction f with
    | zero => intro a mc LE MI GE h1 h2; exact absurd h1 (by omega)
    | succ f ihA =>
      intro a mc LE MI GE h1 h2 hE
      have loopB : a < n → ∀ (g b mc : Nat) (LE MI GE : Nat → Nat), n < g + b → a < b → b ≤ n → pg_EN n X Y (a * 256 + b * 16) mc LE MI GE → gz_G z (wM bd cI cJ n X Y mc LE MI GE ec CO kc LS GT tl GP) 19 [(0, .ref (bd 0)), (1, .int (nI a)), (2, .int (nI b))] [] := by
        intro han g
        induction g with
        | zero => intro b mc LE MI GE g1 g2 g3; exact absurd g1 (by omega)
        | succ g ihB =>
          intro b mc LE MI GE g1 g2 g3 hE
          have loopC : b < n → ∀ (h c mc : Nat) (LE MI GE : Nat → Nat), n < h + c → b < c → c ≤ n → pg_EN n X Y (a * 256 + b * 16 + c) mc LE MI GE → gz_G z (wM bd cI cJ n X Y mc LE MI GE ec CO kc LS GT tl GP) 31 [(0, .ref (bd 0)), (1, .int (nI a)), (2, .int (nI b)), (3, .int (nI c))] [] := by
            intro hbn h
            induction h with
            | zero => intro c mc LE MI GE j1 j2 j3; exact absurd j1 (by omega)
            | succ h ihC =>
              intro c mc LE MI GE j1 j2 j3 hE
              refine gz_iload_n E dX1_makeTriangles_31 rfl rfl ?_
              refine gz_aload_n E dX1_makeTriangles_32 rfl rfl ?_
              refine gz_get E inwX1_makeTriangles 0 0 dX1_makeTriangles_33 flX1_makeTriangles_56 rfl rfl (by decide) rfl rfl ?_
              refine gz_icN_ge (tgt := 95) E dX1_makeTriangles_36 (by decide) (by omega) (by omega) (fun q36 => ?_) (fun q36 => ?_)
              · skip
                refine gz_iinc (lv' := [(0, _), (1, _), (2, _), (3, _)]) E dX1_makeTriangles_95 rfl (gz_nI1 _) (by decide) rfl ?_
                refine gz_goto (tgt := 19) E dX1_makeTriangles_98 (by decide) ?_
                refine gz_sub (lv' := [(0, _), (1, _), (2, _)]) [0, 1, 2] rfl ?_
                have e : c = n := by omega
                subst e
                exact ihB (b + 1) _ _ _ _ (by omega) (by omega) (by omega) (pg_EN_C hn hE)
              · skip
                refine gz_aload_n E dX1_makeTriangles_39 rfl rfl ?_
                refine gz_iload_n E dX1_makeTriangles_40 rfl rfl ?_
                refine gz_iload_n E dX1_makeTriangles_41 rfl rfl ?_
                refine gz_iload_n E dX1_makeTriangles_42 rfl rfl ?_
                refine gz_cali (n := 3) E 0 dX1_makeTriangles_43 gX1_makeTriangles_X1_good (mtX1_good SB (by omega) (by omega) (by omega)) rfl rfl ⟨rfl, rfl⟩ (by decide +kernel) ⟨Nat.le_of_ble_eq_true rfl, Nat.le_of_ble_eq_true rfl⟩ rfl rfl rfl rfl (Nat.le_of_ble_eq_true rfl) (fun r43 w43 hr43 => ?_)
                obtain ⟨hr43, rfl⟩ := hr43
                refine gz_ifB_eq (tgt := 89) E hr43 dX1_makeTriangles_46 (by decide) (fun q46 => ?_) (fun q46 => ?_)
                · skip
                  refine gz_iinc (lv' := [(0, _), (1, _), (2, _), (3, _)]) E dX1_makeTriangles_89 rfl (gz_nI1 _) (by decide) rfl ?_
                  refine gz_goto (tgt := 31) E dX1_makeTriangles_92 (by decide) ?_
                  first | exact ihC (c + 1) _ _ _ _ (by omega) (by omega) (by omega) (pg_EN_add hn (by omega) (by omega) hE q46) | exact ihC (c + 1) _ _ _ _ (by omega) (by omega) (by omega) (pg_EN_no hn (by omega) (by omega) hE q46)
                · skip
                  have htc := pg_EN_lt SB (by omega) (by omega) hE q46
                  refine gz_aload_n E dX1_makeTriangles_49 rfl rfl ?_
                  refine gz_get E inwX1_makeTriangles 0 4 dX1_makeTriangles_50 flX1_makeTriangles_16 rfl rfl (by decide) rfl rfl ?_
                  refine gz_aload_n E dX1_makeTriangles_53 rfl rfl ?_
                  refine gz_get E inwX1_makeTriangles 0 3 dX1_makeTriangles_54 flX1_makeTriangles_64 rfl rfl (by decide) rfl rfl ?_
                  refine gz_iload_n E dX1_makeTriangles_57 rfl rfl ?_
                  refine gz_iastN E 3 0 dX1_makeTriangles_58 rfl rfl (by decide) (by omega) ?_
                  refine gz_w (ws' := (wM bd cI cJ n X Y mc (fun i => if i = mc then a else LE i) MI GE ec CO kc LS GT tl GP)) (by rw [gz_upN]; rfl) ?_
                  refine gz_aload_n E dX1_makeTriangles_59 rfl rfl ?_
                  refine gz_get E inwX1_makeTriangles 0 5 dX1_makeTriangles_60 flX1_makeTriangles_20 rfl rfl (by decide) rfl rfl ?_
                  refine gz_aload_n E dX1_makeTriangles_63 rfl rfl ?_
                  refine gz_get E inwX1_makeTriangles 0 3 dX1_makeTriangles_64 flX1_makeTriangles_64 rfl rfl (by decide) rfl rfl ?_
                  refine gz_iload_n E dX1_makeTriangles_67 rfl rfl ?_
                  refine gz_iastN E 4 0 dX1_makeTriangles_68 rfl rfl (by decide) (by omega) ?_
                  refine gz_w (ws' := (wM bd cI cJ n X Y mc (fun i => if i = mc then a else LE i) (fun i => if i = mc then b else MI i) GE ec CO kc LS GT tl GP)) (by rw [gz_upN]; rfl) ?_
                  refine gz_aload_n E dX1_makeTriangles_69 rfl rfl ?_
                  refine gz_get E inwX1_makeTriangles 0 6 dX1_makeTriangles_70 flX1_makeTriangles_23 rfl rfl (by decide) rfl rfl ?_
                  refine gz_aload_n E dX1_makeTriangles_73 rfl rfl ?_
                  refine gz_get E inwX1_makeTriangles 0 3 dX1_makeTriangles_74 flX1_makeTriangles_64 rfl rfl (by decide) rfl rfl ?_
                  refine gz_iload_n E dX1_makeTriangles_77 rfl rfl ?_
                  refine gz_iastN E 5 0 dX1_makeTriangles_78 rfl rfl (by decide) (by omega) ?_
                  refine gz_w (ws' := (wM bd cI cJ n X Y mc (fun i => if i = mc then a else LE i) (fun i => if i = mc then b else MI i) (fun i => if i = mc then c else GE i) ec CO kc LS GT tl GP)) (by rw [gz_upN]; rfl) ?_
                  refine gz_aload_n E dX1_makeTriangles_79 rfl rfl ?_
                  refine gz_dup E dX1_makeTriangles_80 rfl ?_
                  refine gz_get E inwX1_makeTriangles 0 3 dX1_makeTriangles_81 flX1_makeTriangles_64 rfl rfl (by decide) rfl rfl ?_
                  refine gz_iconst (v := nI 1) E dX1_makeTriangles_84 (by decide) ?_
                  refine gz_iaddN E dX1_makeTriangles_85 ?_
                  refine gz_put E inwX1_makeTriangles 0 3 dX1_makeTriangles_86 flX1_makeTriangles_64 rfl rfl (by decide) rfl tyX1 tyX1_ok nmX1 rfl rfl rfl (Nat.le_of_ble_eq_true rfl) ?_
                  refine gz_w (ws' := (wM bd cI cJ n X Y (mc + 1) (fun i => if i = mc then a else LE i) (fun i => if i = mc then b else MI i) (fun i => if i = mc then c else GE i) ec CO kc LS GT tl GP)) (by rfl) ?_
                  refine gz_iinc (lv' := [(0, _), (1, _), (2, _), (3, _)]) E dX1_makeTriangles_89 rfl (gz_nI1 _) (by decide) rfl ?_
                  refine gz_goto (tgt := 31) E dX1_makeTriangles_92 (by decide) ?_
                  first | exact ihC (c + 1) _ _ _ _ (by omega) (by omega) (by omega) (pg_EN_add hn (by omega) (by omega) hE q46) | exact ihC (c + 1) _ _ _ _ (by omega) (by omega) (by omega) (pg_EN_no hn (by omega) (by omega) hE q46)
          refine gz_iload_n E dX1_makeTriangles_19 rfl rfl ?_
          refine gz_aload_n E dX1_makeTriangles_20 rfl rfl ?_
          refine gz_get E inwX1_makeTriangles 0 0 dX1_makeTriangles_21 flX1_makeTriangles_56 rfl rfl (by decide) rfl rfl ?_
          refine gz_icN_ge (tgt := 101) E dX1_makeTriangles_24 (by decide) (by omega) (by omega) (fun q24 => ?_) (fun q24 => ?_)
          · skip
            refine gz_iinc (lv' := [(0, _), (1, _), (2, _)]) E dX1_makeTriangles_101 rfl (gz_nI1 _) (by decide) rfl ?_
            refine gz_goto (tgt := 7) E dX1_makeTriangles_104 (by decide) ?_
            refine gz_sub (lv' := [(0, _), (1, _)]) [0, 1] rfl ?_
            have e : b = n := by omega
            subst e
            exact ihA (a + 1) _ _ _ _ (by omega) (by omega) (pg_EN_D hn hE)
          · skip
            refine gz_iload_n E dX1_makeTriangles_27 rfl rfl ?_
            refine gz_iconst (v := nI 1) E dX1_makeTriangles_28 (by decide) ?_
            refine gz_iaddN E dX1_makeTriangles_29 ?_
            refine gz_istore_n (lv' := [(0, _), (1, _), (2, _), (3, _)]) E dX1_makeTriangles_30 rfl (by decide) rfl ?_
            exact loopC (by omega) (n + 1) (b + 1) _ _ _ _ (by omega) (by omega) (by omega) (pg_EN_B hn (by omega) hE)
      refine gz_iload_n E dX1_makeTriangles_7 rfl rfl ?_
      refine gz_aload_n E dX1_makeTriangles_8 rfl rfl ?_
      refine gz_get E inwX1_makeTriangles 0 0 dX1_makeTriangles_9 flX1_makeTriangles_56 rfl rfl (by decide) rfl rfl ?_
      refine gz_icN_ge (tgt := 107) E dX1_makeTriangles_12 (by decide) (by omega) (by omega) (fun q12 => ?_) (fun q12 => ?_)
      · skip
        have e : a = n := by omega
        subst e
        exact ret _ _ _ dX1_makeTriangles_107 ⟨mc, LE, MI, GE, rfl, pg_EN_E hn hE⟩
      · skip
        refine gz_iload_n E dX1_makeTriangles_15 rfl rfl ?_
        refine gz_iconst (v := nI 1) E dX1_makeTriangles_16 (by decide) ?_
        refine gz_iaddN E dX1_makeTriangles_17 ?_
        refine gz_istore_n (lv' := [(0, _), (1, _), (2, _)]) E dX1_makeTriangles_18 rfl (by decide) rfl ?_
        exact loopB (by omega) (n + 1) (a + 1) _ _ _ _ (by omega) (by omega) (by omega) (pg_EN_A hn hE)
  refine gz_aload_n E dX1_makeTriangles_0 rfl rfl ?_
  refine gz_iconst (v := nI 0) E dX1_makeTriangles_1 (by decide) ?_
  refine gz_put E inwX1_makeTriangles 0 3 dX1_makeTriangles_2 flX1_makeTriangles_64 rfl rfl (by decide) rfl tyX1 tyX1_ok nmX1 rfl rfl rfl (Nat.le_of_ble_eq_true rfl) ?_
  refine gz_w (ws' := (wM bd cI cJ n X Y 0 LE MI GE ec CO kc LS GT tl GP)) (by rfl) ?_
  refine gz_iconst (v := nI 0) E dX1_makeTriangles_5 (by decide) ?_
  refine gz_istore_n (lv' := [(0, _), (1, _)]) E dX1_makeTriangles_6 rfl (by decide) rfl ?_
  exact loopA (n + 1) 0 _ _ _ _ (by omega) (by omega) pg_EN_0
end RA
end
section
theorem zz_last : True := trivial
end
