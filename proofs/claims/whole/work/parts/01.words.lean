-- ===== PART A: goes FIRST, ahead of the names: the tables' words, and 'selects' of the private methods out of them =====
/-- a private method of a class that the tables say can be made, by its rows of tables_1 -/
def lw_okq (q : MethodName × Nat) : Prop := (q.1.cls ≠ "java/lang/invoke/MethodHandle" ∧ q.1.cls ≠ "java/lang/invoke/VarHandle") ∧ Cond.instantiable q.1.cls q.2 ∈ tables_1 ∧ Cond.privateMethod q.1 ∈ tables_1 ∧ Cond.instanceMethod q.1 ∈ tables_1
theorem lw_p0 : lw_okq (⟨"GoingAbout", "error", "(I)I"⟩, 9) := ⟨⟨by decide +kernel, by decide +kernel⟩, List.mem_of_getElem? (i := 18) (by decide +kernel), List.mem_of_getElem? (i := 245) (by decide +kernel), List.mem_of_getElem? (i := 246) (by decide +kernel)⟩
theorem lw_p1 : lw_okq (⟨"GoingAbout$Suburb", "join", "(III)I"⟩, 12) := ⟨⟨by decide +kernel, by decide +kernel⟩, List.mem_of_getElem? (i := 26) (by decide +kernel), List.mem_of_getElem? (i := 250) (by decide +kernel), List.mem_of_getElem? (i := 251) (by decide +kernel)⟩
theorem lw_p2 : lw_okq (⟨"GoingAbout$Suburb", "has", "(I)Z"⟩, 12) := ⟨⟨by decide +kernel, by decide +kernel⟩, List.mem_of_getElem? (i := 26) (by decide +kernel), List.mem_of_getElem? (i := 258) (by decide +kernel), List.mem_of_getElem? (i := 259) (by decide +kernel)⟩
theorem lw_p3 : lw_okq (⟨"GoingAbout$Suburb", "takenBy", "(IIII)I"⟩, 12) := ⟨⟨by decide +kernel, by decide +kernel⟩, List.mem_of_getElem? (i := 26) (by decide +kernel), List.mem_of_getElem? (i := 287) (by decide +kernel), List.mem_of_getElem? (i := 288) (by decide +kernel)⟩
theorem lw_p4 : lw_okq (⟨"GoingAbout$Law", "gives", "(III)I"⟩, 4) := ⟨⟨by decide +kernel, by decide +kernel⟩, List.mem_of_getElem? (i := 55) (by decide +kernel), List.mem_of_getElem? (i := 294) (by decide +kernel), List.mem_of_getElem? (i := 295) (by decide +kernel)⟩
theorem lw_p5 : lw_okq (⟨"GoingAbout$Suburb", "meet", "(II)I"⟩, 12) := ⟨⟨by decide +kernel, by decide +kernel⟩, List.mem_of_getElem? (i := 26) (by decide +kernel), List.mem_of_getElem? (i := 314) (by decide +kernel), List.mem_of_getElem? (i := 315) (by decide +kernel)⟩
theorem lw_p6 : lw_okq (⟨"GoingAbout$Suburb", "record", "(JI)I"⟩, 12) := ⟨⟨by decide +kernel, by decide +kernel⟩, List.mem_of_getElem? (i := 26) (by decide +kernel), List.mem_of_getElem? (i := 323) (by decide +kernel), List.mem_of_getElem? (i := 324) (by decide +kernel)⟩
theorem lw_p7 : lw_okq (⟨"GoingAbout$Suburb", "lawOf", "(I)LGoingAbout$Law;"⟩, 12) := ⟨⟨by decide +kernel, by decide +kernel⟩, List.mem_of_getElem? (i := 26) (by decide +kernel), List.mem_of_getElem? (i := 334) (by decide +kernel), List.mem_of_getElem? (i := 335) (by decide +kernel)⟩
theorem lw_p8 : lw_okq (⟨"GoingAbout$Reading", "read", "([BIILGoingAbout$Law;)I"⟩, 6) := ⟨⟨by decide +kernel, by decide +kernel⟩, List.mem_of_getElem? (i := 127) (by decide +kernel), List.mem_of_getElem? (i := 338) (by decide +kernel), List.mem_of_getElem? (i := 339) (by decide +kernel)⟩
theorem lw_p9 : lw_okq (⟨"GoingAbout$Reading", "readLevel", "(II)Z"⟩, 6) := ⟨⟨by decide +kernel, by decide +kernel⟩, List.mem_of_getElem? (i := 127) (by decide +kernel), List.mem_of_getElem? (i := 348) (by decide +kernel), List.mem_of_getElem? (i := 349) (by decide +kernel)⟩
theorem lw_p10 : lw_okq (⟨"GoingAbout$Reading", "readInner", "(I)Z"⟩, 6) := ⟨⟨by decide +kernel, by decide +kernel⟩, List.mem_of_getElem? (i := 127) (by decide +kernel), List.mem_of_getElem? (i := 352) (by decide +kernel), List.mem_of_getElem? (i := 353) (by decide +kernel)⟩
theorem lw_p11 : lw_okq (⟨"GoingAbout$Reading", "readNumber", "()Z"⟩, 6) := ⟨⟨by decide +kernel, by decide +kernel⟩, List.mem_of_getElem? (i := 127) (by decide +kernel), List.mem_of_getElem? (i := 359) (by decide +kernel), List.mem_of_getElem? (i := 360) (by decide +kernel)⟩
theorem lw_p12 : lw_okq (⟨"GoingAbout$Reading", "step", "(I)V"⟩, 6) := ⟨⟨by decide +kernel, by decide +kernel⟩, List.mem_of_getElem? (i := 127) (by decide +kernel), List.mem_of_getElem? (i := 363) (by decide +kernel), List.mem_of_getElem? (i := 364) (by decide +kernel)⟩
theorem lw_p13 : lw_okq (⟨"GoingAbout$Reading", "readClosing", "()Z"⟩, 6) := ⟨⟨by decide +kernel, by decide +kernel⟩, List.mem_of_getElem? (i := 127) (by decide +kernel), List.mem_of_getElem? (i := 449) (by decide +kernel), List.mem_of_getElem? (i := 450) (by decide +kernel)⟩
theorem lw_p14 : lw_okq (⟨"GoingAbout$Law", "copy", "([II)V"⟩, 4) := ⟨⟨by decide +kernel, by decide +kernel⟩, List.mem_of_getElem? (i := 55) (by decide +kernel), List.mem_of_getElem? (i := 456) (by decide +kernel), List.mem_of_getElem? (i := 457) (by decide +kernel)⟩
theorem lw_p15 : lw_okq (⟨"GoingAbout$Suburb", "pass", "(LGoingAbout$Standing;)Z"⟩, 12) := ⟨⟨by decide +kernel, by decide +kernel⟩, List.mem_of_getElem? (i := 26) (by decide +kernel), List.mem_of_getElem? (i := 474) (by decide +kernel), List.mem_of_getElem? (i := 475) (by decide +kernel)⟩
def lw_privs_1 : List (MethodName × Nat) := [(⟨"GoingAbout", "error", "(I)I"⟩, 9), (⟨"GoingAbout$Suburb", "join", "(III)I"⟩, 12), (⟨"GoingAbout$Suburb", "has", "(I)Z"⟩, 12), (⟨"GoingAbout$Suburb", "takenBy", "(IIII)I"⟩, 12), (⟨"GoingAbout$Law", "gives", "(III)I"⟩, 4), (⟨"GoingAbout$Suburb", "meet", "(II)I"⟩, 12), (⟨"GoingAbout$Suburb", "record", "(JI)I"⟩, 12), (⟨"GoingAbout$Suburb", "lawOf", "(I)LGoingAbout$Law;"⟩, 12), (⟨"GoingAbout$Reading", "read", "([BIILGoingAbout$Law;)I"⟩, 6), (⟨"GoingAbout$Reading", "readLevel", "(II)Z"⟩, 6), (⟨"GoingAbout$Reading", "readInner", "(I)Z"⟩, 6), (⟨"GoingAbout$Reading", "readNumber", "()Z"⟩, 6), (⟨"GoingAbout$Reading", "step", "(I)V"⟩, 6), (⟨"GoingAbout$Reading", "readClosing", "()Z"⟩, 6), (⟨"GoingAbout$Law", "copy", "([II)V"⟩, 4), (⟨"GoingAbout$Suburb", "pass", "(LGoingAbout$Standing;)Z"⟩, 12)]
theorem lw_r1 : ∀ q ∈ lw_privs_1, lw_okq q := List.forall_mem_cons.mpr ⟨lw_p0, List.forall_mem_cons.mpr ⟨lw_p1, List.forall_mem_cons.mpr ⟨lw_p2, List.forall_mem_cons.mpr ⟨lw_p3, List.forall_mem_cons.mpr ⟨lw_p4, List.forall_mem_cons.mpr ⟨lw_p5, List.forall_mem_cons.mpr ⟨lw_p6, List.forall_mem_cons.mpr ⟨lw_p7, List.forall_mem_cons.mpr ⟨lw_p8, List.forall_mem_cons.mpr ⟨lw_p9, List.forall_mem_cons.mpr ⟨lw_p10, List.forall_mem_cons.mpr ⟨lw_p11, List.forall_mem_cons.mpr ⟨lw_p12, List.forall_mem_cons.mpr ⟨lw_p13, List.forall_mem_cons.mpr ⟨lw_p14, List.forall_mem_cons.mpr ⟨lw_p15, fun _ h => absurd h List.not_mem_nil⟩⟩⟩⟩⟩⟩⟩⟩⟩⟩⟩⟩⟩⟩⟩⟩
theorem lw_p16 : lw_okq (⟨"GoingAbout$Suburb", "nearAfter", "(ILGoingAbout$Standing;)I"⟩, 12) := ⟨⟨by decide +kernel, by decide +kernel⟩, List.mem_of_getElem? (i := 26) (by decide +kernel), List.mem_of_getElem? (i := 478) (by decide +kernel), List.mem_of_getElem? (i := 479) (by decide +kernel)⟩
theorem lw_p17 : lw_okq (⟨"GoingAbout$Suburb", "signOf", "(ILGoingAbout$Standing;)I"⟩, 12) := ⟨⟨by decide +kernel, by decide +kernel⟩, List.mem_of_getElem? (i := 26) (by decide +kernel), List.mem_of_getElem? (i := 483) (by decide +kernel), List.mem_of_getElem? (i := 484) (by decide +kernel)⟩
theorem lw_p18 : lw_okq (⟨"GoingAbout$Suburb", "drawMoves", "()V"⟩, 12) := ⟨⟨by decide +kernel, by decide +kernel⟩, List.mem_of_getElem? (i := 26) (by decide +kernel), List.mem_of_getElem? (i := 494) (by decide +kernel), List.mem_of_getElem? (i := 495) (by decide +kernel)⟩
theorem lw_p19 : lw_okq (⟨"GoingAbout$Suburb", "draw", "()I"⟩, 12) := ⟨⟨by decide +kernel, by decide +kernel⟩, List.mem_of_getElem? (i := 26) (by decide +kernel), List.mem_of_getElem? (i := 498) (by decide +kernel), List.mem_of_getElem? (i := 499) (by decide +kernel)⟩
theorem lw_p20 : lw_okq (⟨"GoingAbout$Suburb", "nearestIn", "(LGoingAbout$Standing;)I"⟩, 12) := ⟨⟨by decide +kernel, by decide +kernel⟩, List.mem_of_getElem? (i := 26) (by decide +kernel), List.mem_of_getElem? (i := 504) (by decide +kernel), List.mem_of_getElem? (i := 505) (by decide +kernel)⟩
theorem lw_p21 : lw_okq (⟨"GoingAbout", "think", "(I)V"⟩, 9) := ⟨⟨by decide +kernel, by decide +kernel⟩, List.mem_of_getElem? (i := 18) (by decide +kernel), List.mem_of_getElem? (i := 516) (by decide +kernel), List.mem_of_getElem? (i := 517) (by decide +kernel)⟩
theorem lw_p22 : lw_okq (⟨"GoingAbout$Standing", "copy", "(LGoingAbout$Standing;)V"⟩, 3) := ⟨⟨by decide +kernel, by decide +kernel⟩, List.mem_of_getElem? (i := 32) (by decide +kernel), List.mem_of_getElem? (i := 520) (by decide +kernel), List.mem_of_getElem? (i := 521) (by decide +kernel)⟩
theorem lw_p23 : lw_okq (⟨"GoingAbout$Suburb", "countNearer", "(I)I"⟩, 12) := ⟨⟨by decide +kernel, by decide +kernel⟩, List.mem_of_getElem? (i := 26) (by decide +kernel), List.mem_of_getElem? (i := 537) (by decide +kernel), List.mem_of_getElem? (i := 538) (by decide +kernel)⟩
theorem lw_p24 : lw_okq (⟨"GoingAbout", "thinkSigned", "(II)V"⟩, 9) := ⟨⟨by decide +kernel, by decide +kernel⟩, List.mem_of_getElem? (i := 18) (by decide +kernel), List.mem_of_getElem? (i := 545) (by decide +kernel), List.mem_of_getElem? (i := 546) (by decide +kernel)⟩
theorem lw_p25 : lw_okq (⟨"GoingAbout", "fewestFor", "(I)I"⟩, 9) := ⟨⟨by decide +kernel, by decide +kernel⟩, List.mem_of_getElem? (i := 18) (by decide +kernel), List.mem_of_getElem? (i := 549) (by decide +kernel), List.mem_of_getElem? (i := 550) (by decide +kernel)⟩
theorem lw_p26 : lw_okq (⟨"GoingAbout", "nearestIfSigned", "(I)I"⟩, 9) := ⟨⟨by decide +kernel, by decide +kernel⟩, List.mem_of_getElem? (i := 18) (by decide +kernel), List.mem_of_getElem? (i := 559) (by decide +kernel), List.mem_of_getElem? (i := 560) (by decide +kernel)⟩
theorem lw_p27 : lw_okq (⟨"GoingAbout", "nearIfSigned", "(II)I"⟩, 9) := ⟨⟨by decide +kernel, by decide +kernel⟩, List.mem_of_getElem? (i := 18) (by decide +kernel), List.mem_of_getElem? (i := 563) (by decide +kernel), List.mem_of_getElem? (i := 564) (by decide +kernel)⟩
theorem lw_p28 : lw_okq (⟨"GoingAbout$Suburb", "comeToFrom", "(I)I"⟩, 12) := ⟨⟨by decide +kernel, by decide +kernel⟩, List.mem_of_getElem? (i := 26) (by decide +kernel), List.mem_of_getElem? (i := 571) (by decide +kernel), List.mem_of_getElem? (i := 572) (by decide +kernel)⟩
theorem lw_p29 : lw_okq (⟨"GoingAbout$Suburb", "countTakenNearer", "(I)I"⟩, 12) := ⟨⟨by decide +kernel, by decide +kernel⟩, List.mem_of_getElem? (i := 26) (by decide +kernel), List.mem_of_getElem? (i := 579) (by decide +kernel), List.mem_of_getElem? (i := 580) (by decide +kernel)⟩
theorem lw_p30 : lw_okq (⟨"GoingAbout$Sheet", "isMissing", "()Z"⟩, 3) := ⟨⟨by decide +kernel, by decide +kernel⟩, List.mem_of_getElem? (i := 182) (by decide +kernel), List.mem_of_getElem? (i := 593) (by decide +kernel), List.mem_of_getElem? (i := 594) (by decide +kernel)⟩
theorem lw_p31 : lw_okq (⟨"GoingAbout", "tellsMixed", "(LGoingAbout$Sheet;I)Z"⟩, 9) := ⟨⟨by decide +kernel, by decide +kernel⟩, List.mem_of_getElem? (i := 18) (by decide +kernel), List.mem_of_getElem? (i := 597) (by decide +kernel), List.mem_of_getElem? (i := 598) (by decide +kernel)⟩
def lw_privs_2 : List (MethodName × Nat) := [(⟨"GoingAbout$Suburb", "nearAfter", "(ILGoingAbout$Standing;)I"⟩, 12), (⟨"GoingAbout$Suburb", "signOf", "(ILGoingAbout$Standing;)I"⟩, 12), (⟨"GoingAbout$Suburb", "drawMoves", "()V"⟩, 12), (⟨"GoingAbout$Suburb", "draw", "()I"⟩, 12), (⟨"GoingAbout$Suburb", "nearestIn", "(LGoingAbout$Standing;)I"⟩, 12), (⟨"GoingAbout", "think", "(I)V"⟩, 9), (⟨"GoingAbout$Standing", "copy", "(LGoingAbout$Standing;)V"⟩, 3), (⟨"GoingAbout$Suburb", "countNearer", "(I)I"⟩, 12), (⟨"GoingAbout", "thinkSigned", "(II)V"⟩, 9), (⟨"GoingAbout", "fewestFor", "(I)I"⟩, 9), (⟨"GoingAbout", "nearestIfSigned", "(I)I"⟩, 9), (⟨"GoingAbout", "nearIfSigned", "(II)I"⟩, 9), (⟨"GoingAbout$Suburb", "comeToFrom", "(I)I"⟩, 12), (⟨"GoingAbout$Suburb", "countTakenNearer", "(I)I"⟩, 12), (⟨"GoingAbout$Sheet", "isMissing", "()Z"⟩, 3), (⟨"GoingAbout", "tellsMixed", "(LGoingAbout$Sheet;I)Z"⟩, 9)]
theorem lw_r2 : ∀ q ∈ lw_privs_2, lw_okq q := List.forall_mem_cons.mpr ⟨lw_p16, List.forall_mem_cons.mpr ⟨lw_p17, List.forall_mem_cons.mpr ⟨lw_p18, List.forall_mem_cons.mpr ⟨lw_p19, List.forall_mem_cons.mpr ⟨lw_p20, List.forall_mem_cons.mpr ⟨lw_p21, List.forall_mem_cons.mpr ⟨lw_p22, List.forall_mem_cons.mpr ⟨lw_p23, List.forall_mem_cons.mpr ⟨lw_p24, List.forall_mem_cons.mpr ⟨lw_p25, List.forall_mem_cons.mpr ⟨lw_p26, List.forall_mem_cons.mpr ⟨lw_p27, List.forall_mem_cons.mpr ⟨lw_p28, List.forall_mem_cons.mpr ⟨lw_p29, List.forall_mem_cons.mpr ⟨lw_p30, List.forall_mem_cons.mpr ⟨lw_p31, fun _ h => absurd h List.not_mem_nil⟩⟩⟩⟩⟩⟩⟩⟩⟩⟩⟩⟩⟩⟩⟩⟩
theorem lw_p32 : lw_okq (⟨"GoingAbout$Voices", "hear", "(IIIII)I"⟩, 6) := ⟨⟨by decide +kernel, by decide +kernel⟩, List.mem_of_getElem? (i := 153) (by decide +kernel), List.mem_of_getElem? (i := 610) (by decide +kernel), List.mem_of_getElem? (i := 611) (by decide +kernel)⟩
theorem lw_p33 : lw_okq (⟨"GoingAbout$Voices", "speak", "(IIII)I"⟩, 6) := ⟨⟨by decide +kernel, by decide +kernel⟩, List.mem_of_getElem? (i := 153) (by decide +kernel), List.mem_of_getElem? (i := 614) (by decide +kernel), List.mem_of_getElem? (i := 615) (by decide +kernel)⟩
theorem lw_p34 : lw_okq (⟨"GoingAbout$Voices", "workOut", "(IIII)I"⟩, 6) := ⟨⟨by decide +kernel, by decide +kernel⟩, List.mem_of_getElem? (i := 153) (by decide +kernel), List.mem_of_getElem? (i := 622) (by decide +kernel), List.mem_of_getElem? (i := 623) (by decide +kernel)⟩
theorem lw_p35 : lw_okq (⟨"GoingAbout$Voices", "part", "(I)I"⟩, 6) := ⟨⟨by decide +kernel, by decide +kernel⟩, List.mem_of_getElem? (i := 153) (by decide +kernel), List.mem_of_getElem? (i := 626) (by decide +kernel), List.mem_of_getElem? (i := 627) (by decide +kernel)⟩
theorem lw_p36 : lw_okq (⟨"GoingAbout$Voices", "partAndStir", "(III)I"⟩, 6) := ⟨⟨by decide +kernel, by decide +kernel⟩, List.mem_of_getElem? (i := 153) (by decide +kernel), List.mem_of_getElem? (i := 630) (by decide +kernel), List.mem_of_getElem? (i := 631) (by decide +kernel)⟩
theorem lw_p37 : lw_okq (⟨"GoingAbout$Sheet", "lay", "(II)V"⟩, 3) := ⟨⟨by decide +kernel, by decide +kernel⟩, List.mem_of_getElem? (i := 182) (by decide +kernel), List.mem_of_getElem? (i := 642) (by decide +kernel), List.mem_of_getElem? (i := 643) (by decide +kernel)⟩
theorem lw_p38 : lw_okq (⟨"GoingAbout$Sheet", "write", "(II)V"⟩, 3) := ⟨⟨by decide +kernel, by decide +kernel⟩, List.mem_of_getElem? (i := 182) (by decide +kernel), List.mem_of_getElem? (i := 652) (by decide +kernel), List.mem_of_getElem? (i := 653) (by decide +kernel)⟩
theorem lw_p39 : lw_okq (⟨"GoingAbout$Sheet", "holds", "(II)Z"⟩, 3) := ⟨⟨by decide +kernel, by decide +kernel⟩, List.mem_of_getElem? (i := 182) (by decide +kernel), List.mem_of_getElem? (i := 660) (by decide +kernel), List.mem_of_getElem? (i := 661) (by decide +kernel)⟩
theorem lw_p40 : lw_okq (⟨"GoingAbout$Suburb", "copy", "(LGoingAbout$Suburb;)V"⟩, 12) := ⟨⟨by decide +kernel, by decide +kernel⟩, List.mem_of_getElem? (i := 26) (by decide +kernel), List.mem_of_getElem? (i := 678) (by decide +kernel), List.mem_of_getElem? (i := 679) (by decide +kernel)⟩
theorem lw_p41 : lw_okq (⟨"GoingAboutModel", "error", "(I)I"⟩, 22) := ⟨⟨by decide +kernel, by decide +kernel⟩, List.mem_of_getElem? (i := 705) (by decide +kernel), List.mem_of_getElem? (i := 785) (by decide +kernel), List.mem_of_getElem? (i := 786) (by decide +kernel)⟩
theorem lw_p42 : lw_okq (⟨"GoingAboutModel", "whole", "()Z"⟩, 22) := ⟨⟨by decide +kernel, by decide +kernel⟩, List.mem_of_getElem? (i := 705) (by decide +kernel), List.mem_of_getElem? (i := 795) (by decide +kernel), List.mem_of_getElem? (i := 796) (by decide +kernel)⟩
theorem lw_p43 : lw_okq (⟨"GoingAboutModel", "both", "()Z"⟩, 22) := ⟨⟨by decide +kernel, by decide +kernel⟩, List.mem_of_getElem? (i := 705) (by decide +kernel), List.mem_of_getElem? (i := 799) (by decide +kernel), List.mem_of_getElem? (i := 800) (by decide +kernel)⟩
theorem lw_p44 : lw_okq (⟨"GoingAboutModel", "compared", "()Z"⟩, 22) := ⟨⟨by decide +kernel, by decide +kernel⟩, List.mem_of_getElem? (i := 705) (by decide +kernel), List.mem_of_getElem? (i := 803) (by decide +kernel), List.mem_of_getElem? (i := 804) (by decide +kernel)⟩
theorem lw_p45 : lw_okq (⟨"GoingAboutModel", "sum", "()Z"⟩, 22) := ⟨⟨by decide +kernel, by decide +kernel⟩, List.mem_of_getElem? (i := 705) (by decide +kernel), List.mem_of_getElem? (i := 807) (by decide +kernel), List.mem_of_getElem? (i := 808) (by decide +kernel)⟩
theorem lw_p46 : lw_okq (⟨"GoingAboutModel", "product", "()Z"⟩, 22) := ⟨⟨by decide +kernel, by decide +kernel⟩, List.mem_of_getElem? (i := 705) (by decide +kernel), List.mem_of_getElem? (i := 811) (by decide +kernel), List.mem_of_getElem? (i := 812) (by decide +kernel)⟩
theorem lw_p47 : lw_okq (⟨"GoingAboutModel", "one", "()Z"⟩, 22) := ⟨⟨by decide +kernel, by decide +kernel⟩, List.mem_of_getElem? (i := 705) (by decide +kernel), List.mem_of_getElem? (i := 815) (by decide +kernel), List.mem_of_getElem? (i := 816) (by decide +kernel)⟩
def lw_privs_3 : List (MethodName × Nat) := [(⟨"GoingAbout$Voices", "hear", "(IIIII)I"⟩, 6), (⟨"GoingAbout$Voices", "speak", "(IIII)I"⟩, 6), (⟨"GoingAbout$Voices", "workOut", "(IIII)I"⟩, 6), (⟨"GoingAbout$Voices", "part", "(I)I"⟩, 6), (⟨"GoingAbout$Voices", "partAndStir", "(III)I"⟩, 6), (⟨"GoingAbout$Sheet", "lay", "(II)V"⟩, 3), (⟨"GoingAbout$Sheet", "write", "(II)V"⟩, 3), (⟨"GoingAbout$Sheet", "holds", "(II)Z"⟩, 3), (⟨"GoingAbout$Suburb", "copy", "(LGoingAbout$Suburb;)V"⟩, 12), (⟨"GoingAboutModel", "error", "(I)I"⟩, 22), (⟨"GoingAboutModel", "whole", "()Z"⟩, 22), (⟨"GoingAboutModel", "both", "()Z"⟩, 22), (⟨"GoingAboutModel", "compared", "()Z"⟩, 22), (⟨"GoingAboutModel", "sum", "()Z"⟩, 22), (⟨"GoingAboutModel", "product", "()Z"⟩, 22), (⟨"GoingAboutModel", "one", "()Z"⟩, 22)]
theorem lw_r3 : ∀ q ∈ lw_privs_3, lw_okq q := List.forall_mem_cons.mpr ⟨lw_p32, List.forall_mem_cons.mpr ⟨lw_p33, List.forall_mem_cons.mpr ⟨lw_p34, List.forall_mem_cons.mpr ⟨lw_p35, List.forall_mem_cons.mpr ⟨lw_p36, List.forall_mem_cons.mpr ⟨lw_p37, List.forall_mem_cons.mpr ⟨lw_p38, List.forall_mem_cons.mpr ⟨lw_p39, List.forall_mem_cons.mpr ⟨lw_p40, List.forall_mem_cons.mpr ⟨lw_p41, List.forall_mem_cons.mpr ⟨lw_p42, List.forall_mem_cons.mpr ⟨lw_p43, List.forall_mem_cons.mpr ⟨lw_p44, List.forall_mem_cons.mpr ⟨lw_p45, List.forall_mem_cons.mpr ⟨lw_p46, List.forall_mem_cons.mpr ⟨lw_p47, fun _ h => absurd h List.not_mem_nil⟩⟩⟩⟩⟩⟩⟩⟩⟩⟩⟩⟩⟩⟩⟩⟩
theorem lw_p48 : lw_okq (⟨"GoingAboutModel", "look", "()I"⟩, 22) := ⟨⟨by decide +kernel, by decide +kernel⟩, List.mem_of_getElem? (i := 705) (by decide +kernel), List.mem_of_getElem? (i := 819) (by decide +kernel), List.mem_of_getElem? (i := 820) (by decide +kernel)⟩
theorem lw_p49 : lw_okq (⟨"GoingAboutModel", "isName", "(I)Z"⟩, 22) := ⟨⟨by decide +kernel, by decide +kernel⟩, List.mem_of_getElem? (i := 705) (by decide +kernel), List.mem_of_getElem? (i := 823) (by decide +kernel), List.mem_of_getElem? (i := 824) (by decide +kernel)⟩
theorem lw_p50 : lw_okq (⟨"GoingAboutModel", "step1", "(II)V"⟩, 22) := ⟨⟨by decide +kernel, by decide +kernel⟩, List.mem_of_getElem? (i := 705) (by decide +kernel), List.mem_of_getElem? (i := 827) (by decide +kernel), List.mem_of_getElem? (i := 828) (by decide +kernel)⟩
theorem lw_p51 : lw_okq (⟨"GoingAboutModel", "opens", "()Z"⟩, 22) := ⟨⟨by decide +kernel, by decide +kernel⟩, List.mem_of_getElem? (i := 705) (by decide +kernel), List.mem_of_getElem? (i := 831) (by decide +kernel), List.mem_of_getElem? (i := 832) (by decide +kernel)⟩
theorem lw_p52 : lw_okq (⟨"GoingAboutModel", "hasText", "(I)Z"⟩, 22) := ⟨⟨by decide +kernel, by decide +kernel⟩, List.mem_of_getElem? (i := 705) (by decide +kernel), List.mem_of_getElem? (i := 839) (by decide +kernel), List.mem_of_getElem? (i := 840) (by decide +kernel)⟩
theorem lw_p53 : lw_okq (⟨"GoingAboutModel", "lays1", "(III)V"⟩, 22) := ⟨⟨by decide +kernel, by decide +kernel⟩, List.mem_of_getElem? (i := 705) (by decide +kernel), List.mem_of_getElem? (i := 850) (by decide +kernel), List.mem_of_getElem? (i := 851) (by decide +kernel)⟩
theorem lw_p54 : lw_okq (⟨"GoingAboutModel", "isPerson", "(I)Z"⟩, 22) := ⟨⟨by decide +kernel, by decide +kernel⟩, List.mem_of_getElem? (i := 705) (by decide +kernel), List.mem_of_getElem? (i := 858) (by decide +kernel), List.mem_of_getElem? (i := 859) (by decide +kernel)⟩
theorem lw_p55 : lw_okq (⟨"GoingAboutModel", "its", "(II)I"⟩, 22) := ⟨⟨by decide +kernel, by decide +kernel⟩, List.mem_of_getElem? (i := 705) (by decide +kernel), List.mem_of_getElem? (i := 862) (by decide +kernel), List.mem_of_getElem? (i := 863) (by decide +kernel)⟩
theorem lw_p56 : lw_okq (⟨"GoingAboutModel", "change1", "(II)I"⟩, 22) := ⟨⟨by decide +kernel, by decide +kernel⟩, List.mem_of_getElem? (i := 705) (by decide +kernel), List.mem_of_getElem? (i := 870) (by decide +kernel), List.mem_of_getElem? (i := 871) (by decide +kernel)⟩
theorem lw_p57 : lw_okq (⟨"GoingAboutModel", "areTwo", "(II)Z"⟩, 22) := ⟨⟨by decide +kernel, by decide +kernel⟩, List.mem_of_getElem? (i := 705) (by decide +kernel), List.mem_of_getElem? (i := 893) (by decide +kernel), List.mem_of_getElem? (i := 894) (by decide +kernel)⟩
theorem lw_p58 : lw_okq (⟨"GoingAboutModel", "takes", "(II)I"⟩, 22) := ⟨⟨by decide +kernel, by decide +kernel⟩, List.mem_of_getElem? (i := 705) (by decide +kernel), List.mem_of_getElem? (i := 897) (by decide +kernel), List.mem_of_getElem? (i := 898) (by decide +kernel)⟩
theorem lw_p59 : lw_okq (⟨"GoingAboutModel", "readsOf", "(II)I"⟩, 22) := ⟨⟨by decide +kernel, by decide +kernel⟩, List.mem_of_getElem? (i := 705) (by decide +kernel), List.mem_of_getElem? (i := 901) (by decide +kernel), List.mem_of_getElem? (i := 902) (by decide +kernel)⟩
theorem lw_p60 : lw_okq (⟨"GoingAboutModel", "takesTold", "(III)I"⟩, 22) := ⟨⟨by decide +kernel, by decide +kernel⟩, List.mem_of_getElem? (i := 705) (by decide +kernel), List.mem_of_getElem? (i := 905) (by decide +kernel), List.mem_of_getElem? (i := 906) (by decide +kernel)⟩
theorem lw_p61 : lw_okq (⟨"GoingAboutModel", "worked", "(I)I"⟩, 22) := ⟨⟨by decide +kernel, by decide +kernel⟩, List.mem_of_getElem? (i := 705) (by decide +kernel), List.mem_of_getElem? (i := 909) (by decide +kernel), List.mem_of_getElem? (i := 910) (by decide +kernel)⟩
theorem lw_p62 : lw_okq (⟨"GoingAboutModel", "calls", "(II)I"⟩, 22) := ⟨⟨by decide +kernel, by decide +kernel⟩, List.mem_of_getElem? (i := 705) (by decide +kernel), List.mem_of_getElem? (i := 923) (by decide +kernel), List.mem_of_getElem? (i := 924) (by decide +kernel)⟩
theorem lw_p63 : lw_okq (⟨"GoingAboutModel", "signTold", "(III)I"⟩, 22) := ⟨⟨by decide +kernel, by decide +kernel⟩, List.mem_of_getElem? (i := 705) (by decide +kernel), List.mem_of_getElem? (i := 931) (by decide +kernel), List.mem_of_getElem? (i := 932) (by decide +kernel)⟩
def lw_privs_4 : List (MethodName × Nat) := [(⟨"GoingAboutModel", "look", "()I"⟩, 22), (⟨"GoingAboutModel", "isName", "(I)Z"⟩, 22), (⟨"GoingAboutModel", "step1", "(II)V"⟩, 22), (⟨"GoingAboutModel", "opens", "()Z"⟩, 22), (⟨"GoingAboutModel", "hasText", "(I)Z"⟩, 22), (⟨"GoingAboutModel", "lays1", "(III)V"⟩, 22), (⟨"GoingAboutModel", "isPerson", "(I)Z"⟩, 22), (⟨"GoingAboutModel", "its", "(II)I"⟩, 22), (⟨"GoingAboutModel", "change1", "(II)I"⟩, 22), (⟨"GoingAboutModel", "areTwo", "(II)Z"⟩, 22), (⟨"GoingAboutModel", "takes", "(II)I"⟩, 22), (⟨"GoingAboutModel", "readsOf", "(II)I"⟩, 22), (⟨"GoingAboutModel", "takesTold", "(III)I"⟩, 22), (⟨"GoingAboutModel", "worked", "(I)I"⟩, 22), (⟨"GoingAboutModel", "calls", "(II)I"⟩, 22), (⟨"GoingAboutModel", "signTold", "(III)I"⟩, 22)]
theorem lw_r4 : ∀ q ∈ lw_privs_4, lw_okq q := List.forall_mem_cons.mpr ⟨lw_p48, List.forall_mem_cons.mpr ⟨lw_p49, List.forall_mem_cons.mpr ⟨lw_p50, List.forall_mem_cons.mpr ⟨lw_p51, List.forall_mem_cons.mpr ⟨lw_p52, List.forall_mem_cons.mpr ⟨lw_p53, List.forall_mem_cons.mpr ⟨lw_p54, List.forall_mem_cons.mpr ⟨lw_p55, List.forall_mem_cons.mpr ⟨lw_p56, List.forall_mem_cons.mpr ⟨lw_p57, List.forall_mem_cons.mpr ⟨lw_p58, List.forall_mem_cons.mpr ⟨lw_p59, List.forall_mem_cons.mpr ⟨lw_p60, List.forall_mem_cons.mpr ⟨lw_p61, List.forall_mem_cons.mpr ⟨lw_p62, List.forall_mem_cons.mpr ⟨lw_p63, fun _ h => absurd h List.not_mem_nil⟩⟩⟩⟩⟩⟩⟩⟩⟩⟩⟩⟩⟩⟩⟩⟩
theorem lw_p64 : lw_okq (⟨"GoingAboutModel", "whyNot", "(II)I"⟩, 22) := ⟨⟨by decide +kernel, by decide +kernel⟩, List.mem_of_getElem? (i := 705) (by decide +kernel), List.mem_of_getElem? (i := 939) (by decide +kernel), List.mem_of_getElem? (i := 940) (by decide +kernel)⟩
theorem lw_p65 : lw_okq (⟨"GoingAboutModel", "goes", "(I)V"⟩, 22) := ⟨⟨by decide +kernel, by decide +kernel⟩, List.mem_of_getElem? (i := 705) (by decide +kernel), List.mem_of_getElem? (i := 943) (by decide +kernel), List.mem_of_getElem? (i := 944) (by decide +kernel)⟩
theorem lw_p66 : lw_okq (⟨"GoingAboutModel", "aDay", "()V"⟩, 22) := ⟨⟨by decide +kernel, by decide +kernel⟩, List.mem_of_getElem? (i := 705) (by decide +kernel), List.mem_of_getElem? (i := 947) (by decide +kernel), List.mem_of_getElem? (i := 948) (by decide +kernel)⟩
theorem lw_p67 : lw_okq (⟨"GoingAboutModel", "findThen", "()V"⟩, 22) := ⟨⟨by decide +kernel, by decide +kernel⟩, List.mem_of_getElem? (i := 705) (by decide +kernel), List.mem_of_getElem? (i := 951) (by decide +kernel), List.mem_of_getElem? (i := 952) (by decide +kernel)⟩
theorem lw_p68 : lw_okq (⟨"GoingAboutModel", "signOf", "(I)I"⟩, 22) := ⟨⟨by decide +kernel, by decide +kernel⟩, List.mem_of_getElem? (i := 705) (by decide +kernel), List.mem_of_getElem? (i := 955) (by decide +kernel), List.mem_of_getElem? (i := 956) (by decide +kernel)⟩
theorem lw_p69 : lw_okq (⟨"GoingAboutModel", "tellsOf", "(I)I"⟩, 22) := ⟨⟨by decide +kernel, by decide +kernel⟩, List.mem_of_getElem? (i := 705) (by decide +kernel), List.mem_of_getElem? (i := 959) (by decide +kernel), List.mem_of_getElem? (i := 960) (by decide +kernel)⟩
theorem lw_p70 : lw_okq (⟨"GoingAboutModel", "errands", "()V"⟩, 22) := ⟨⟨by decide +kernel, by decide +kernel⟩, List.mem_of_getElem? (i := 705) (by decide +kernel), List.mem_of_getElem? (i := 967) (by decide +kernel), List.mem_of_getElem? (i := 968) (by decide +kernel)⟩
theorem lw_p71 : lw_okq (⟨"GoingAboutModel", "draw", "()I"⟩, 22) := ⟨⟨by decide +kernel, by decide +kernel⟩, List.mem_of_getElem? (i := 705) (by decide +kernel), List.mem_of_getElem? (i := 971) (by decide +kernel), List.mem_of_getElem? (i := 972) (by decide +kernel)⟩
theorem lw_p72 : lw_okq (⟨"GoingAboutModel", "nearestNow", "()I"⟩, 22) := ⟨⟨by decide +kernel, by decide +kernel⟩, List.mem_of_getElem? (i := 705) (by decide +kernel), List.mem_of_getElem? (i := 976) (by decide +kernel), List.mem_of_getElem? (i := 977) (by decide +kernel)⟩
theorem lw_p73 : lw_okq (⟨"GoingAboutModel", "layDown", "()V"⟩, 22) := ⟨⟨by decide +kernel, by decide +kernel⟩, List.mem_of_getElem? (i := 705) (by decide +kernel), List.mem_of_getElem? (i := 988) (by decide +kernel), List.mem_of_getElem? (i := 989) (by decide +kernel)⟩
theorem lw_p74 : lw_okq (⟨"GoingAboutModel", "layBack", "()V"⟩, 22) := ⟨⟨by decide +kernel, by decide +kernel⟩, List.mem_of_getElem? (i := 705) (by decide +kernel), List.mem_of_getElem? (i := 992) (by decide +kernel), List.mem_of_getElem? (i := 993) (by decide +kernel)⟩
theorem lw_p75 : lw_okq (⟨"GoingAboutModel", "isSettled", "()Z"⟩, 22) := ⟨⟨by decide +kernel, by decide +kernel⟩, List.mem_of_getElem? (i := 705) (by decide +kernel), List.mem_of_getElem? (i := 1004) (by decide +kernel), List.mem_of_getElem? (i := 1005) (by decide +kernel)⟩
theorem lw_p76 : lw_okq (⟨"GoingAboutModel", "doesLead", "(IIII)Z"⟩, 22) := ⟨⟨by decide +kernel, by decide +kernel⟩, List.mem_of_getElem? (i := 705) (by decide +kernel), List.mem_of_getElem? (i := 1019) (by decide +kernel), List.mem_of_getElem? (i := 1020) (by decide +kernel)⟩
theorem lw_p77 : lw_okq (⟨"GoingAboutModel", "lacks", "(I)I"⟩, 22) := ⟨⟨by decide +kernel, by decide +kernel⟩, List.mem_of_getElem? (i := 705) (by decide +kernel), List.mem_of_getElem? (i := 1038) (by decide +kernel), List.mem_of_getElem? (i := 1039) (by decide +kernel)⟩
theorem lw_p78 : lw_okq (⟨"GoingAboutModel", "isSoBy", "(IIII)Z"⟩, 22) := ⟨⟨by decide +kernel, by decide +kernel⟩, List.mem_of_getElem? (i := 705) (by decide +kernel), List.mem_of_getElem? (i := 1045) (by decide +kernel), List.mem_of_getElem? (i := 1046) (by decide +kernel)⟩
theorem lw_p79 : lw_okq (⟨"GoingAboutModel", "areNearSo", "(I)Z"⟩, 22) := ⟨⟨by decide +kernel, by decide +kernel⟩, List.mem_of_getElem? (i := 705) (by decide +kernel), List.mem_of_getElem? (i := 1049) (by decide +kernel), List.mem_of_getElem? (i := 1050) (by decide +kernel)⟩
def lw_privs_5 : List (MethodName × Nat) := [(⟨"GoingAboutModel", "whyNot", "(II)I"⟩, 22), (⟨"GoingAboutModel", "goes", "(I)V"⟩, 22), (⟨"GoingAboutModel", "aDay", "()V"⟩, 22), (⟨"GoingAboutModel", "findThen", "()V"⟩, 22), (⟨"GoingAboutModel", "signOf", "(I)I"⟩, 22), (⟨"GoingAboutModel", "tellsOf", "(I)I"⟩, 22), (⟨"GoingAboutModel", "errands", "()V"⟩, 22), (⟨"GoingAboutModel", "draw", "()I"⟩, 22), (⟨"GoingAboutModel", "nearestNow", "()I"⟩, 22), (⟨"GoingAboutModel", "layDown", "()V"⟩, 22), (⟨"GoingAboutModel", "layBack", "()V"⟩, 22), (⟨"GoingAboutModel", "isSettled", "()Z"⟩, 22), (⟨"GoingAboutModel", "doesLead", "(IIII)Z"⟩, 22), (⟨"GoingAboutModel", "lacks", "(I)I"⟩, 22), (⟨"GoingAboutModel", "isSoBy", "(IIII)Z"⟩, 22), (⟨"GoingAboutModel", "areNearSo", "(I)Z"⟩, 22)]
theorem lw_r5 : ∀ q ∈ lw_privs_5, lw_okq q := List.forall_mem_cons.mpr ⟨lw_p64, List.forall_mem_cons.mpr ⟨lw_p65, List.forall_mem_cons.mpr ⟨lw_p66, List.forall_mem_cons.mpr ⟨lw_p67, List.forall_mem_cons.mpr ⟨lw_p68, List.forall_mem_cons.mpr ⟨lw_p69, List.forall_mem_cons.mpr ⟨lw_p70, List.forall_mem_cons.mpr ⟨lw_p71, List.forall_mem_cons.mpr ⟨lw_p72, List.forall_mem_cons.mpr ⟨lw_p73, List.forall_mem_cons.mpr ⟨lw_p74, List.forall_mem_cons.mpr ⟨lw_p75, List.forall_mem_cons.mpr ⟨lw_p76, List.forall_mem_cons.mpr ⟨lw_p77, List.forall_mem_cons.mpr ⟨lw_p78, List.forall_mem_cons.mpr ⟨lw_p79, fun _ h => absurd h List.not_mem_nil⟩⟩⟩⟩⟩⟩⟩⟩⟩⟩⟩⟩⟩⟩⟩⟩
theorem lw_p80 : lw_okq (⟨"GoingAboutModel", "kindNow", "()I"⟩, 22) := ⟨⟨by decide +kernel, by decide +kernel⟩, List.mem_of_getElem? (i := 705) (by decide +kernel), List.mem_of_getElem? (i := 1061) (by decide +kernel), List.mem_of_getElem? (i := 1062) (by decide +kernel)⟩
theorem lw_p81 : lw_okq (⟨"GoingAboutModel", "sighsAs", "(II)I"⟩, 22) := ⟨⟨by decide +kernel, by decide +kernel⟩, List.mem_of_getElem? (i := 705) (by decide +kernel), List.mem_of_getElem? (i := 1065) (by decide +kernel), List.mem_of_getElem? (i := 1066) (by decide +kernel)⟩
theorem lw_p82 : lw_okq (⟨"GoingAboutModel", "starts", "(I)V"⟩, 22) := ⟨⟨by decide +kernel, by decide +kernel⟩, List.mem_of_getElem? (i := 705) (by decide +kernel), List.mem_of_getElem? (i := 1069) (by decide +kernel), List.mem_of_getElem? (i := 1070) (by decide +kernel)⟩
theorem lw_p83 : lw_okq (⟨"GoingAboutModel", "stirsAs", "(II)I"⟩, 22) := ⟨⟨by decide +kernel, by decide +kernel⟩, List.mem_of_getElem? (i := 705) (by decide +kernel), List.mem_of_getElem? (i := 1073) (by decide +kernel), List.mem_of_getElem? (i := 1074) (by decide +kernel)⟩
theorem lw_p84 : lw_okq (⟨"GoingAboutModel", "mNow", "()I"⟩, 22) := ⟨⟨by decide +kernel, by decide +kernel⟩, List.mem_of_getElem? (i := 705) (by decide +kernel), List.mem_of_getElem? (i := 1077) (by decide +kernel), List.mem_of_getElem? (i := 1078) (by decide +kernel)⟩
theorem lw_p85 : lw_okq (⟨"GoingAboutModel", "callsAs", "(II)I"⟩, 22) := ⟨⟨by decide +kernel, by decide +kernel⟩, List.mem_of_getElem? (i := 705) (by decide +kernel), List.mem_of_getElem? (i := 1081) (by decide +kernel), List.mem_of_getElem? (i := 1082) (by decide +kernel)⟩
theorem lw_p86 : lw_okq (⟨"GoingAboutModel", "partsAs", "(II)I"⟩, 22) := ⟨⟨by decide +kernel, by decide +kernel⟩, List.mem_of_getElem? (i := 705) (by decide +kernel), List.mem_of_getElem? (i := 1085) (by decide +kernel), List.mem_of_getElem? (i := 1086) (by decide +kernel)⟩
def lw_privs_6 : List (MethodName × Nat) := [(⟨"GoingAboutModel", "kindNow", "()I"⟩, 22), (⟨"GoingAboutModel", "sighsAs", "(II)I"⟩, 22), (⟨"GoingAboutModel", "starts", "(I)V"⟩, 22), (⟨"GoingAboutModel", "stirsAs", "(II)I"⟩, 22), (⟨"GoingAboutModel", "mNow", "()I"⟩, 22), (⟨"GoingAboutModel", "callsAs", "(II)I"⟩, 22), (⟨"GoingAboutModel", "partsAs", "(II)I"⟩, 22)]
theorem lw_r6 : ∀ q ∈ lw_privs_6, lw_okq q := List.forall_mem_cons.mpr ⟨lw_p80, List.forall_mem_cons.mpr ⟨lw_p81, List.forall_mem_cons.mpr ⟨lw_p82, List.forall_mem_cons.mpr ⟨lw_p83, List.forall_mem_cons.mpr ⟨lw_p84, List.forall_mem_cons.mpr ⟨lw_p85, List.forall_mem_cons.mpr ⟨lw_p86, fun _ h => absurd h List.not_mem_nil⟩⟩⟩⟩⟩⟩⟩
def lw_privs : List (MethodName × Nat) := lw_privs_1 ++ (lw_privs_2 ++ (lw_privs_3 ++ (lw_privs_4 ++ (lw_privs_5 ++ (lw_privs_6)))))
def lw_tbl : List Cond := k2_sels lw_privs ++ tables_1
theorem lw_privs_ok : ∀ q ∈ lw_privs, lw_okq q := by
  show ∀ q ∈ lw_privs_1 ++ (lw_privs_2 ++ (lw_privs_3 ++ (lw_privs_4 ++ (lw_privs_5 ++ (lw_privs_6))))), lw_okq q
  exact List.forall_mem_append.mpr ⟨lw_r1, List.forall_mem_append.mpr ⟨lw_r2, List.forall_mem_append.mpr ⟨lw_r3, List.forall_mem_append.mpr ⟨lw_r4, List.forall_mem_append.mpr ⟨lw_r5, lw_r6⟩⟩⟩⟩⟩
-- ===== end of PART A; then your names; then what follows =====
theorem goodIn_r {big : List Cond} (ws : List Cond) (ps : List Nat) (hp : ws = ps.filterMap (fun i => big[i]?)) (h : ws.all goodWord = true) : GoodIn big ws := by
  intro w hw
  have h1 := List.all_eq_true.mp h w hw
  rw [hp] at hw
  obtain ⟨i, -, hi⟩ := List.mem_filterMap.mp hw
  have hm : w ∈ big := by first | exact List.mem_of_getElem? hi | exact List.getElem?_mem hi
  exact ⟨hm, good_of_word h1⟩
theorem goodIn_app {big a b : List Cond} (ha : GoodIn big a) (hb : GoodIn big b) : GoodIn big (a ++ b) := fun w h => (List.mem_append.mp h).elim (ha w) (hb w)
theorem goodIn_ca {big a b : List Cond} {c : Cond} (ha : GoodIn big (c :: a)) (hb : GoodIn big b) : GoodIn big (c :: (a ++ b)) := fun w h => (List.mem_cons.mp h).elim (fun e => ha w (List.mem_cons.mpr (Or.inl e))) (fun h => (List.mem_append.mp h).elim (fun h => ha w (List.mem_cons.mpr (Or.inr h))) (hb w))
theorem goodIn_sub {big ws : List Cond} (hm : ∀ w ∈ ws, w ∈ big) (h : ws.all goodWord = true) : GoodIn big ws := fun w hw => ⟨hm w hw, good_of_word (List.all_eq_true.mp h w hw)⟩
def RX0 : String := "GoingAbout$Law"
def TX0 : u_T := fun k => match k with
  | 0 => ("GoingAbout$Law", "most", "I", true)
  | 1 => ("GoingAbout$Law", "steps", "[I", true)
  | 2 => ("GoingAbout$Law", "size", "I", false)
  | _ => ("GoingAbout$Law", "stack", "[I", true)
def tyX0 : Nat → FieldType := fun k => match k with
  | 0 => .int
  | 1 => .array .int
  | 2 => .int
  | _ => .array .int
abbrev wsX00 : List Cond := u_ws RX0 TX0 4
theorem nmX0 : ∀ a, a < 4 → ∀ b, b < 4 → a ≠ b → (TX0 a).2.1 ≠ (TX0 b).2.1 := by decide +kernel
theorem tyX0_ok : ∀ k, k < 4 → parseFieldDescriptor (TX0 k).2.2.1 = some (tyX0 k) := by decide +kernel
abbrev cX0_init : ByteArray := prog_2_method_1_code
def yX0_init : MethodName := ⟨RX0, "<init>", "(I)V"⟩
abbrev cX0_copy : ByteArray := prog_2_method_2_code
def yX0_copy : MethodName := ⟨RX0, "copy", "([II)V"⟩
abbrev cX0_gives : ByteArray := prog_2_method_3_code
def yX0_gives : MethodName := ⟨RX0, "gives", "(III)I"⟩
abbrev cX0_named : ByteArray := prog_2_method_4_code
def yX0_named : MethodName := ⟨RX0, "named", "(IIII)I"⟩
abbrev cX0_joined : ByteArray := prog_2_method_5_code
def yX0_joined : MethodName := ⟨RX0, "joined", "(III)I"⟩
def RX1 : String := "GoingAbout$Reading"
def TX1 : u_T := fun k => match k with
  | 0 => ("GoingAbout$Reading", "bytes", "[B", true)
  | 1 => ("GoingAbout$Reading", "length", "I", false)
  | 2 => ("GoingAbout$Reading", "place", "I", false)
  | 3 => ("GoingAbout$Reading", "names", "Ljava/lang/String;", false)
  | 4 => ("GoingAbout$Reading", "steps", "[I", true)
  | _ => ("GoingAbout$Reading", "size", "I", false)
def tyX1 : Nat → FieldType := fun k => match k with
  | 0 => .array .byte
  | 1 => .int
  | 2 => .int
  | 3 => .object "java/lang/String"
  | 4 => .array .int
  | _ => .int
abbrev wsX10 : List Cond := u_ws RX1 TX1 6
theorem nmX1 : ∀ a, a < 6 → ∀ b, b < 6 → a ≠ b → (TX1 a).2.1 ≠ (TX1 b).2.1 := by decide +kernel
theorem tyX1_ok : ∀ k, k < 6 → parseFieldDescriptor (TX1 k).2.2.1 = some (tyX1 k) := by decide +kernel
abbrev cX1_init : ByteArray := prog_3_method_1_code
def yX1_init : MethodName := ⟨RX1, "<init>", "()V"⟩
abbrev cX1_read : ByteArray := prog_3_method_2_code
def yX1_read : MethodName := ⟨RX1, "read", "([BIILGoingAbout$Law;)I"⟩
abbrev cX1_step : ByteArray := prog_3_method_3_code
def yX1_step : MethodName := ⟨RX1, "step", "(I)V"⟩
abbrev cX1_levelOf : ByteArray := prog_3_method_4_code
def yX1_levelOf : MethodName := ⟨RX1, "levelOf", "(I)I"⟩
abbrev cX1_readLevel : ByteArray := prog_3_method_5_code
def yX1_readLevel : MethodName := ⟨RX1, "readLevel", "(II)Z"⟩
abbrev cX1_readInner : ByteArray := prog_3_method_6_code
def yX1_readInner : MethodName := ⟨RX1, "readInner", "(I)Z"⟩
abbrev cX1_readClosing : ByteArray := prog_3_method_7_code
def yX1_readClosing : MethodName := ⟨RX1, "readClosing", "()Z"⟩
abbrev cX1_readNumber : ByteArray := prog_3_method_8_code
def yX1_readNumber : MethodName := ⟨RX1, "readNumber", "()Z"⟩
abbrev cX1_isDigit : ByteArray := prog_3_method_9_code
def yX1_isDigit : MethodName := ⟨RX1, "isDigit", "(I)Z"⟩
def RX2 : String := "GoingAbout$Sheet"
def TX2 : u_T := fun k => match k with
  | 0 => ("GoingAbout$Sheet", "bits", "I", false)
  | 1 => ("GoingAbout$Sheet", "size", "I", false)
  | _ => ("GoingAbout$Sheet", "numbers", "[I", true)
def tyX2 : Nat → FieldType := fun k => match k with
  | 0 => .int
  | 1 => .int
  | _ => .array .int
abbrev wsX20 : List Cond := u_ws RX2 TX2 3
theorem nmX2 : ∀ a, a < 3 → ∀ b, b < 3 → a ≠ b → (TX2 a).2.1 ≠ (TX2 b).2.1 := by decide +kernel
theorem tyX2_ok : ∀ k, k < 3 → parseFieldDescriptor (TX2 k).2.2.1 = some (tyX2 k) := by decide +kernel
abbrev cX2_init : ByteArray := prog_4_method_1_code
def yX2_init : MethodName := ⟨RX2, "<init>", "()V"⟩
abbrev cX2_isMissing : ByteArray := prog_4_method_2_code
def yX2_isMissing : MethodName := ⟨RX2, "isMissing", "()Z"⟩
abbrev cX2_lay : ByteArray := prog_4_method_3_code
def yX2_lay : MethodName := ⟨RX2, "lay", "(II)V"⟩
abbrev cX2_write : ByteArray := prog_4_method_4_code
def yX2_write : MethodName := ⟨RX2, "write", "(II)V"⟩
abbrev cX2_holds : ByteArray := prog_4_method_5_code
def yX2_holds : MethodName := ⟨RX2, "holds", "(II)Z"⟩
def RX3 : String := "GoingAbout$Standing"
def TX3 : u_T := fun k => match k with
  | 0 => ("GoingAbout$Standing", "near", "[I", true)
  | 1 => ("GoingAbout$Standing", "shows", "[I", true)
  | _ => ("GoingAbout$Standing", "day", "I", false)
def tyX3 : Nat → FieldType := fun k => match k with
  | 0 => .array .int
  | 1 => .array .int
  | _ => .int
abbrev wsX30 : List Cond := u_ws RX3 TX3 3
theorem nmX3 : ∀ a, a < 3 → ∀ b, b < 3 → a ≠ b → (TX3 a).2.1 ≠ (TX3 b).2.1 := by decide +kernel
theorem tyX3_ok : ∀ k, k < 3 → parseFieldDescriptor (TX3 k).2.2.1 = some (tyX3 k) := by decide +kernel
abbrev cX3_init : ByteArray := prog_5_method_1_code
def yX3_init : MethodName := ⟨RX3, "<init>", "()V"⟩
abbrev cX3_copy : ByteArray := prog_5_method_2_code
def yX3_copy : MethodName := ⟨RX3, "copy", "(LGoingAbout$Standing;)V"⟩
def RX4 : String := "GoingAbout$Suburb"
def TX4 : u_T := fun k => match k with
  | 0 => ("GoingAbout$Suburb", "people", "I", false)
  | 1 => ("GoingAbout$Suburb", "kind", "[I", true)
  | 2 => ("GoingAbout$Suburb", "m", "[I", true)
  | 3 => ("GoingAbout$Suburb", "called", "[I", true)
  | 4 => ("GoingAbout$Suburb", "standing", "LGoingAbout$Standing;", true)
  | 5 => ("GoingAbout$Suburb", "takes", "LGoingAbout$Law;", true)
  | 6 => ("GoingAbout$Suburb", "sign", "LGoingAbout$Law;", true)
  | 7 => ("GoingAbout$Suburb", "tape", "[B", true)
  | 8 => ("GoingAbout$Suburb", "taped", "I", false)
  | 9 => ("GoingAbout$Suburb", "waits", "[I", true)
  | 10 => ("GoingAbout$Suburb", "waiting", "I", false)
  | _ => ("GoingAbout$Suburb", "z", "I", false)
def tyX4 : Nat → FieldType := fun k => match k with
  | 0 => .int
  | 1 => .array .int
  | 2 => .array .int
  | 3 => .array .int
  | 4 => .object "GoingAbout$Standing"
  | 5 => .object "GoingAbout$Law"
  | 6 => .object "GoingAbout$Law"
  | 7 => .array .byte
  | 8 => .int
  | 9 => .array .int
  | 10 => .int
  | _ => .int
abbrev wsX40 : List Cond := u_ws RX4 TX4 12
theorem nmX4 : ∀ a, a < 12 → ∀ b, b < 12 → a ≠ b → (TX4 a).2.1 ≠ (TX4 b).2.1 := by decide +kernel
theorem tyX4_ok : ∀ k, k < 12 → parseFieldDescriptor (TX4 k).2.2.1 = some (tyX4 k) := by decide +kernel
abbrev cX4_init : ByteArray := prog_6_method_1_code
def yX4_init : MethodName := ⟨RX4, "<init>", "()V"⟩
abbrev cX4_copy : ByteArray := prog_6_method_2_code
def yX4_copy : MethodName := ⟨RX4, "copy", "(LGoingAbout$Suburb;)V"⟩
abbrev cX4_has : ByteArray := prog_6_method_3_code
def yX4_has : MethodName := ⟨RX4, "has", "(I)Z"⟩
abbrev cX4_lawOf : ByteArray := prog_6_method_4_code
def yX4_lawOf : MethodName := ⟨RX4, "lawOf", "(I)LGoingAbout$Law;"⟩
abbrev cX4_join : ByteArray := prog_6_method_5_code
def yX4_join : MethodName := ⟨RX4, "join", "(III)I"⟩
abbrev cX4_meet : ByteArray := prog_6_method_6_code
def yX4_meet : MethodName := ⟨RX4, "meet", "(II)I"⟩
abbrev cX4_record : ByteArray := prog_6_method_7_code
def yX4_record : MethodName := ⟨RX4, "record", "(JI)I"⟩
abbrev cX4_draw : ByteArray := prog_6_method_8_code
def yX4_draw : MethodName := ⟨RX4, "draw", "()I"⟩
abbrev cX4_drawMoves : ByteArray := prog_6_method_9_code
def yX4_drawMoves : MethodName := ⟨RX4, "drawMoves", "()V"⟩
abbrev cX4_takenBy : ByteArray := prog_6_method_10_code
def yX4_takenBy : MethodName := ⟨RX4, "takenBy", "(IIII)I"⟩
abbrev cX4_signOf : ByteArray := prog_6_method_11_code
def yX4_signOf : MethodName := ⟨RX4, "signOf", "(ILGoingAbout$Standing;)I"⟩
abbrev cX4_nearAfter : ByteArray := prog_6_method_12_code
def yX4_nearAfter : MethodName := ⟨RX4, "nearAfter", "(ILGoingAbout$Standing;)I"⟩
abbrev cX4_pass : ByteArray := prog_6_method_13_code
def yX4_pass : MethodName := ⟨RX4, "pass", "(LGoingAbout$Standing;)Z"⟩
abbrev cX4_nearestIn : ByteArray := prog_6_method_14_code
def yX4_nearestIn : MethodName := ⟨RX4, "nearestIn", "(LGoingAbout$Standing;)I"⟩
abbrev cX4_countNearer : ByteArray := prog_6_method_15_code
def yX4_countNearer : MethodName := ⟨RX4, "countNearer", "(I)I"⟩
abbrev cX4_countTakenNearer : ByteArray := prog_6_method_16_code
def yX4_countTakenNearer : MethodName := ⟨RX4, "countTakenNearer", "(I)I"⟩
abbrev cX4_comeToFrom : ByteArray := prog_6_method_17_code
def yX4_comeToFrom : MethodName := ⟨RX4, "comeToFrom", "(I)I"⟩
abbrev cX4_readsOf : ByteArray := prog_6_method_18_code
def yX4_readsOf : MethodName := ⟨RX4, "readsOf", "(IIIII)I"⟩
abbrev cX4_tellsOf : ByteArray := prog_6_method_19_code
def yX4_tellsOf : MethodName := ⟨RX4, "tellsOf", "(IIII)I"⟩
def RX5 : String := "GoingAbout$Voices"
def TX5 : u_T := fun k => match k with
  | 0 => ("GoingAbout$Voices", "trace", "[I", true)
  | 1 => ("GoingAbout$Voices", "traced", "I", false)
  | 2 => ("GoingAbout$Voices", "parted", "Z", false)
  | 3 => ("GoingAbout$Voices", "k", "I", false)
  | 4 => ("GoingAbout$Voices", "kind", "I", false)
  | _ => ("GoingAbout$Voices", "m", "I", false)
def tyX5 : Nat → FieldType := fun k => match k with
  | 0 => .array .int
  | 1 => .int
  | 2 => .boolean
  | 3 => .int
  | 4 => .int
  | _ => .int
abbrev wsX50 : List Cond := u_ws RX5 TX5 6
theorem nmX5 : ∀ a, a < 6 → ∀ b, b < 6 → a ≠ b → (TX5 a).2.1 ≠ (TX5 b).2.1 := by decide +kernel
theorem tyX5_ok : ∀ k, k < 6 → parseFieldDescriptor (TX5 k).2.2.1 = some (tyX5 k) := by decide +kernel
abbrev cX5_init : ByteArray := prog_7_method_1_code
def yX5_init : MethodName := ⟨RX5, "<init>", "()V"⟩
abbrev cX5_hear : ByteArray := prog_7_method_2_code
def yX5_hear : MethodName := ⟨RX5, "hear", "(IIIII)I"⟩
abbrev cX5_speak : ByteArray := prog_7_method_3_code
def yX5_speak : MethodName := ⟨RX5, "speak", "(IIII)I"⟩
abbrev cX5_workOut : ByteArray := prog_7_method_4_code
def yX5_workOut : MethodName := ⟨RX5, "workOut", "(IIII)I"⟩
abbrev cX5_part : ByteArray := prog_7_method_5_code
def yX5_part : MethodName := ⟨RX5, "part", "(I)I"⟩
abbrev cX5_partAndStir : ByteArray := prog_7_method_6_code
def yX5_partAndStir : MethodName := ⟨RX5, "partAndStir", "(III)I"⟩
def RX6 : String := "GoingAbout"
def TX6 : u_T := fun k => match k with
  | 0 => ("GoingAbout", "now", "LGoingAbout$Suburb;", true)
  | 1 => ("GoingAbout", "kept", "LGoingAbout$Suburb;", true)
  | 2 => ("GoingAbout", "images", "I", false)
  | 3 => ("GoingAbout", "thought", "LGoingAbout$Standing;", true)
  | 4 => ("GoingAbout", "signed", "LGoingAbout$Standing;", true)
  | 5 => ("GoingAbout", "reading", "LGoingAbout$Reading;", true)
  | 6 => ("GoingAbout", "voices", "LGoingAbout$Voices;", true)
  | 7 => ("GoingAbout", "sheets", "[LGoingAbout$Sheet;", true)
  | _ => ("GoingAbout", "errors", "[I", true)
def tyX6 : Nat → FieldType := fun k => match k with
  | 0 => .object "GoingAbout$Suburb"
  | 1 => .object "GoingAbout$Suburb"
  | 2 => .int
  | 3 => .object "GoingAbout$Standing"
  | 4 => .object "GoingAbout$Standing"
  | 5 => .object "GoingAbout$Reading"
  | 6 => .object "GoingAbout$Voices"
  | 7 => .array (.object "GoingAbout$Sheet")
  | _ => .array .int
abbrev wsX60 : List Cond := u_ws RX6 TX6 9
theorem nmX6 : ∀ a, a < 9 → ∀ b, b < 9 → a ≠ b → (TX6 a).2.1 ≠ (TX6 b).2.1 := by decide +kernel
theorem tyX6_ok : ∀ k, k < 9 → parseFieldDescriptor (TX6 k).2.2.1 = some (tyX6 k) := by decide +kernel
abbrev cX6_init : ByteArray := prog_1_method_1_code
def yX6_init : MethodName := ⟨RX6, "<init>", "()V"⟩
abbrev cX6_person : ByteArray := prog_1_method_2_code
def yX6_person : MethodName := ⟨RX6, "person", "(III)I"⟩
abbrev cX6_personIs : ByteArray := prog_1_method_3_code
def yX6_personIs : MethodName := ⟨RX6, "personIs", "(II)I"⟩
abbrev cX6_become : ByteArray := prog_1_method_4_code
def yX6_become : MethodName := ⟨RX6, "become", "(II)I"⟩
abbrev cX6_as : ByteArray := prog_1_method_5_code
def yX6_as : MethodName := ⟨RX6, "as", "(II)I"⟩
abbrev cX6_shows : ByteArray := prog_1_method_6_code
def yX6_shows : MethodName := ⟨RX6, "shows", "(II)I"⟩
abbrev cX6_seems : ByteArray := prog_1_method_7_code
def yX6_seems : MethodName := ⟨RX6, "seems", "(II)I"⟩
abbrev cX6_taken : ByteArray := prog_1_method_8_code
def yX6_taken : MethodName := ⟨RX6, "taken", "(II)I"⟩
abbrev cX6_call : ByteArray := prog_1_method_9_code
def yX6_call : MethodName := ⟨RX6, "call", "(II)I"⟩
abbrev cX6_feed : ByteArray := prog_1_method_10_code
def yX6_feed : MethodName := ⟨RX6, "feed", "(JI)I"⟩
abbrev cX6_text : ByteArray := prog_1_method_11_code
def yX6_text : MethodName := ⟨RX6, "text", "(I)I"⟩
abbrev cX6_untell : ByteArray := prog_1_method_12_code
def yX6_untell : MethodName := ⟨RX6, "untell", "(I)I"⟩
abbrev cX6_law : ByteArray := prog_1_method_13_code
def yX6_law : MethodName := ⟨RX6, "law", "(IIII)I"⟩
abbrev cX6_days : ByteArray := prog_1_method_14_code
def yX6_days : MethodName := ⟨RX6, "days", "(I)I"⟩
abbrev cX6_loose : ByteArray := prog_1_method_15_code
def yX6_loose : MethodName := ⟨RX6, "loose", "(I)I"⟩
abbrev cX6_seed : ByteArray := prog_1_method_16_code
def yX6_seed : MethodName := ⟨RX6, "seed", "(I)I"⟩
abbrev cX6_nearest : ByteArray := prog_1_method_17_code
def yX6_nearest : MethodName := ⟨RX6, "nearest", "(I)I"⟩
abbrev cX6_then : ByteArray := prog_1_method_18_code
def yX6_then : MethodName := ⟨RX6, "then", "(III)I"⟩
abbrev cX6_settles : ByteArray := prog_1_method_19_code
def yX6_settles : MethodName := ⟨RX6, "settles", "()I"⟩
abbrev cX6_rank : ByteArray := prog_1_method_20_code
def yX6_rank : MethodName := ⟨RX6, "rank", "(I)I"⟩
abbrev cX6_signs : ByteArray := prog_1_method_21_code
def yX6_signs : MethodName := ⟨RX6, "signs", "(IIII)I"⟩
abbrev cX6_heard : ByteArray := prog_1_method_22_code
def yX6_heard : MethodName := ⟨RX6, "heard", "(I)I"⟩
abbrev cX6_odds : ByteArray := prog_1_method_23_code
def yX6_odds : MethodName := ⟨RX6, "odds", "(II)I"⟩
abbrev cX6_began : ByteArray := prog_1_method_24_code
def yX6_began : MethodName := ⟨RX6, "began", "(III)I"⟩
abbrev cX6_fits : ByteArray := prog_1_method_25_code
def yX6_fits : MethodName := ⟨RX6, "fits", "(I)I"⟩
abbrev cX6_voice : ByteArray := prog_1_method_26_code
def yX6_voice : MethodName := ⟨RX6, "voice", "(III)I"⟩
abbrev cX6_body : ByteArray := prog_1_method_27_code
def yX6_body : MethodName := ⟨RX6, "body", "(I)I"⟩
abbrev cX6_sheet : ByteArray := prog_1_method_28_code
def yX6_sheet : MethodName := ⟨RX6, "sheet", "(III)I"⟩
abbrev cX6_put : ByteArray := prog_1_method_29_code
def yX6_put : MethodName := ⟨RX6, "put", "(III)I"⟩
abbrev cX6_move : ByteArray := prog_1_method_30_code
def yX6_move : MethodName := ⟨RX6, "move", "(IIIII)I"⟩
abbrev cX6_nears : ByteArray := prog_1_method_31_code
def yX6_nears : MethodName := ⟨RX6, "nears", "(I)I"⟩
abbrev cX6_judge : ByteArray := prog_1_method_32_code
def yX6_judge : MethodName := ⟨RX6, "judge", "(I)I"⟩
abbrev cX6_image : ByteArray := prog_1_method_33_code
def yX6_image : MethodName := ⟨RX6, "image", "()I"⟩
abbrev cX6_restore : ByteArray := prog_1_method_34_code
def yX6_restore : MethodName := ⟨RX6, "restore", "()I"⟩
abbrev cX6_tell : ByteArray := prog_1_method_35_code
def yX6_tell : MethodName := ⟨RX6, "tell", "(I)I"⟩
abbrev cX6_check : ByteArray := prog_1_method_36_code
def yX6_check : MethodName := ⟨RX6, "check", "()I"⟩
abbrev cX6_count : ByteArray := prog_1_method_37_code
def yX6_count : MethodName := ⟨RX6, "count", "(I)I"⟩
abbrev cX6_told : ByteArray := prog_1_method_38_code
def yX6_told : MethodName := ⟨RX6, "told", "(I)I"⟩
abbrev cX6_error : ByteArray := prog_1_method_39_code
def yX6_error : MethodName := ⟨RX6, "error", "(I)I"⟩
abbrev cX6_isWithin : ByteArray := prog_1_method_40_code
def yX6_isWithin : MethodName := ⟨RX6, "isWithin", "(II)Z"⟩
abbrev cX6_isKind : ByteArray := prog_1_method_41_code
def yX6_isKind : MethodName := ⟨RX6, "isKind", "(I)Z"⟩
abbrev cX6_isNear : ByteArray := prog_1_method_42_code
def yX6_isNear : MethodName := ⟨RX6, "isNear", "(I)Z"⟩
abbrev cX6_isSign : ByteArray := prog_1_method_43_code
def yX6_isSign : MethodName := ⟨RX6, "isSign", "(I)Z"⟩
abbrev cX6_isUse : ByteArray := prog_1_method_44_code
def yX6_isUse : MethodName := ⟨RX6, "isUse", "(I)Z"⟩
abbrev cX6_isSheet : ByteArray := prog_1_method_45_code
def yX6_isSheet : MethodName := ⟨RX6, "isSheet", "(I)Z"⟩
abbrev cX6_isUnder : ByteArray := prog_1_method_46_code
def yX6_isUnder : MethodName := ⟨RX6, "isUnder", "(II)Z"⟩
abbrev cX6_commonDivisor : ByteArray := prog_1_method_47_code
def yX6_commonDivisor : MethodName := ⟨RX6, "commonDivisor", "(II)I"⟩
abbrev cX6_think : ByteArray := prog_1_method_48_code
def yX6_think : MethodName := ⟨RX6, "think", "(I)V"⟩
abbrev cX6_thinkSigned : ByteArray := prog_1_method_49_code
def yX6_thinkSigned : MethodName := ⟨RX6, "thinkSigned", "(II)V"⟩
abbrev cX6_nearIfSigned : ByteArray := prog_1_method_50_code
def yX6_nearIfSigned : MethodName := ⟨RX6, "nearIfSigned", "(II)I"⟩
abbrev cX6_nearestIfSigned : ByteArray := prog_1_method_51_code
def yX6_nearestIfSigned : MethodName := ⟨RX6, "nearestIfSigned", "(I)I"⟩
abbrev cX6_fewestFor : ByteArray := prog_1_method_52_code
def yX6_fewestFor : MethodName := ⟨RX6, "fewestFor", "(I)I"⟩
abbrev cX6_tellsMixed : ByteArray := prog_1_method_53_code
def yX6_tellsMixed : MethodName := ⟨RX6, "tellsMixed", "(LGoingAbout$Sheet;I)Z"⟩
def RX7 : String := "GoingAboutModel"
def TX7 : u_T := fun k => match k with
  | 0 => ("GoingAboutModel", "s", "[I", true)
  | 1 => ("GoingAboutModel", "kept", "[I", true)
  | 2 => ("GoingAboutModel", "laid", "[I", true)
  | 3 => ("GoingAboutModel", "images", "I", false)
  | 4 => ("GoingAboutModel", "errors", "[I", true)
  | 5 => ("GoingAboutModel", "at", "I", false)
  | 6 => ("GoingAboutModel", "open", "I", false)
  | 7 => ("GoingAboutModel", "steps", "I", false)
  | 8 => ("GoingAboutModel", "use", "I", false)
  | 9 => ("GoingAboutModel", "step", "[I", true)
  | 10 => ("GoingAboutModel", "named", "[I", true)
  | 11 => ("GoingAboutModel", "pile", "[I", true)
  | 12 => ("GoingAboutModel", "nearThen", "[I", true)
  | 13 => ("GoingAboutModel", "shownThen", "[I", true)
  | 14 => ("GoingAboutModel", "traced", "I", false)
  | 15 => ("GoingAboutModel", "trace", "[I", true)
  | 16 => ("GoingAboutModel", "speaks", "I", false)
  | 17 => ("GoingAboutModel", "isParted", "Z", false)
  | 18 => ("GoingAboutModel", "bits", "[I", true)
  | 19 => ("GoingAboutModel", "sizes", "[I", true)
  | 20 => ("GoingAboutModel", "number", "[I", true)
  | _ => ("GoingAboutModel", "aside", "[I", true)
def tyX7 : Nat → FieldType := fun k => match k with
  | 0 => .array .int
  | 1 => .array .int
  | 2 => .array .int
  | 3 => .int
  | 4 => .array .int
  | 5 => .int
  | 6 => .int
  | 7 => .int
  | 8 => .int
  | 9 => .array .int
  | 10 => .array .int
  | 11 => .array .int
  | 12 => .array .int
  | 13 => .array .int
  | 14 => .int
  | 15 => .array .int
  | 16 => .int
  | 17 => .boolean
  | 18 => .array .int
  | 19 => .array .int
  | 20 => .array .int
  | _ => .array .int
abbrev wsX70 : List Cond := u_ws RX7 TX7 22
theorem nmX7 : ∀ a, a < 22 → ∀ b, b < 22 → a ≠ b → (TX7 a).2.1 ≠ (TX7 b).2.1 := by decide +kernel
theorem tyX7_ok : ∀ k, k < 22 → parseFieldDescriptor (TX7 k).2.2.1 = some (tyX7 k) := by decide +kernel
abbrev cX7_init : ByteArray := prog_9_method_1_code
def yX7_init : MethodName := ⟨RX7, "<init>", "()V"⟩
abbrev cX7_error : ByteArray := prog_9_method_2_code
def yX7_error : MethodName := ⟨RX7, "error", "(I)I"⟩
abbrev cX7_in : ByteArray := prog_9_method_3_code
def yX7_in : MethodName := ⟨RX7, "in", "(III)Z"⟩
abbrev cX7_held : ByteArray := prog_9_method_4_code
def yX7_held : MethodName := ⟨RX7, "held", "(III)I"⟩
abbrev cX7_copyAll : ByteArray := prog_9_method_5_code
def yX7_copyAll : MethodName := ⟨RX7, "copyAll", "([I[I)V"⟩
abbrev cX7_layDown : ByteArray := prog_9_method_6_code
def yX7_layDown : MethodName := ⟨RX7, "layDown", "()V"⟩
abbrev cX7_layBack : ByteArray := prog_9_method_7_code
def yX7_layBack : MethodName := ⟨RX7, "layBack", "()V"⟩
abbrev cX7_isPerson : ByteArray := prog_9_method_8_code
def yX7_isPerson : MethodName := ⟨RX7, "isPerson", "(I)Z"⟩
abbrev cX7_areTwo : ByteArray := prog_9_method_9_code
def yX7_areTwo : MethodName := ⟨RX7, "areTwo", "(II)Z"⟩
abbrev cX7_its : ByteArray := prog_9_method_10_code
def yX7_its : MethodName := ⟨RX7, "its", "(II)I"⟩
abbrev cX7_lays1 : ByteArray := prog_9_method_11_code
def yX7_lays1 : MethodName := ⟨RX7, "lays1", "(III)V"⟩
abbrev cX7_change1 : ByteArray := prog_9_method_12_code
def yX7_change1 : MethodName := ⟨RX7, "change1", "(II)I"⟩
abbrev cX7_feed : ByteArray := prog_9_method_13_code
def yX7_feed : MethodName := ⟨RX7, "feed", "(JI)I"⟩
abbrev cX7_look : ByteArray := prog_9_method_14_code
def yX7_look : MethodName := ⟨RX7, "look", "()I"⟩
abbrev cX7_isName : ByteArray := prog_9_method_15_code
def yX7_isName : MethodName := ⟨RX7, "isName", "(I)Z"⟩
abbrev cX7_step1 : ByteArray := prog_9_method_16_code
def yX7_step1 : MethodName := ⟨RX7, "step1", "(II)V"⟩
abbrev cX7_whole : ByteArray := prog_9_method_17_code
def yX7_whole : MethodName := ⟨RX7, "whole", "()Z"⟩
abbrev cX7_both : ByteArray := prog_9_method_18_code
def yX7_both : MethodName := ⟨RX7, "both", "()Z"⟩
abbrev cX7_compared : ByteArray := prog_9_method_19_code
def yX7_compared : MethodName := ⟨RX7, "compared", "()Z"⟩
abbrev cX7_sum : ByteArray := prog_9_method_20_code
def yX7_sum : MethodName := ⟨RX7, "sum", "()Z"⟩
abbrev cX7_product : ByteArray := prog_9_method_21_code
def yX7_product : MethodName := ⟨RX7, "product", "()Z"⟩
abbrev cX7_opens : ByteArray := prog_9_method_22_code
def yX7_opens : MethodName := ⟨RX7, "opens", "()Z"⟩
abbrev cX7_one : ByteArray := prog_9_method_23_code
def yX7_one : MethodName := ⟨RX7, "one", "()Z"⟩
abbrev cX7_hasText : ByteArray := prog_9_method_24_code
def yX7_hasText : MethodName := ⟨RX7, "hasText", "(I)Z"⟩
abbrev cX7_text : ByteArray := prog_9_method_25_code
def yX7_text : MethodName := ⟨RX7, "text", "(I)I"⟩
abbrev cX7_untell : ByteArray := prog_9_method_26_code
def yX7_untell : MethodName := ⟨RX7, "untell", "(I)I"⟩
abbrev cX7_joined : ByteArray := prog_9_method_27_code
def yX7_joined : MethodName := ⟨RX7, "joined", "(III)I"⟩
abbrev cX7_worked : ByteArray := prog_9_method_28_code
def yX7_worked : MethodName := ⟨RX7, "worked", "(I)I"⟩
abbrev cX7_readsOf : ByteArray := prog_9_method_29_code
def yX7_readsOf : MethodName := ⟨RX7, "readsOf", "(II)I"⟩
abbrev cX7_tellsOf : ByteArray := prog_9_method_30_code
def yX7_tellsOf : MethodName := ⟨RX7, "tellsOf", "(I)I"⟩
abbrev cX7_takesTold : ByteArray := prog_9_method_31_code
def yX7_takesTold : MethodName := ⟨RX7, "takesTold", "(III)I"⟩
abbrev cX7_signTold : ByteArray := prog_9_method_32_code
def yX7_signTold : MethodName := ⟨RX7, "signTold", "(III)I"⟩
abbrev cX7_takes : ByteArray := prog_9_method_33_code
def yX7_takes : MethodName := ⟨RX7, "takes", "(II)I"⟩
abbrev cX7_signOf : ByteArray := prog_9_method_34_code
def yX7_signOf : MethodName := ⟨RX7, "signOf", "(I)I"⟩
abbrev cX7_findThen : ByteArray := prog_9_method_35_code
def yX7_findThen : MethodName := ⟨RX7, "findThen", "()V"⟩
abbrev cX7_aDay : ByteArray := prog_9_method_36_code
def yX7_aDay : MethodName := ⟨RX7, "aDay", "()V"⟩
abbrev cX7_goes : ByteArray := prog_9_method_37_code
def yX7_goes : MethodName := ⟨RX7, "goes", "(I)V"⟩
abbrev cX7_nearestNow : ByteArray := prog_9_method_38_code
def yX7_nearestNow : MethodName := ⟨RX7, "nearestNow", "()I"⟩
abbrev cX7_calls : ByteArray := prog_9_method_39_code
def yX7_calls : MethodName := ⟨RX7, "calls", "(II)I"⟩
abbrev cX7_draw : ByteArray := prog_9_method_40_code
def yX7_draw : MethodName := ⟨RX7, "draw", "()I"⟩
abbrev cX7_isKind : ByteArray := prog_9_method_41_code
def yX7_isKind : MethodName := ⟨RX7, "isKind", "(I)Z"⟩
abbrev cX7_person : ByteArray := prog_9_method_42_code
def yX7_person : MethodName := ⟨RX7, "person", "(III)I"⟩
abbrev cX7_personIs : ByteArray := prog_9_method_43_code
def yX7_personIs : MethodName := ⟨RX7, "personIs", "(II)I"⟩
abbrev cX7_become : ByteArray := prog_9_method_44_code
def yX7_become : MethodName := ⟨RX7, "become", "(II)I"⟩
abbrev cX7_as : ByteArray := prog_9_method_45_code
def yX7_as : MethodName := ⟨RX7, "as", "(II)I"⟩
abbrev cX7_shows : ByteArray := prog_9_method_46_code
def yX7_shows : MethodName := ⟨RX7, "shows", "(II)I"⟩
abbrev cX7_seems : ByteArray := prog_9_method_47_code
def yX7_seems : MethodName := ⟨RX7, "seems", "(II)I"⟩
abbrev cX7_taken : ByteArray := prog_9_method_48_code
def yX7_taken : MethodName := ⟨RX7, "taken", "(II)I"⟩
abbrev cX7_call : ByteArray := prog_9_method_49_code
def yX7_call : MethodName := ⟨RX7, "call", "(II)I"⟩
abbrev cX7_law : ByteArray := prog_9_method_50_code
def yX7_law : MethodName := ⟨RX7, "law", "(IIII)I"⟩
abbrev cX7_whyNot : ByteArray := prog_9_method_51_code
def yX7_whyNot : MethodName := ⟨RX7, "whyNot", "(II)I"⟩
abbrev cX7_days : ByteArray := prog_9_method_52_code
def yX7_days : MethodName := ⟨RX7, "days", "(I)I"⟩
abbrev cX7_errands : ByteArray := prog_9_method_53_code
def yX7_errands : MethodName := ⟨RX7, "errands", "()V"⟩
abbrev cX7_loose : ByteArray := prog_9_method_54_code
def yX7_loose : MethodName := ⟨RX7, "loose", "(I)I"⟩
abbrev cX7_seed : ByteArray := prog_9_method_55_code
def yX7_seed : MethodName := ⟨RX7, "seed", "(I)I"⟩
abbrev cX7_nearest : ByteArray := prog_9_method_56_code
def yX7_nearest : MethodName := ⟨RX7, "nearest", "(I)I"⟩
abbrev cX7_then : ByteArray := prog_9_method_57_code
def yX7_then : MethodName := ⟨RX7, "then", "(III)I"⟩
abbrev cX7_isSettled : ByteArray := prog_9_method_58_code
def yX7_isSettled : MethodName := ⟨RX7, "isSettled", "()Z"⟩
abbrev cX7_settles : ByteArray := prog_9_method_59_code
def yX7_settles : MethodName := ⟨RX7, "settles", "()I"⟩
abbrev cX7_rank : ByteArray := prog_9_method_60_code
def yX7_rank : MethodName := ⟨RX7, "rank", "(I)I"⟩
abbrev cX7_manyIn : ByteArray := prog_9_method_61_code
def yX7_manyIn : MethodName := ⟨RX7, "manyIn", "(I)I"⟩
abbrev cX7_doesLead : ByteArray := prog_9_method_62_code
def yX7_doesLead : MethodName := ⟨RX7, "doesLead", "(IIII)Z"⟩
abbrev cX7_signs : ByteArray := prog_9_method_63_code
def yX7_signs : MethodName := ⟨RX7, "signs", "(IIII)I"⟩
abbrev cX7_heard : ByteArray := prog_9_method_64_code
def yX7_heard : MethodName := ⟨RX7, "heard", "(I)I"⟩
abbrev cX7_divisor : ByteArray := prog_9_method_65_code
def yX7_divisor : MethodName := ⟨RX7, "divisor", "(II)I"⟩
abbrev cX7_odds : ByteArray := prog_9_method_66_code
def yX7_odds : MethodName := ⟨RX7, "odds", "(II)I"⟩
abbrev cX7_areNearSo : ByteArray := prog_9_method_67_code
def yX7_areNearSo : MethodName := ⟨RX7, "areNearSo", "(I)Z"⟩
abbrev cX7_isSoBy : ByteArray := prog_9_method_68_code
def yX7_isSoBy : MethodName := ⟨RX7, "isSoBy", "(IIII)Z"⟩
abbrev cX7_began : ByteArray := prog_9_method_69_code
def yX7_began : MethodName := ⟨RX7, "began", "(III)I"⟩
abbrev cX7_fits : ByteArray := prog_9_method_70_code
def yX7_fits : MethodName := ⟨RX7, "fits", "(I)I"⟩
abbrev cX7_starts : ByteArray := prog_9_method_71_code
def yX7_starts : MethodName := ⟨RX7, "starts", "(I)V"⟩
abbrev cX7_above : ByteArray := prog_9_method_72_code
def yX7_above : MethodName := ⟨RX7, "above", "(I)I"⟩
abbrev cX7_kindNow : ByteArray := prog_9_method_73_code
def yX7_kindNow : MethodName := ⟨RX7, "kindNow", "()I"⟩
abbrev cX7_mNow : ByteArray := prog_9_method_74_code
def yX7_mNow : MethodName := ⟨RX7, "mNow", "()I"⟩
abbrev cX7_sighsAs : ByteArray := prog_9_method_75_code
def yX7_sighsAs : MethodName := ⟨RX7, "sighsAs", "(II)I"⟩
abbrev cX7_stirsAs : ByteArray := prog_9_method_76_code
def yX7_stirsAs : MethodName := ⟨RX7, "stirsAs", "(II)I"⟩
abbrev cX7_callsAs : ByteArray := prog_9_method_77_code
def yX7_callsAs : MethodName := ⟨RX7, "callsAs", "(II)I"⟩
abbrev cX7_partsAs : ByteArray := prog_9_method_78_code
def yX7_partsAs : MethodName := ⟨RX7, "partsAs", "(II)I"⟩
abbrev cX7_voice : ByteArray := prog_9_method_79_code
def yX7_voice : MethodName := ⟨RX7, "voice", "(III)I"⟩
abbrev cX7_body : ByteArray := prog_9_method_80_code
def yX7_body : MethodName := ⟨RX7, "body", "(I)I"⟩
abbrev cX7_isSheet : ByteArray := prog_9_method_81_code
def yX7_isSheet : MethodName := ⟨RX7, "isSheet", "(I)Z"⟩
abbrev cX7_sheet : ByteArray := prog_9_method_82_code
def yX7_sheet : MethodName := ⟨RX7, "sheet", "(III)I"⟩
abbrev cX7_put : ByteArray := prog_9_method_83_code
def yX7_put : MethodName := ⟨RX7, "put", "(III)I"⟩
abbrev cX7_move : ByteArray := prog_9_method_84_code
def yX7_move : MethodName := ⟨RX7, "move", "(IIIII)I"⟩
abbrev cX7_lacks : ByteArray := prog_9_method_85_code
def yX7_lacks : MethodName := ⟨RX7, "lacks", "(I)I"⟩
abbrev cX7_nears : ByteArray := prog_9_method_86_code
def yX7_nears : MethodName := ⟨RX7, "nears", "(I)I"⟩
abbrev cX7_judge : ByteArray := prog_9_method_87_code
def yX7_judge : MethodName := ⟨RX7, "judge", "(I)I"⟩
abbrev cX7_image : ByteArray := prog_9_method_88_code
def yX7_image : MethodName := ⟨RX7, "image", "()I"⟩
abbrev cX7_restore : ByteArray := prog_9_method_89_code
def yX7_restore : MethodName := ⟨RX7, "restore", "()I"⟩
abbrev cX7_tell : ByteArray := prog_9_method_90_code
def yX7_tell : MethodName := ⟨RX7, "tell", "(I)I"⟩
abbrev cX7_check : ByteArray := prog_9_method_91_code
def yX7_check : MethodName := ⟨RX7, "check", "()I"⟩
abbrev cX7_count : ByteArray := prog_9_method_92_code
def yX7_count : MethodName := ⟨RX7, "count", "(I)I"⟩
abbrev cX7_told : ByteArray := prog_9_method_93_code
def yX7_told : MethodName := ⟨RX7, "told", "(I)I"⟩
def RJ11 : String := "java/lang/Character"
def TJ11 : u_T := fun k => match k with
  | _ => ("", "", "", false)
def tyJ11 : Nat → FieldType := fun k => match k with
  | _ => .int
abbrev wsJ110 : List Cond := u_ws RJ11 TJ11 0
theorem nmJ11 : ∀ a, a < 0 → ∀ b, b < 0 → a ≠ b → (TJ11 a).2.1 ≠ (TJ11 b).2.1 := by decide +kernel
theorem tyJ11_ok : ∀ k, k < 0 → parseFieldDescriptor (TJ11 k).2.2.1 = some (tyJ11 k) := by decide +kernel
abbrev cJ11_isValidCodePoint_9a6ad : ByteArray := prog_10_method_11_code
def yJ11_isValidCodePoint_9a6ad : MethodName := ⟨RJ11, "isValidCodePoint", "(I)Z"⟩
abbrev cJ11_highSurrogate_5068e : ByteArray := prog_10_method_28_code
def yJ11_highSurrogate_5068e : MethodName := ⟨RJ11, "highSurrogate", "(I)C"⟩
abbrev cJ11_lowSurrogate_5068e : ByteArray := prog_10_method_29_code
def yJ11_lowSurrogate_5068e : MethodName := ⟨RJ11, "lowSurrogate", "(I)C"⟩
def RJ6 : String := "java/lang/Integer"
def TJ6 : u_T := fun k => match k with
  | _ => ("", "", "", false)
def tyJ6 : Nat → FieldType := fun k => match k with
  | _ => .int
abbrev wsJ60 : List Cond := u_ws RJ6 TJ6 0
theorem nmJ6 : ∀ a, a < 0 → ∀ b, b < 0 → a ≠ b → (TJ6 a).2.1 ≠ (TJ6 b).2.1 := by decide +kernel
theorem tyJ6_ok : ∀ k, k < 0 → parseFieldDescriptor (TJ6 k).2.2.1 = some (tyJ6 k) := by decide +kernel
abbrev cJ6_bitCount_0f7a4 : ByteArray := prog_11_method_49_code
def yJ6_bitCount_0f7a4 : MethodName := ⟨RJ6, "bitCount", "(I)I"⟩
def RJ9 : String := "java/lang/Math"
def TJ9 : u_T := fun k => match k with
  | _ => ("", "", "", false)
def tyJ9 : Nat → FieldType := fun k => match k with
  | _ => .int
abbrev wsJ90 : List Cond := u_ws RJ9 TJ9 0
theorem nmJ9 : ∀ a, a < 0 → ∀ b, b < 0 → a ≠ b → (TJ9 a).2.1 ≠ (TJ9 b).2.1 := by decide +kernel
theorem tyJ9_ok : ∀ k, k < 0 → parseFieldDescriptor (TJ9 k).2.2.1 = some (tyJ9 k) := by decide +kernel
abbrev cJ9_max_7cf53 : ByteArray := prog_12_method_65_code
def yJ9_max_7cf53 : MethodName := ⟨RJ9, "max", "(II)I"⟩
abbrev cJ9_min_7cf53 : ByteArray := prog_12_method_69_code
def yJ9_min_7cf53 : MethodName := ⟨RJ9, "min", "(II)I"⟩
def RJ0 : String := "java/lang/String"
def TJ0 : u_T := fun k => match k with
  | _ => ("", "", "", false)
def tyJ0 : Nat → FieldType := fun k => match k with
  | _ => .int
abbrev wsJ00 : List Cond := u_ws RJ0 TJ0 0
theorem nmJ0 : ∀ a, a < 0 → ∀ b, b < 0 → a ≠ b → (TJ0 a).2.1 ≠ (TJ0 b).2.1 := by decide +kernel
theorem tyJ0_ok : ∀ k, k < 0 → parseFieldDescriptor (TJ0 k).2.2.1 = some (tyJ0 k) := by decide +kernel
abbrev cJ0_length_8abf5 : ByteArray := prog_13_method_54_code
def yJ0_length_8abf5 : MethodName := ⟨RJ0, "length", "()I"⟩
abbrev cJ0_indexOf_0f7a4 : ByteArray := prog_13_method_79_code
def yJ0_indexOf_0f7a4 : MethodName := ⟨RJ0, "indexOf", "(I)I"⟩
abbrev cJ0_indexOf_7cf53 : ByteArray := prog_13_method_80_code
def yJ0_indexOf_7cf53 : MethodName := ⟨RJ0, "indexOf", "(II)I"⟩
abbrev cJ0_coder_7d493 : ByteArray := prog_13_method_152_code
def yJ0_coder_7d493 : MethodName := ⟨RJ0, "coder", "()B"⟩
abbrev cJ0_isLatin1_aae02 : ByteArray := prog_13_method_154_code
def yJ0_isLatin1_aae02 : MethodName := ⟨RJ0, "isLatin1", "()Z"⟩
abbrev cJ0_checkBoundsBeginEnd_23922 : ByteArray := prog_13_method_158_code
def yJ0_checkBoundsBeginEnd_23922 : MethodName := ⟨RJ0, "checkBoundsBeginEnd", "(III)V"⟩
def RJ1 : String := "java/lang/StringLatin1"
def TJ1 : u_T := fun k => match k with
  | _ => ("", "", "", false)
def tyJ1 : Nat → FieldType := fun k => match k with
  | _ => .int
abbrev wsJ10 : List Cond := u_ws RJ1 TJ1 0
theorem nmJ1 : ∀ a, a < 0 → ∀ b, b < 0 → a ≠ b → (TJ1 a).2.1 ≠ (TJ1 b).2.1 := by decide +kernel
theorem tyJ1_ok : ∀ k, k < 0 → parseFieldDescriptor (TJ1 k).2.2.1 = some (tyJ1 k) := by decide +kernel
abbrev cJ1_canEncode_9a6ad : ByteArray := prog_14_method_4_code
def yJ1_canEncode_9a6ad : MethodName := ⟨RJ1, "canEncode", "(I)Z"⟩
abbrev cJ1_indexOf_4cfef : ByteArray := prog_14_method_22_code
def yJ1_indexOf_4cfef : MethodName := ⟨RJ1, "indexOf", "([BIII)I"⟩
abbrev cJ1_indexOfChar_4cfef : ByteArray := prog_14_method_23_code
def yJ1_indexOfChar_4cfef : MethodName := ⟨RJ1, "indexOfChar", "([BIII)I"⟩
def RJ2 : String := "java/lang/StringUTF16"
def TJ2 : u_T := fun k => match k with
  | _ => ("", "", "", false)
def tyJ2 : Nat → FieldType := fun k => match k with
  | _ => .int
abbrev wsJ20 : List Cond := u_ws RJ2 TJ2 0
theorem nmJ2 : ∀ a, a < 0 → ∀ b, b < 0 → a ≠ b → (TJ2 a).2.1 ≠ (TJ2 b).2.1 := by decide +kernel
theorem tyJ2_ok : ∀ k, k < 0 → parseFieldDescriptor (TJ2 k).2.2.1 = some (tyJ2 k) := by decide +kernel
abbrev cJ2_getChar_3b067 : ByteArray := prog_15_method_5_code
def yJ2_getChar_3b067 : MethodName := ⟨RJ2, "getChar", "([BI)C"⟩
abbrev cJ2_length_9d52b : ByteArray := prog_15_method_6_code
def yJ2_length_9d52b : MethodName := ⟨RJ2, "length", "([B)I"⟩
abbrev cJ2_indexOf_4cfef : ByteArray := prog_15_method_40_code
def yJ2_indexOf_4cfef : MethodName := ⟨RJ2, "indexOf", "([BIII)I"⟩
abbrev cJ2_indexOfChar_4cfef : ByteArray := prog_15_method_47_code
def yJ2_indexOfChar_4cfef : MethodName := ⟨RJ2, "indexOfChar", "([BIII)I"⟩
abbrev cJ2_indexOfCharUnsafe_4cfef : ByteArray := prog_15_method_48_code
def yJ2_indexOfCharUnsafe_4cfef : MethodName := ⟨RJ2, "indexOfCharUnsafe", "([BIII)I"⟩
abbrev cJ2_indexOfSupplementary_4cfef : ByteArray := prog_15_method_49_code
def yJ2_indexOfSupplementary_4cfef : MethodName := ⟨RJ2, "indexOfSupplementary", "([BIII)I"⟩
abbrev cJ2_checkBoundsBeginEnd_d044e : ByteArray := prog_15_method_93_code
def yJ2_checkBoundsBeginEnd_d044e : MethodName := ⟨RJ2, "checkBoundsBeginEnd", "(II[B)V"⟩
def RJ10 : String := "java/lang/System"
def TJ10 : u_T := fun k => match k with
  | _ => ("", "", "", false)
def tyJ10 : Nat → FieldType := fun k => match k with
  | _ => .int
abbrev wsJ100 : List Cond := u_ws RJ10 TJ10 0
theorem nmJ10 : ∀ a, a < 0 → ∀ b, b < 0 → a ≠ b → (TJ10 a).2.1 ≠ (TJ10 b).2.1 := by decide +kernel
theorem tyJ10_ok : ∀ k, k < 0 → parseFieldDescriptor (TJ10 k).2.2.1 = some (tyJ10 k) := by decide +kernel
def RJ3 : String := "jdk/internal/util/Preconditions"
def TJ3 : u_T := fun k => match k with
  | _ => ("", "", "", false)
def tyJ3 : Nat → FieldType := fun k => match k with
  | _ => .int
abbrev wsJ30 : List Cond := u_ws RJ3 TJ3 0
theorem nmJ3 : ∀ a, a < 0 → ∀ b, b < 0 → a ≠ b → (TJ3 a).2.1 ≠ (TJ3 b).2.1 := by decide +kernel
theorem tyJ3_ok : ∀ k, k < 0 → parseFieldDescriptor (TJ3 k).2.2.1 = some (tyJ3 k) := by decide +kernel
abbrev cJ3_checkFromToIndex_8c36e : ByteArray := prog_17_method_12_code
def yJ3_checkFromToIndex_8c36e : MethodName := ⟨RJ3, "checkFromToIndex", "(IIILjava/util/function/BiFunction;)I"⟩
def RL : String := "GoingAboutLaw"
abbrev cL_law : ByteArray := code
def yL_law : MethodName := ⟨RL, "law", "([I)Z"⟩
abbrev vwCl : List vw_C := [(RX0, TX0, 4), (RX1, TX1, 6), (RX2, TX2, 3), (RX3, TX3, 3), (RX4, TX4, 12), (RX5, TX5, 6), (RX6, TX6, 9), (RX7, TX7, 22)]
